/-! machines of the model: memories -/
def plI (z : Nat) (po me : Nat → Int) : Prop := z ≤ 64 ∧ (∀ j, j < z → 0 ≤ me j ∧ me j < 64 ∧ po (me j).toNat = (j : Int)) ∧ ∀ m, m < 64 → po m = -9 ∨ 0 ≤ po m ∧ po m < z ∧ me (po m).toNat = (m : Int)
theorem plI_room {z : Nat} {po me : Nat → Int} (h : plI z po me) {m : Nat} (hm : m < 64) (h9 : po m = -9) : z < 64 := by
  obtain ⟨h1, h2, h3⟩ := h
  have e1 : ∀ j, j < z → (me j).toNat ≠ m := fun j hj e => by
    have := h2 j hj
    rw [e] at this
    omega
  have e2 : ∀ i j, i < z → j < z → (me i).toNat = (me j).toNat → i = j := fun i j hi hj e => by
    have a := h2 i hi
    have b := h2 j hj
    rw [e] at a
    omega
  have := pigeon 64 (z + 1) (fun j => if j < z then (me j).toNat else m) (fun i hi => by
    show (if i < z then (me i).toNat else m) < 64
    split
    · rename_i c
      have := h2 i c
      omega
    · exact hm) (fun i j hi hj e => by
    have e : (if i < z then (me i).toNat else m) = (if j < z then (me j).toNat else m) := e
    split at e <;> split at e
    · exact e2 i j (by assumption) (by assumption) e
    · exact absurd e (e1 i (by assumption))
    · exact absurd e.symm (e1 j (by assumption))
    · omega)
  omega
theorem p_placeFor {n z : Nat} {po me : Nat → Int} (h : plI z po me) {m : Int} (hm : 0 ≤ m ∧ m < 64) : ∃ (z' : Nat) (po' me' : Nat → Int) (j : Nat), F_X12_placeFor n z po me m = some ((j : Int), (z' : Int), po', me') ∧ plI z' po' me' ∧ j < z' ∧ me' j = m ∧ z ≤ z' ∧ (∀ i, i < z → me' i = me i) ∧ ∀ i, i < z' → i < z ∨ me' i = m := by
  obtain ⟨m, rfl⟩ : ∃ a : Nat, m = (a : Int) := ⟨m.toNat, by omega⟩
  have tm : ((m : Int)).toNat = m := by omega
  have tz : ((z : Int)).toNat = z := by omega
  have h0 := h
  obtain ⟨h1, h2, h3⟩ := h
  have hm3 := h3 m (by omega)
  unfold F_X12_placeFor
  rw [tm, tz]
  by_cases h9 : po m = -9
  · have room := plI_room h0 (by omega) h9
    refine ⟨z + 1, up_ po m z, up_ me z m, z, ?_, ⟨by omega, ?_, ?_⟩, by omega, by rw [up_at], by omega, fun i hi => up_off (by omega), fun i hi => by
      by_cases e : i = z
      · right; rw [e, up_at]
      · left; omega⟩
    · simp (disch := omega) only [ck_pos, if_pos, Option.bind_some, up_at]
      rfl
    · intro j hj
      by_cases e : j = z
      · subst e
        rw [up_at, tm, up_at]
        omega
      · have := h2 j (by omega)
        rw [up_off e]
        refine ⟨this.1, this.2.1, ?_⟩
        rw [up_off (fun x => by rw [x] at this; omega)]
        exact this.2.2
    · intro q hq
      by_cases e : q = m
      · subst e
        right
        rw [up_at, tz, up_at]
        omega
      · rw [up_off e]
        rcases h3 q hq with c | c
        · exact Or.inl c
        · right
          refine ⟨c.1, by omega, ?_⟩
          rw [up_off (by omega)]
          exact c.2.2
  · have c := hm3.resolve_left h9
    refine ⟨z, po, me, (po m).toNat, ?_, h0, by omega, c.2.2, by omega, fun i hi => rfl, fun i hi => Or.inl hi⟩
    have e : (((po m).toNat : Nat) : Int) = po m := by omega
    rw [e]
    simp (disch := omega) only [ck_pos, if_neg, Option.bind_some]
def npI (d : Nat → Nat → Int) (z : Nat) (me np : Nat → Int) (m : Nat) : Prop := ∀ j, j < m → j / 5 < z ∧ (np j = -5 ∧ d (me (j / 5)).toNat (j % 5) = -5 ∨ 0 ≤ np j ∧ np j < z ∧ d (me (j / 5)).toNat (j % 5) = me (np j).toNat)
theorem npI_go {d : Nat → Nat → Int} {z z' m : Nat} {me me' np : Nat → Int} (h : npI d z me np m) (hz : z ≤ z') (he : ∀ i, i < z → me' i = me i) : npI d z' me' np m := by
  intro j hj
  obtain ⟨a, b⟩ := h j hj
  refine ⟨by omega, ?_⟩
  rw [he _ a]
  rcases b with b | b
  · exact Or.inl b
  · right
    refine ⟨b.1, by omega, ?_⟩
    rw [he _ (by omega)]
    exact b.2.2
theorem npI_up {d : Nat → Nat → Int} {z m : Nat} {me np : Nat → Int} {x : Int} (h : npI d z me np m) (hm : m / 5 < z) (hx : x = -5 ∧ d (me (m / 5)).toNat (m % 5) = -5 ∨ 0 ≤ x ∧ x < z ∧ d (me (m / 5)).toNat (m % 5) = me x.toNat) : npI d z me (up_ np m x) (m + 1) := by
  intro j hj
  by_cases e : j = m
  · subst e
    rw [up_at]
    exact ⟨hm, hx⟩
  · rw [up_off e]
    exact h j (by omega)
theorem p_findMemories {n : Nat} (hn : 1000 ≤ n) {k : Nat} {now : Nat → Int} (hk0 : now 0 = k) (h : okR k (leM now) (ofM now) (seM now)) (po me np : Nat → Int) : ∃ (z : Nat) (po' me' np' : Nat → Int), F_X12_findMemories n po me now np = some ((z : Int), po', me', np') ∧ 1 ≤ z ∧ plI z po' me' ∧ me' 0 = 0 ∧ npI (ldS k (leM now) (ofM now) (seM now)) z me' np' (5 * z) ∧ ∀ j, j < z → me' j < 2 ^ (wd_ (ofM now) k).toNat := by
  generalize hd : ldS k (leM now) (ofM now) (seM now) = d
  have wk := h.wd k (Nat.le_refl k)
  have wk2 := p2_6 (k := (wd_ (ofM now) k).toNat) (by omega)
  generalize hB : (2 : Int) ^ (wd_ (ofM now) k).toNat = B at wk2 ⊢
  have f1 : lp_ (fun (q : Int × (Nat → Int)) => F_X12_findMemories_L2 n q.1 q.2) n (0, po) = some (ov (fun _ => -9) po 64) := by
    refine lp_for (fun i => ((i : Int), ov (fun _ => -9) po i)) 64 (by omega) (fun i hi => ?_) ?_
    · unfold F_X12_findMemories_L2
      have ti : ((i : Int)).toNat = i := by omega
      have ei : ((i + 1 : Nat) : Int) = (i : Int) + 1 := by omega
      simp (disch := omega) only [ck_pos, if_pos]
      rw [ti, ei, ← ov_up]
    · unfold F_X12_findMemories_L2
      simp (disch := omega) only [ck_pos, if_neg]
  have p0 : plI 0 (ov (fun _ => -9) po 64) me := ⟨by omega, fun j hj => by omega, fun m hm => Or.inl (ov_in hm)⟩
  obtain ⟨z1, po1, me1, j1, g1, g2, g3, g4, g5, g6, g7⟩ := p_placeFor (n := n) p0 (m := 0) (by omega)
  have j10 : j1 = 0 := by
    have a := g2.2.1 j1 g3
    rw [g4] at a
    have b := g1
    unfold F_X12_placeFor at b
    have c : ov (fun _ => -9) po 64 (0 : Int).toNat = -9 := ov_in (by decide)
    simp (disch := omega) only [ck_pos, if_pos, Option.bind_some] at b
    have b2 := congrArg (fun o : Option (Int × Int × (Nat → Int) × (Nat → Int)) => (o.getD (0, 0, po, po)).1) b
    have b3 : (0 : Int) = (j1 : Int) := b2
    omega
  subst j10
  obtain ⟨r, q1, z, po', me', np', q2, q3⟩ := lp_rule (f := fun (q : Int × Int × (Nat → Int) × (Nat → Int) × (Nat → Int)) => F_X12_findMemories_L35 n now q.1 q.2.1 q.2.2.1 q.2.2.2.1 q.2.2.2.2) (fun i s => ∃ (z : Nat) (po' me' np' : Nat → Int), s = ((i : Int), (z : Int), po', me', np') ∧ 1 ≤ z ∧ plI z po' me' ∧ me' 0 = 0 ∧ i ≤ z ∧ npI d z me' np' (5 * i) ∧ ∀ j, j < z → me' j < B)
    (fun r => ∃ (z : Nat) (po' me' np' : Nat → Int), r = ((z : Int), po', me', np') ∧ 1 ≤ z ∧ plI z po' me' ∧ me' 0 = 0 ∧ npI d z me' np' (5 * z) ∧ ∀ j, j < z → me' j < B) (N := 64) (n := n) (s := (0, (z1 : Int), po1, me1, np)) (by omega) ⟨z1, po1, me1, np, rfl, by omega, g2, g4, by omega, fun j hj => (by omega), fun j hj => (by have := (g7 j hj).resolve_left (by omega); omega)⟩ (fun i s hI hi => by
    obtain ⟨z, po', me', np', rfl, a1, a2, a3, a4, a5, a6⟩ := hI
    have zl := a2.1
    by_cases hlt : i < z
    · left
      have mi := a2.2.1 i hlt
      obtain ⟨r2, b1, z2, po2, me2, np2, b2, b3⟩ := lp_rule (f := fun (q : Int × Int × (Nat → Int) × (Nat → Int) × (Nat → Int)) => F_X12_findMemories_L45 n i now q.1 q.2.1 q.2.2.1 q.2.2.2.1 q.2.2.2.2) (fun g s => ∃ (z2 : Nat) (po2 me2 np2 : Nat → Int), s = ((g : Int), (z2 : Int), po2, me2, np2) ∧ i < z2 ∧ plI z2 po2 me2 ∧ me2 0 = 0 ∧ npI d z2 me2 np2 (5 * i + g) ∧ ∀ j, j < z2 → me2 j < B)
        (fun r => ∃ (z2 : Nat) (po2 me2 np2 : Nat → Int), r = ((z2 : Int), po2, me2, np2) ∧ i < z2 ∧ plI z2 po2 me2 ∧ me2 0 = 0 ∧ npI d z2 me2 np2 (5 * (i + 1)) ∧ ∀ j, j < z2 → me2 j < B) (N := 5) (n := n) (s := (0, (z : Int), po', me', np')) (by omega) ⟨z, po', me', np', rfl, hlt, a2, a3, a5, a6⟩ (fun g s hI hg => by
        obtain ⟨z2, po2, me2, np2, rfl, c1, c2, c3, c4, c5⟩ := hI
        have z2l := c2.1
        by_cases hlg : g < 5
        · left
          have mi := c2.2.1 i c1
          obtain ⟨M, hM⟩ : ∃ M : Nat, me2 i = (M : Int) := ⟨(me2 i).toNat, by omega⟩
          have hM2 : (me2 i).toNat = M := by omega
          have em := p_metBy hn hk0 h (mem := M) (sg := g) (by omega) (by omega)
          have ex := p_nextBy hn hk0 h (mem := M) (sg := g) (by omega) (by omega)
          have m1 := mtS_b h M g k (Nat.le_refl k)
          have ed : d M g = if mtS (leM now) (ofM now) (seM now) M g k = 0 then nxS (ofM now) (seM now) M g k else -5 := by rw [← hd]; rfl
          have ld := ldS_b h M g
          rw [hd] at ld
          have ti : ((i : Int)).toNat = i := by omega
          have tj : (5 * (i : Int) + (g : Int)).toNat = 5 * i + g := by omega
          have d1 : (5 * i + g) / 5 = i := by omega
          have d2 : (5 * i + g) % 5 = g := by omega
          dsimp only
          unfold F_X12_findMemories_L45
          rw [ti, hM, em, tj]
          by_cases hz : mtS (leM now) (ofM now) (seM now) M g k = 0
          · rw [if_pos hz] at ed
            obtain ⟨z3, po3, me3, j, e1, e2, e3, e4, e5, e6, e7⟩ := p_placeFor (n := n) c2 (m := nxS (ofM now) (seM now) M g k) (by have := nxS_b h M g k (Nat.le_refl k); omega)
            refine ⟨((g : Int) + 1, (z3 : Int), po3, me3, up_ np2 (5 * i + g) (j : Int)), ?_, ⟨z3, po3, me3, _, rfl, by omega, e2, by rw [e6 0 (by omega), c3], ?_, ?_⟩, hlg⟩
            · rw [ex]
              simp (disch := omega) only [ck_pos, if_pos, Option.bind_some]
              rw [e1]
              rfl
            · refine npI_up (npI_go c4 e5 e6) (by omega) (Or.inr ⟨by omega, by omega, ?_⟩)
              rw [d1, d2, e6 i c1, hM2, ed, show ((j : Int)).toNat = j by omega, e4]
            · intro j' hj'
              rcases e7 j' hj' with e8 | e8
              · rw [e6 j' e8]; exact c5 j' e8
              · have := nxS_b h M g k (Nat.le_refl k)
                rw [e8, ← hB]; exact this.2
          · rw [if_neg hz] at ed
            refine ⟨((g : Int) + 1, (z2 : Int), po2, me2, up_ np2 (5 * i + g) (-5)), ?_, ⟨z2, po2, me2, _, rfl, c1, c2, c3, ?_, c5⟩, hlg⟩
            · simp (disch := omega) only [ck_pos, if_neg, if_pos (c := (g : Int) < 5), Option.bind_some]
            · refine npI_up c4 (by omega) (Or.inl ⟨rfl, ?_⟩)
              rw [d1, d2, hM2, ed]
        · right
          have : g = 5 := by omega
          subst this
          refine ⟨((z2 : Int), po2, me2, np2), ?_, z2, po2, me2, np2, rfl, c1, c2, c3, c4, c5⟩
          dsimp only
          unfold F_X12_findMemories_L45
          simp (disch := omega) only [ck_pos, if_neg])
      subst b2
      refine ⟨((i : Int) + 1, (z2 : Int), po2, me2, np2), ?_, ⟨z2, po2, me2, np2, rfl, by omega, b3.2.1, b3.2.2.1, by omega, b3.2.2.2⟩, by omega⟩
      dsimp only
      unfold F_X12_findMemories_L35
      simp (disch := omega) only [ck_pos, if_pos]
      rw [b1]
      rfl
    · right
      have : i = z := by omega
      subst this
      refine ⟨((i : Int), po', me', np'), ?_, i, po', me', np', rfl, a1, a2, a3, a5, a6⟩
      dsimp only
      unfold F_X12_findMemories_L35
      simp (disch := omega) only [ck_pos, if_neg])
  subst q2
  refine ⟨z, po', me', np', ?_, q3⟩
  unfold F_X12_findMemories
  have g1' : F_X12_placeFor n 0 (ov (fun _ => -9) po 64) me 0 = some (((0 : Nat) : Int), (z1 : Int), po1, me1) := g1
  rw [f1, Option.bind_some, g1', Option.bind_some]
  exact (bd_of q1).trans rfl
