def stI (z S : Nat) (sa sk ko np st to : Nat → Int) (m : Nat) : Prop := ∀ j, j < m → j / 5 < S ∧ st j = to j ∧ (st j = -5 ∧ np (5 * (sa (j / 5)).toNat + j % 5) = -5 ∨ 0 ≤ st j ∧ st j < S ∧ 0 ≤ np (5 * (sa (j / 5)).toNat + j % 5) ∧ np (5 * (sa (j / 5)).toNat + j % 5) < z ∧ sk (ko (np (5 * (sa (j / 5)).toNat + j % 5)).toNat).toNat = st j)
theorem stI_go {z S S' : Nat} {sa sk sa' sk' ko np st to : Nat → Int} {m : Nat} (h : stI z S sa sk ko np st to m) (hS : S ≤ S') (ha : ∀ u, u < S → sa' u = sa u) (hk : ∀ j, j < z → sk (ko j).toNat ≠ -9 → sk' (ko j).toNat = sk (ko j).toNat) : stI z S' sa' sk' ko np st to m := by
  intro j hj
  obtain ⟨a, b, c⟩ := h j hj
  refine ⟨by omega, b, ?_⟩
  rw [ha _ a]
  rcases c with c | c
  · exact Or.inl c
  · right
    refine ⟨c.1, by omega, c.2.2.1, c.2.2.2.1, ?_⟩
    rw [hk _ (by omega) (by omega)]
    exact c.2.2.2.2
theorem stI_up {z S : Nat} {sa sk ko np st to : Nat → Int} {m : Nat} {x : Int} (h : stI z S sa sk ko np st to m) (hm : m / 5 < S) (hx : x = -5 ∧ np (5 * (sa (m / 5)).toNat + m % 5) = -5 ∨ 0 ≤ x ∧ x < S ∧ 0 ≤ np (5 * (sa (m / 5)).toNat + m % 5) ∧ np (5 * (sa (m / 5)).toNat + m % 5) < z ∧ sk (ko (np (5 * (sa (m / 5)).toNat + m % 5)).toNat).toNat = x) : stI z S sa sk ko np (up_ st m x) (up_ to m x) (m + 1) := by
  intro j hj
  by_cases e : j = m
  · subst e
    rw [up_at, up_at]
    exact ⟨hm, rfl, hx⟩
  · rw [up_off e, up_off e]
    exact h j (by omega)
theorem p_signs {n : Nat} (hn : 1000 ≤ n) {z : Nat} {pt me ko L np : Nat → Int} (hm : ∀ i, i < z → 0 ≤ me i ∧ me i < 64 ∧ 0 ≤ pt (me i).toNat ∧ pt (me i).toNat < 64 ∧ 0 ≤ ko i ∧ ko i < 64) (hz : z ≤ 64) (hk : ∀ i j, i < z → j < z → (pt (me i).toNat = pt (me j).toNat ↔ ko i = ko j)) (hL : ∀ i g, i < z → g < 5 → L (5 * (me i).toNat + g) = -5 ∧ np (5 * i + g) = -5 ∨ 0 ≤ np (5 * i + g) ∧ np (5 * i + g) < z ∧ L (5 * (me i).toNat + g) = me (np (5 * i + g)).toNat)
    (o1 : Int × (Nat → Int) × (Nat → Int) × (Nat → Int)) (o2 : Int × (Nat → Int) × (Nat → Int)) (ho1 : o1.2.2.2 = np) (ho2 : o2.2.1 = ko) {s S : Nat} (hs : s < S) {sp ps sk sa st to : Nat → Int} (h : SR z pt me ko S sp ps sk sa) (hst : stI z S sa sk ko np st to (5 * s)) :
    ∃ (S' : Nat) (sp' ps' sk' sa' st' to' : Nat → Int), lp_ (fun (q : Int × Int × (Nat → Int) × (Nat → Int) × (Nat → Int)) => F_X1_numberStates_L44 n ps s L pt q.1 q.2.1 q.2.2.1 q.2.2.2.1 q.2.2.2.2) n (0, (S : Int), sp, ps, st) = some ((S' : Int), sp', ps', st') ∧ lp_ (fun (q : Int × Int × (Nat → Int) × (Nat → Int) × (Nat → Int)) => F_X12_build_L53 n s o1 o2 q.1 q.2.1 q.2.2.1 q.2.2.2.1 q.2.2.2.2) n (0, (S : Int), sk, sa, to) = some ((S' : Int), sk', sa', to') ∧ SR z pt me ko S' sp' ps' sk' sa' ∧ s < S' ∧ sa' 0 = sa 0 ∧ stI z S' sa' sk' ko np st' to' (5 * (s + 1)) := by
  obtain ⟨r, q, h1, h2, S', sp', ps', sk', sa', st', to', e1, e2, h3⟩ := lp_two (f := fun (q : Int × Int × (Nat → Int) × (Nat → Int) × (Nat → Int)) => F_X1_numberStates_L44 n ps s L pt q.1 q.2.1 q.2.2.1 q.2.2.2.1 q.2.2.2.2) (g := fun (q : Int × Int × (Nat → Int) × (Nat → Int) × (Nat → Int)) => F_X12_build_L53 n s o1 o2 q.1 q.2.1 q.2.2.1 q.2.2.2.1 q.2.2.2.2)
    (fun g x y => ∃ (S' : Nat) (sp' ps' sk' sa' st' to' : Nat → Int), x = ((g : Int), (S' : Int), sp', ps', st') ∧ y = ((g : Int), (S' : Int), sk', sa', to') ∧ SR z pt me ko S' sp' ps' sk' sa' ∧ s < S' ∧ (sa' 0 = sa 0 ∧ ps' s = ps s) ∧ stI z S' sa' sk' ko np st' to' (5 * s + g))
    (fun r q => ∃ (S' : Nat) (sp' ps' sk' sa' st' to' : Nat → Int), r = ((S' : Int), sp', ps', st') ∧ q = ((S' : Int), sk', sa', to') ∧ SR z pt me ko S' sp' ps' sk' sa' ∧ s < S' ∧ sa' 0 = sa 0 ∧ stI z S' sa' sk' ko np st' to' (5 * (s + 1))) (N := 5) (n := n) (s := (0, (S : Int), sp, ps, st)) (t := (0, (S : Int), sk, sa, to)) (by omega) ⟨S, sp, ps, sk, sa, st, to, rfl, rfl, h, hs, ⟨rfl, rfl⟩, hst⟩ (fun g x y hI hg => by
    obtain ⟨S', sp', ps', sk', sa', st', to', rfl, rfl, c1, c2, c3, c4⟩ := hI
    dsimp only
    have Sl := c1.1
    by_cases hlt : g < 5
    · left
      obtain ⟨b1, b2, b3, b4⟩ := c1.2.1 s c2
      obtain ⟨i, hi⟩ : ∃ i : Nat, sa' s = (i : Int) := ⟨(sa' s).toNat, by omega⟩
      have hi2 : (sa' s).toNat = i := by omega
      have iz : i < z := by omega
      rw [hi2] at b3 b4
      have mi := hm i iz
      have ts : ((s : Int)).toNat = s := by omega
      have t1 : (me i * 5 + (g : Int)).toNat = 5 * (me i).toNat + g := by omega
      have t2 : (5 * (i : Int) + (g : Int)).toNat = 5 * i + g := by omega
      have t3 : ((s : Int) * 5 + (g : Int)).toNat = 5 * s + g := by omega
      have t4 : (5 * (s : Int) + (g : Int)).toNat = 5 * s + g := by omega
      have d1 : (5 * s + g) / 5 = s := by omega
      have d2 : (5 * s + g) % 5 = g := by omega
      unfold F_X1_numberStates_L44 F_X12_build_L53
      rw [ts, ← c3.2, b3, hi, t1, t2, t3, t4, ho1, ho2]
      rcases hL i g iz hlt with ⟨l1, l2⟩ | ⟨l1, l2, l3⟩
      · rw [l1, l2]
        refine ⟨((g : Int) + 1, (S' : Int), sp', ps', up_ st' (5 * s + g) (-5)), ((g : Int) + 1, (S' : Int), sk', sa', up_ to' (5 * s + g) (-5)), ?_, ?_, ⟨S', sp', ps', sk', sa', _, _, rfl, rfl, c1, c2, ⟨c3.1, b3⟩, stI_up c4 (by omega) (Or.inl ⟨rfl, by rw [d1, d2, hi2, l2]⟩)⟩, hlt⟩
        · exact (ck_pos (by omega)).trans ((if_pos (by omega)).trans ((bdck1 (p_past1 (by omega))).trans ((ck_pos (by omega)).trans ((bd_of (p_past0 (by omega) (by omega))).trans ((bd_of (a := ((-5 : Int), (S' : Int), sp', ps')) ((ck_pos (by omega)).trans (if_pos rfl))).trans (ck_pos (by omega)))))))
        · simp (disch := omega) only [ck_pos, if_pos, Option.bind_some]
          rfl
      · rw [l3]
        obtain ⟨j, hj⟩ : ∃ j : Nat, np (5 * i + g) = (j : Int) := ⟨(np (5 * i + g)).toNat, by omega⟩
        have hj2 : (np (5 * i + g)).toNat = j := by omega
        have mj := hm j (by omega)
        rw [hj, show ((j : Int)).toNat = j by omega]
        obtain ⟨S3, sp3, ps3, sk3, sa3, t, f1, f2, f3, f4, f5, f6, f7, f8, f9⟩ := p_stateOf (n := n) hm hz hk c1 (i := j) (by omega)
        refine ⟨((g : Int) + 1, (S3 : Int), sp3, ps3, up_ st' (5 * s + g) (t : Int)), ((g : Int) + 1, (S3 : Int), sk3, sa3, up_ to' (5 * s + g) (t : Int)), ?_, ?_, ⟨S3, sp3, ps3, sk3, sa3, _, _, rfl, rfl, f3, by omega, ⟨by rw [(f7 0 (by omega)).2, c3.1], by rw [(f7 s c2).1, b3]⟩, stI_up (stI_go c4 f6 (fun u hu => (f7 u hu).2) f8) (by omega) (Or.inr ?_)⟩, hlt⟩
        · exact (ck_pos (by omega)).trans ((if_pos (by omega)).trans ((bdck1 (p_past1 (by omega))).trans ((ck_pos (by omega)).trans ((bd_of (p_past1 (by omega))).trans ((bd_of (a := ((t : Int), (S3 : Int), sp3, ps3)) ((ck_pos (by omega)).trans ((if_neg (by omega)).trans ((bd_of f1).trans rfl)))).trans (ck_pos (by omega)))))))
        · rw [f2]
          simp (disch := omega) only [ck_pos, if_pos (c := (g : Int) < 5), if_neg, Option.bind_some]
        · rw [d1, d2, (f7 s c2).2, hi2, hj, show ((j : Int)).toNat = j by omega]
          exact ⟨by omega, by omega, by omega, by omega, f5⟩
    · right
      have : g = 5 := by omega
      subst this
      refine ⟨((S' : Int), sp', ps', st'), ((S' : Int), sk', sa', to'), ?_, ?_, S', sp', ps', sk', sa', st', to', rfl, rfl, c1, c2, c3.1, c4⟩
      · unfold F_X1_numberStates_L44
        simp (disch := omega) only [ck_pos, if_neg]
      · unfold F_X12_build_L53
        simp (disch := omega) only [ck_pos, if_neg])
  exact ⟨S', sp', ps', sk', sa', st', to', by rw [h1, e1], by rw [h2, e2], h3⟩
theorem p_states {n : Nat} (hn : 1000 ≤ n) {z : Nat} {pt me ko L np : Nat → Int} (hm : ∀ i, i < z → 0 ≤ me i ∧ me i < 64 ∧ 0 ≤ pt (me i).toNat ∧ pt (me i).toNat < 64 ∧ 0 ≤ ko i ∧ ko i < 64) (hz : z ≤ 64) (hk : ∀ i j, i < z → j < z → (pt (me i).toNat = pt (me j).toNat ↔ ko i = ko j)) (hL : ∀ i g, i < z → g < 5 → L (5 * (me i).toNat + g) = -5 ∧ np (5 * i + g) = -5 ∨ 0 ≤ np (5 * i + g) ∧ np (5 * i + g) < z ∧ L (5 * (me i).toNat + g) = me (np (5 * i + g)).toNat)
    (o1 : Int × (Nat → Int) × (Nat → Int) × (Nat → Int)) (o2 : Int × (Nat → Int) × (Nat → Int)) (ho1 : o1.2.2.2 = np) (ho2 : o2.2.1 = ko) {S : Nat} (hS : 1 ≤ S) {sp ps sk sa : Nat → Int} (st to : Nat → Int) (h : SR z pt me ko S sp ps sk sa) (h0 : sa 0 = 0) :
    ∃ (S' : Nat) (sp' ps' sk' sa' st' to' : Nat → Int), lp_ (fun (q : Int × Int × (Nat → Int) × (Nat → Int) × (Nat → Int)) => F_X1_numberStates_L21 n L pt q.1 q.2.1 q.2.2.1 q.2.2.2.1 q.2.2.2.2) n (0, (S : Int), sp, ps, st) = some ((S' : Int), sp', ps', st') ∧ lp_ (fun (q : Int × Int × (Nat → Int) × (Nat → Int) × (Nat → Int)) => F_X12_build_L43 n o1 o2 q.1 q.2.1 q.2.2.1 q.2.2.2.1 q.2.2.2.2) n (0, (S : Int), sk, sa, to) = some ((S' : Int), sk', sa', to') ∧ 1 ≤ S' ∧ SR z pt me ko S' sp' ps' sk' sa' ∧ sa' 0 = 0 ∧ stI z S' sa' sk' ko np st' to' (5 * S') := by
  obtain ⟨r, q, h1, h2, S', sp', ps', sk', sa', st', to', e1, e2, h3⟩ := lp_two (f := fun (q : Int × Int × (Nat → Int) × (Nat → Int) × (Nat → Int)) => F_X1_numberStates_L21 n L pt q.1 q.2.1 q.2.2.1 q.2.2.2.1 q.2.2.2.2) (g := fun (q : Int × Int × (Nat → Int) × (Nat → Int) × (Nat → Int)) => F_X12_build_L43 n o1 o2 q.1 q.2.1 q.2.2.1 q.2.2.2.1 q.2.2.2.2)
    (fun s x y => ∃ (S' : Nat) (sp' ps' sk' sa' st' to' : Nat → Int), x = ((s : Int), (S' : Int), sp', ps', st') ∧ y = ((s : Int), (S' : Int), sk', sa', to') ∧ 1 ≤ S' ∧ s ≤ S' ∧ SR z pt me ko S' sp' ps' sk' sa' ∧ sa' 0 = 0 ∧ stI z S' sa' sk' ko np st' to' (5 * s))
    (fun r q => ∃ (S' : Nat) (sp' ps' sk' sa' st' to' : Nat → Int), r = ((S' : Int), sp', ps', st') ∧ q = ((S' : Int), sk', sa', to') ∧ 1 ≤ S' ∧ SR z pt me ko S' sp' ps' sk' sa' ∧ sa' 0 = 0 ∧ stI z S' sa' sk' ko np st' to' (5 * S')) (N := 64) (n := n) (s := (0, (S : Int), sp, ps, st)) (t := (0, (S : Int), sk, sa, to)) (by omega) ⟨S, sp, ps, sk, sa, st, to, rfl, rfl, hS, by omega, h, h0, fun j hj => (by omega)⟩ (fun s x y hI hs => by
    obtain ⟨S', sp', ps', sk', sa', st', to', rfl, rfl, c0, c1, c2, c3, c4⟩ := hI
    dsimp only
    have Sl := c2.1
    by_cases hlt : s < S'
    · left
      obtain ⟨S3, sp3, ps3, sk3, sa3, st3, to3, f1, f2, f3, f4, f5, f6⟩ := p_signs hn hm hz hk hL o1 o2 ho1 ho2 hlt c2 c4
      refine ⟨((s : Int) + 1, (S3 : Int), sp3, ps3, st3), ((s : Int) + 1, (S3 : Int), sk3, sa3, to3), ?_, ?_, ⟨S3, sp3, ps3, sk3, sa3, st3, to3, rfl, rfl, by omega, by omega, f3, by omega, f6⟩, by omega⟩
      · refine (ck_pos (by omega)).trans ((if_pos (by omega)).trans ((ck_pos (by omega)).trans ((if_pos (by omega)).trans ((ck_pos (by omega)).trans (bd_of f1)))))
      · refine (ck_pos (by omega)).trans ((if_pos (by omega)).trans (bd_of f2))
    · right
      have : s = S' := by omega
      subst this
      refine ⟨((s : Int), sp', ps', st'), ((s : Int), sk', sa', to'), ?_, ?_, s, sp', ps', sk', sa', st', to', rfl, rfl, c0, c2, c3, c4⟩
      · refine (ck_pos (by omega)).trans (if_neg (by omega))
      · refine (ck_pos (by omega)).trans (if_neg (by omega)))
  exact ⟨S', sp', ps', sk', sa', st', to', by rw [h1, e1], by rw [h2, e2], h3⟩
