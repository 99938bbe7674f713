/-! both machines -/
theorem sl_w {w : Int} (h : 0 ≤ w ∧ w ≤ 6) : sl_ 1 w = 2 ^ w.toNat ∧ min 64 (sl_ 1 w) = ((2 ^ w.toNat : Nat) : Int) ∧ (2 ^ w.toNat : Nat) ≤ 64 ∧ 1 ≤ (2 ^ w.toNat : Nat) := by
  obtain ⟨v, rfl⟩ : ∃ v : Nat, w = (v : Int) := ⟨w.toNat, by omega⟩
  have := p2_6 (k := v) (by omega)
  have e : ((2 ^ v : Nat) : Int) = 2 ^ v := by simp
  rw [sl_nat, Int.one_mul, Int.toNat_natCast]
  omega
/-- what both machines have in common -/
def BM (n k : Nat) (le of_ se : Nat → Int) (S : Nat) (pt sp st po ko sk to : Nat → Int) : Prop := (∀ j, j < 5 * S → st j = to j) ∧ ∀ (sg : Nat → Int) (i : Nat), (∀ j, j < i → 0 ≤ sg j ∧ sg j < 5) → ∃ t : Nat, t < S ∧ F_X1_stateBehind n pt sp (paS k le of_ se sg i) = some (t : Int) ∧ F_X12_stateOf n po ko sk (paS k le of_ se sg i) = some (t : Int) ∧ (i = 0 → t = 0)
theorem p_both {n : Nat} (hn : 1000 ≤ n) {k : Nat} {now le of_ se : Nat → Int} (hk0 : now 0 = k) (h : okR k (leM now) (ofM now) (seM now)) (hag : ∀ r, r < k → leM now r = le r ∧ ofM now r = of_ r ∧ seM now r = se r) (ld pt keys finer sp ps st aw po me np ko nk sk sa to : Nat → Int) :
    ∃ (N S : Nat) (ld' pt' keys' finer' sp' ps' st' aw' : Nat → Int) (z kn : Int) (po' me' np' ko' nk' sk' sa' to' : Nat → Int), F_X1_build n k of_ se le ld pt keys finer sp ps st aw = some ((N : Int), (S : Int), ld', pt', keys', finer', sp', ps', st', aw') ∧ F_X12_build n po me now np ko nk sk sa to = some (z, kn, (S : Int), po', me', np', ko', nk', sk', sa', to') ∧ 1 ≤ S ∧ S ≤ 64 ∧ clT S st' ∧ dsI S st' (-9) aw' ∧ BM n k (leM now) (ofM now) (seM now) S pt' sp' st' po' ko' sk' to' := by
  have wk := h.wd k (Nat.le_refl k)
  obtain ⟨w1, w2, w3, w4⟩ := sl_w wk
  generalize hN : (2 ^ (wd_ (ofM now) k).toNat : Nat) = N at w2 w3 w4
  have hNi : (2 : Int) ^ (wd_ (ofM now) k).toNat = (N : Int) := by rw [← hN]; simp
  generalize hd : ldS k (leM now) (ofM now) (seM now) = d
  have db := fun p g => ldS_b h p g
  rw [hd, hNi] at db
  -- the model's places
  obtain ⟨z, po', me', np', m1, m2, m3, m4, m5, m6⟩ := p_findMemories hn hk0 h po me np
  rw [hNi] at m6
  rw [hd] at m5
  have zl := m3.1
  have npL : ∀ p g, p < z → g < 5 → np' (5 * p + g) = -5 ∨ 0 ≤ np' (5 * p + g) ∧ np' (5 * p + g) < z := fun p g hp hg => by
    have := (m5 (5 * p + g) (by omega)).2
    rcases this with c | c
    · exact Or.inl c.1
    · exact Or.inr ⟨c.1, c.2.1⟩
  obtain ⟨kn, ko', nk', k1, k2, k3⟩ := p_findKinds hn zl m2 npL ko nk
  -- the component's parts
  have h' := okR_congr hag h
  have hd' : ldS k le of_ se = d := by
    rw [← hd]
    funext p g
    unfold ldS
    rw [mtS_congr hag p g k (Nat.le_refl k), nxS_congr (fun r hr => (hag r hr).2) p g k (Nat.le_refl k)]
  have hwd : wd_ of_ k = wd_ (ofM now) k := (wd_congr (fun r hr => (hag r hr).2.1) k (Nat.le_refl k)).symm
  have lead := p_lead hn h' (N := N) w3 ld
  rw [hd'] at lead
  generalize hLd : ov (fun j => d (j / 5) (j % 5)) ld (5 * N) = L at lead
  have eL : ∀ p g, p < N → g < 5 → L (5 * p + g) = d p g := fun p g hp hg => by
    rw [← hLd, ov_in (by omega), show (5 * p + g) / 5 = p by omega, show (5 * p + g) % 5 = g by omega]
  have LL : ∀ p g, p < N → g < 5 → L (5 * p + g) = -5 ∨ 0 ≤ L (5 * p + g) ∧ L (5 * p + g) < N := fun p g hp hg => by
    rw [eL p g hp hg]
    have := db p g
    omega
  obtain ⟨pt', keys', finer', r1, r2, r3⟩ := p_rounds hn w3 w4 w2 LL (ov (fun _ => 0) pt 64) keys finer (fun p hp => ov_in (by omega))
  -- classes alike
  have hme : ∀ j, j < z → 0 ≤ me' j ∧ me' j < N ∧ (me' j).toNat < N := fun j hj => by
    have a := m3.2.1 j hj
    have b := m6 j hj
    omega
  have eqd : ∀ j p q, p < N → q < N → (eqK (fun p g => L (5 * p + g)) j p q ↔ eqK d j p q) := by
    intro j
    induction j with
    | zero => intro p q _ _; exact Iff.rfl
    | succ j ih =>
      intro p q hp hq
      have key : ∀ g, g < 5 → (((L (5 * p + g) = -5 ↔ L (5 * q + g) = -5) ∧ (L (5 * p + g) ≠ -5 → eqK (fun p g => L (5 * p + g)) j (L (5 * p + g)).toNat (L (5 * q + g)).toNat)) ↔ ((d p g = -5 ↔ d q g = -5) ∧ (d p g ≠ -5 → eqK d j (d p g).toNat (d q g).toNat))) := by
        intro g hg
        have l1 := db p g
        have l2 := db q g
        rw [eL p g hp hg, eL q g hq hg]
        constructor
        · intro e
          exact ⟨e.1, fun c => (ih _ _ (by omega) (by have : d q g ≠ -5 := fun x => c (e.1.mpr x); omega)).mp (e.2 c)⟩
        · intro e
          exact ⟨e.1, fun c => (ih _ _ (by omega) (by have : d q g ≠ -5 := fun x => c (e.1.mpr x); omega)).mpr (e.2 c)⟩
      exact ⟨fun e g hg => (key g hg).mp (e g hg), fun e g hg => (key g hg).mpr (e g hg)⟩
  have like : ∀ i j, i < z → j < z → (pt' (me' i).toNat = pt' (me' j).toNat ↔ ko' i = ko' j) := fun i j hi hj => by
    rw [r3 _ _ (hme i hi).2.2 (hme j hj).2.2, k3 i j hi hj]
    have e := fun m => (eqd m _ _ (hme i hi).2.2 (hme j hj).2.2).trans (eqK_me m5 (fun j hj => (hme j hj).1) m i j hi hj).symm
    exact ⟨fun x m => (e m).mp (x m), fun x m => (e m).mpr (x m)⟩
  have hm : ∀ i, i < z → 0 ≤ me' i ∧ me' i < 64 ∧ 0 ≤ pt' (me' i).toNat ∧ pt' (me' i).toNat < 64 ∧ 0 ≤ ko' i ∧ ko' i < 64 := fun i hi => by
    have a := hme i hi
    have b := r2 _ a.2.2
    have c := k2 i hi
    omega
  have hL : ∀ i g, i < z → g < 5 → L (5 * (me' i).toNat + g) = -5 ∧ np' (5 * i + g) = -5 ∨ 0 ≤ np' (5 * i + g) ∧ np' (5 * i + g) < z ∧ L (5 * (me' i).toNat + g) = me' (np' (5 * i + g)).toNat := fun i g hi hg => by
    have := m5 (5 * i + g) (by omega)
    rw [show (5 * i + g) / 5 = i by omega, show (5 * i + g) % 5 = g by omega, ← eL _ g (hme i hi).2.2 hg] at this
    rcases this.2 with c | c
    · exact Or.inl ⟨c.2, c.1⟩
    · exact Or.inr c
  -- states
  have f3 : lp_ (fun (q : Int × (Nat → Int)) => F_X12_build_L10 n q.1 q.2) n (0, sk) = some (ov (fun _ => -9) sk 64) := by
    refine lp_for (fun i => ((i : Int), ov (fun _ => -9) sk i)) 64 (by omega) (fun i hi => ?_) ?_
    · unfold F_X12_build_L10
      have ti : ((i : Int)).toNat = i := by omega
      have ei : ((i + 1 : Nat) : Int) = (i : Int) + 1 := by omega
      simp (disch := omega) only [ck_pos, if_pos]
      rw [ti, ei, ← ov_up]
    · unfold F_X12_build_L10
      simp (disch := omega) only [ck_pos, if_neg]
  have sr0 : SR z pt' me' ko' 0 (ov (fun _ => -1) sp 64) ps (ov (fun _ => -9) sk 64) sa := ⟨by omega, fun t ht => by omega, fun i hi => Or.inl (by
    have := hm i hi
    exact ⟨ov_in (by omega), ov_in (by omega)⟩)⟩
  obtain ⟨S1, sp1, ps1, sk1, sa1, t1, s1, s2, s3, s4, s5, s6, s7, s8, s9⟩ := p_stateOf (n := n) hm zl like sr0 (i := 0) (by omega)
  obtain ⟨s10, s11, s12⟩ := s9 rfl
  subst s10 s11
  rw [m4] at s1
  obtain ⟨S, sp', ps', sk', sa', st', to', u1, u2, u3, u4, u5, u6⟩ := p_states hn hm zl like hL ((z : Int), po', me', np') (kn, ko', nk') rfl rfl (Nat.le_refl 1) st to s3 s12
  have Sl := u4.1
  have cl : clT S st' := fun s g hs hg => by
    have := (u6 (5 * s + g) (by omega)).2.2
    rcases this with c | c
    · exact Or.inl c.1
    · exact Or.inr ⟨c.1, c.2.1⟩
  obtain ⟨aw', v1, v2⟩ := p_measure hn Sl cl aw
  refine ⟨N, S, L, pt', keys', finer', sp', ps', st', aw', z, kn, po', me', np', ko', nk', sk', sa', to', ?_, ?_, u3, Sl, cl, v2, fun j hj => (u6 j hj).2.1, fun sg i hsg => ?_⟩
  · unfold F_X1_build
    have pw := p_pastWidth hn h.1 of_
    rw [hwd] at pw
    refine (bd_of pw).trans ((ck_pos (by omega)).trans ((ck_pos (by omega)).trans ?_))
    rw [w2]
    refine (bd_of lead).trans ((bd_of (p_fill hn (N := 64) (by omega) pt 0)).trans ((bd_of r1).trans ?_))
    refine (bd_of (a := ((S : Int), sp', ps', st')) ?_).trans ((bd_of v1).trans rfl)
    unfold F_X1_numberStates
    refine (bd_of (p_fill hn (N := 64) (by omega) sp (-1))).trans ((bd_of s1).trans ((bd_of u1).trans rfl))
  · unfold F_X12_build
    refine (bd_of m1).trans ((bd_of k1).trans ((bd_of f3).trans ((bd_of s2).trans ((bd_of u2).trans rfl))))
  · have rch : ∀ i, (∀ j, j < i → 0 ≤ sg j ∧ sg j < 5) → ∃ p, p < z ∧ me' p = paS k (leM now) (ofM now) (seM now) sg i ∧ sk' (ko' p).toNat ≠ -9 := by
      intro i
      induction i with
      | zero =>
        intro _
        have a := u4.2.1 0 (by omega)
        rw [u5] at a
        exact ⟨0, by omega, m4, fun x => by have b := a.2.2.2; rw [show (0 : Int).toNat = 0 from rfl, x] at b; omega⟩
      | succ i ih =>
        intro hj
        obtain ⟨p, p1, p2, p3⟩ := ih (fun j hj' => hj j (by omega))
        have g0 := hj i (by omega)
        obtain ⟨g, hg⟩ : ∃ g : Nat, sg i = (g : Int) := ⟨(sg i).toNat, by omega⟩
        have pa : paS k (leM now) (ofM now) (seM now) sg (i + 1) = if mtS (leM now) (ofM now) (seM now) (me' p) g k = 0 then nxS (ofM now) (seM now) (me' p) g k else 0 := by rw [p2, ← hg]; rfl
        have mp := hme p p1
        have em : (((me' p).toNat : Nat) : Int) = me' p := by omega
        have ed : d (me' p).toNat g = if mtS (leM now) (ofM now) (seM now) (me' p) g k = 0 then nxS (ofM now) (seM now) (me' p) g k else -5 := by rw [← hd, ← em]; rfl
        have n1 := nxS_b h (me' p) g k (Nat.le_refl k)
        have l := m5 (5 * p + g) (by omega)
        rw [show (5 * p + g) / 5 = p by omega, show (5 * p + g) % 5 = g by omega] at l
        by_cases hz : mtS (leM now) (ofM now) (seM now) (me' p) g k = 0
        · rw [if_pos hz] at pa ed
          rcases l.2 with c | c
          · omega
          · refine ⟨(np' (5 * p + g)).toNat, by omega, by rw [pa, ← ed, c.2.2], ?_⟩
            -- the state of p
            have q := (u4.2.2 p p1).resolve_left (fun x => p3 x.2)
            obtain ⟨t, ht⟩ : ∃ t : Nat, sk' (ko' p).toNat = (t : Int) := ⟨(sk' (ko' p).toNat).toNat, by omega⟩
            have tS : t < S := by omega
            have q4 := q.2.2.2
            rw [ht, show ((t : Int)).toNat = t by omega] at q4
            have rp := u4.2.1 t tS
            have lk := (k3 (sa' t).toNat p (by omega) p1).mp q4
            have e1 := lk 1 g (by omega)
            have e1' : (np' (5 * (sa' t).toNat + g) = -5 ↔ np' (5 * p + g) = -5) := e1.1
            have stt := (u6 (5 * t + g) (by omega)).2.2
            rw [show (5 * t + g) / 5 = t by omega, show (5 * t + g) % 5 = g by omega] at stt
            rcases stt with x | x
            · have := e1'.mp x.2
              omega
            · have nn5 : np' (5 * (sa' t).toNat + g) ≠ -5 := by omega
              have e2 : ko' (np' (5 * (sa' t).toNat + g)).toNat = ko' (np' (5 * p + g)).toNat := (k3 _ _ (by omega) (by omega)).mpr (fun m => (lk (m + 1) g (by omega)).2 nn5)
              rw [← e2, x.2.2.2.2]
              omega
        · rw [if_neg hz] at pa ed
          have a := u4.2.1 0 (by omega)
          rw [u5] at a
          exact ⟨0, by omega, by rw [m4, pa], fun x => by have b := a.2.2.2; rw [show (0 : Int).toNat = 0 from rfl, x] at b; omega⟩
    obtain ⟨p, p1, p2, p3⟩ := rch i hsg
    have q := (u4.2.2 p p1).resolve_left (fun x => p3 x.2)
    have mp := hm p p1
    have mp2 := m3.2.1 p p1
    rw [← p2]
    refine ⟨(sp' (pt' (me' p).toNat).toNat).toNat, by omega, ?_, ?_, fun h0 => ?_⟩
    · unfold F_X1_stateBehind
      have e : some (((sp' (pt' (me' p).toNat).toNat).toNat : Nat) : Int) = some (max 0 (sp' (pt' (me' p).toNat).toNat)) := by congr 1; omega
      rw [e]
      exact (bd_of (p_past1 (by omega))).trans ((bd_of (a := pt' (me' p).toNat) ((ck_pos (by omega)).trans ((if_neg (by omega)).trans (ck_pos (by omega))))).trans ((bd_of (p_past1 (by omega))).trans ((bd_of (a := max 0 (sp' (pt' (me' p).toNat).toNat)) ((ck_pos (by omega)).trans ((if_neg (by omega)).trans ((ck_pos (by omega)).trans (ck_pos (by omega)))))).trans rfl)))
    · unfold F_X12_stateOf
      have e : some (((sp' (pt' (me' p).toNat).toNat).toNat : Nat) : Int) = some (sk' (ko' p).toNat) := by congr 1; omega
      have tp : ((p : Int)).toNat = p := by omega
      rw [mp2.2.2, tp, e]
      refine (ck_pos (by omega)).trans ((ck_pos (by omega)).trans (ck_pos (by omega)))
    · subst h0
      have a := u4.2.1 0 (by omega)
      rw [u5] at a
      have e0 : me' p = 0 := p2
      have b0 := (m3.2.1 0 (by omega)).2.2
      rw [m4] at b0
      have bp := mp2.2.2
      rw [e0] at bp
      have ep : p = 0 := by omega
      subst ep
      have a4 := a.2.2.2
      rw [show (0 : Int).toNat = 0 from rfl] at a4
      omega
/-- what the component's machine is, by the model's -/
def MC (n k : Nat) (le of_ se : Nat → Int) (S : Nat) (pt sp st aw : Nat → Int) : Prop := 1 ≤ S ∧ S ≤ 64 ∧ clT S st ∧ dsI S st (-9) aw ∧ ∀ now : Nat → Int, now 0 = k → (∀ r, r < k → leM now r = le r ∧ ofM now r = of_ r ∧ seM now r = se r) → ∀ po me np ko nk sk sa to : Nat → Int, ∃ (z kn : Int) (po' me' np' ko' nk' sk' sa' to' : Nat → Int), F_X12_build n po me now np ko nk sk sa to = some (z, kn, (S : Int), po', me', np', ko', nk', sk', sa', to') ∧ BM n k (leM now) (ofM now) (seM now) S pt sp st po' ko' sk' to'
theorem MC_congr {n k : Nat} {le of_ se le' of' se' : Nat → Int} {S : Nat} {pt sp st aw : Nat → Int} (h : ∀ r, r < k → le r = le' r ∧ of_ r = of' r ∧ se r = se' r) (g : MC n k le of_ se S pt sp st aw) : MC n k le' of' se' S pt sp st aw := by
  obtain ⟨a, b, c, d, e⟩ := g
  refine ⟨a, b, c, d, fun now h0 hag => e now h0 (fun r hr => ?_)⟩
  have x := hag r hr
  have y := h r hr
  exact ⟨by rw [x.1, y.1], by rw [x.2.1, y.2.1], by rw [x.2.2, y.2.2]⟩
theorem p_build {n : Nat} (hn : 1000 ≤ n) {k : Nat} {le of_ se : Nat → Int} (h : okR k le of_ se) (ld pt keys finer sp ps st aw : Nat → Int) : ∃ (N S : Nat) (ld' pt' keys' finer' sp' ps' st' aw' : Nat → Int), F_X1_build n k of_ se le ld pt keys finer sp ps st aw = some ((N : Int), (S : Int), ld', pt', keys', finer', sp', ps', st', aw') ∧ MC n k le of_ se S pt' sp' st' aw' := by
  have ex : ∃ now : Nat → Int, now 0 = k ∧ leM now = le ∧ ofM now = of_ ∧ seM now = se := by
    refine ⟨fun i => if i = 0 then k else if i % 3 = 1 then le ((i - 1) / 3) else if i % 3 = 2 then of_ ((i - 2) / 3) else se ((i - 3) / 3), rfl, ?_, ?_, ?_⟩
    · funext r
      unfold leM
      dsimp only
      rw [if_neg (by omega), if_pos (by omega)]
      congr 1
      omega
    · funext r
      unfold ofM
      dsimp only
      rw [if_neg (by omega), if_neg (by omega), if_pos (by omega)]
      congr 1
      omega
    · funext r
      unfold seM
      dsimp only
      rw [if_neg (by omega), if_neg (by omega), if_neg (by omega)]
      congr 1
      omega
  obtain ⟨now, n0, n1, n2, n3⟩ := ex
  obtain ⟨N, S, ld', pt', keys', finer', sp', ps', st', aw', z, kn, po', me', np', ko', nk', sk', sa', to', b1, b2, b3, b4, b5, b6, b7⟩ := p_both hn (le := le) (of_ := of_) (se := se) n0 (by rw [n1, n2, n3]; exact h) (fun r hr => ⟨by rw [n1], by rw [n2], by rw [n3]⟩) ld pt keys finer sp ps st aw aw aw aw aw aw aw aw aw
  refine ⟨N, S, ld', pt', keys', finer', sp', ps', st', aw', b1, b3, b4, b5, b6, fun now h0 hag po me np ko nk sk sa to => ?_⟩
  obtain ⟨N2, S2, ld2, pt2, keys2, finer2, sp2, ps2, st2, aw2, z2, kn2, po2, me2, np2, ko2, nk2, sk2, sa2, to2, c1, c2, c3, c4, c5, c6, c7⟩ := p_both hn (le := le) (of_ := of_) (se := se) h0 (okR_congr (fun r hr => ⟨(hag r hr).1.symm, (hag r hr).2.1.symm, (hag r hr).2.2.symm⟩) h) hag ld pt keys finer sp ps st aw po me np ko nk sk sa to
  rw [b1] at c1
  simp only [Option.some.injEq, Prod.mk.injEq] at c1
  obtain ⟨d1, d2, d3, d4, d5, d6, d7, d8, d9, d10⟩ := c1
  have d2 : S = S2 := by omega
  subst d2 d4 d7 d9
  exact ⟨z2, kn2, po2, me2, np2, ko2, nk2, sk2, sa2, to2, c2, c7⟩
