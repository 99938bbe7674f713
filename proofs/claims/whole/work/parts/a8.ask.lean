/-! what is asked of rows and of the machine -/
theorem q_row {n : Nat} (hn : 1000 ≤ n) {x : TSh} {now : Nat → Int} (hx : rsI x now) {me pk si up dn : Nat → Int} (hw : wkI x me pk si up dn) {ma : TMa} (hm : maI n ma) (j1 j2 j3 : Int) (m1 m2 m3 m4 m5 po mm np ko nk sk sa to : Nat → Int) {a b : Int} (ha : r4 a) (hb : r4 b) : ∃ (r : Int) (ma' : TMa) (o : TSN), F_X11_row n x.2.1 x.2.2.1 x.2.2.2 me ma.1 ma.2.1 ma.2.2.1 ma.2.2.2.1 ma.2.2.2.2.1 x.1.1 x.1.2.2.2.2.2.1 x.1.2.2.2.2.2.2 ma.2.2.2.2.2.1 x.1.2.1 ma.2.2.2.2.2.2.1 x.1.2.2.1 ma.2.2.2.2.2.2.2.1 x.1.2.2.2.1 x.1.2.2.2.2.1 ma.2.2.2.2.2.2.2.2.1 ma.2.2.2.2.2.2.2.2.2.1 ma.2.2.2.2.2.2.2.2.2.2.1 ma.2.2.2.2.2.2.2.2.2.2.2.1 ma.2.2.2.2.2.2.2.2.2.2.2.2.1 ma.2.2.2.2.2.2.2.2.2.2.2.2.2.1 ma.2.2.2.2.2.2.2.2.2.2.2.2.2.2.1 ma.2.2.2.2.2.2.2.2.2.2.2.2.2.2.2.1 ma.2.2.2.2.2.2.2.2.2.2.2.2.2.2.2.2 pk up dn si a b = some (r, ma') ∧ F_X12_row n j1 j2 j3 now m1 m2 m3 m4 m5 po mm np ko nk sk sa to a b = some o ∧ o.1 = r ∧ maI n ma' := by
  have hx' := hx
  obtain ⟨k1, z, e1, e2, hr, hg, h17, ho, c1, c2⟩ := hx'
  have hz := ho.1
  have c := p_isRowC (n := n) hz ha
  have m := p_isRowM (n := n) hz h17 ha
  rw [← e2] at c
  by_cases hrow : 0 ≤ a ∧ a < (z : Int)
  · rw [if_pos (by omega)] at c
    rw [if_pos hrow] at m
    obtain ⟨i, rfl⟩ : ∃ i : Nat, a = (i : Int) := ⟨a.toNat, by omega⟩
    have hi : i < z := by omega
    have tp : ((i : Int)).toNat = i := by omega
    have t18 : (18 + (i : Int)).toNat = 18 + i := by omega
    have t58 : (58 + (i : Int)).toNat = 58 + i := by omega
    obtain ⟨w1, w2, w3, w4, w5, g1, g2⟩ := p_goM hn hx m1 m2 m3 m4 m5
    obtain ⟨q1, q2, q3, q4, q5⟩ := wkI_eq g2 hw e2 i hi
    obtain ⟨b1, b2, b3, b4, b5⟩ := wkI_r hx hw e2 i hi
    by_cases h0 : b = 0
    · refine ⟨x.2.2.1 i, ma, _, (bd_of c).trans ((ck_pos (by omega)).trans ((if_neg (by omega)).trans ((ck_pos hb).trans ((if_pos h0).trans ((ck_pos (by omega)).trans ?_))))), (bd_of m).trans ((ck_pos (by omega)).trans ((if_neg (by omega)).trans ((bd_of g1).trans ((ck_pos hb).trans ((if_pos h0).trans (ck_pos (by omega))))))), ?_, hm⟩
      · rw [tp]
      · show now (18 + (i : Int)).toNat = _
        rw [t18]; exact c1 i hi
    by_cases h1 : b = 1
    · refine ⟨x.2.2.2 i, ma, _, (bd_of c).trans ((ck_pos (by omega)).trans ((if_neg (by omega)).trans ((ck_pos hb).trans ((if_neg h0).trans ((if_pos h1).trans ((ck_pos (by omega)).trans ?_)))))), (bd_of m).trans ((ck_pos (by omega)).trans ((if_neg (by omega)).trans ((bd_of g1).trans ((ck_pos hb).trans ((if_neg h0).trans ((if_pos h1).trans (ck_pos (by omega)))))))), ?_, hm⟩
      · rw [tp]
      · show now (58 + (i : Int)).toNat = _
        rw [t58]; exact c2 i hi
    by_cases h2 : b = 2
    · refine ⟨me i, ma, _, (bd_of c).trans ((ck_pos (by omega)).trans ((if_neg (by omega)).trans ((ck_pos hb).trans ((if_neg h0).trans ((if_neg h1).trans ((if_pos h2).trans ((ck_pos (by omega)).trans ?_))))))), (bd_of m).trans ((ck_pos (by omega)).trans ((if_neg (by omega)).trans ((bd_of g1).trans ((ck_pos hb).trans ((if_neg h0).trans ((if_neg h1).trans ((if_pos h2).trans (ck_pos (by omega))))))))), ?_, hm⟩
      · rw [tp]
      · show w1 ((i : Int)).toNat = _
        rw [tp]; exact q1
    by_cases h3 : b = 3
    · obtain ⟨ma', k, S, f1, f2, f3, f4, f5⟩ := p_fit hn hm hx
      obtain ⟨zz, kn, po', me', np', ko', nk', sk', sa', to', a1, a2, a3⟩ := p_mc hx f3 f5 e2 po mm np ko nk sk sa to
      obtain ⟨t, t1, t2, t3, t4⟩ := a3 (i + 1) (by omega)
      have wk := hw
      obtain ⟨k2, z2, v1, v2, v3⟩ := wk
      obtain rfl : k2 = k := by omega
      have ep : pk ((i : Int)).toNat = paS k2 x.1.2.1 x.1.2.2.1 x.1.2.2.2.1 x.2.2.2 (i + 1) := by rw [tp]; exact (v3 i (by omega)).2.1
      have em : w2 ((i : Int)).toNat = paS k2 x.1.2.1 x.1.2.2.1 x.1.2.2.2.1 x.2.2.2 (i + 1) := by rw [tp, q2]; exact (v3 i (by omega)).2.1
      have ft : F_X11_fitted n ma.1 ma.2.1 ma.2.2.1 ma.2.2.2.1 ma.2.2.2.2.1 x.1.1 x.1.2.2.2.2.2.1 x.1.2.2.2.2.2.2 ma.2.2.2.2.2.1 x.1.2.1 ma.2.2.2.2.2.2.1 x.1.2.2.1 ma.2.2.2.2.2.2.2.1 x.1.2.2.2.1 x.1.2.2.2.2.1 ma.2.2.2.2.2.2.2.2.1 ma.2.2.2.2.2.2.2.2.2.1 ma.2.2.2.2.2.2.2.2.2.2.1 ma.2.2.2.2.2.2.2.2.2.2.2.1 ma.2.2.2.2.2.2.2.2.2.2.2.2.1 ma.2.2.2.2.2.2.2.2.2.2.2.2.2.1 ma.2.2.2.2.2.2.2.2.2.2.2.2.2.2.1 ma.2.2.2.2.2.2.2.2.2.2.2.2.2.2.2.1 ma.2.2.2.2.2.2.2.2.2.2.2.2.2.2.2.2 = some ma' := (bd_of f1).trans rfl
      rw [← ep] at t2
      rw [← em] at t3
      exact ⟨(t : Int), ma', _, (bd_of c).trans ((ck_pos (by omega)).trans ((if_neg (by omega)).trans ((ck_pos hb).trans ((if_neg h0).trans ((if_neg h1).trans ((if_neg h2).trans ((if_pos h3).trans ((bd_of ft).trans ((ck_pos (by omega)).trans ((bd_of t2).trans rfl)))))))))), (bd_of m).trans ((ck_pos (by omega)).trans ((if_neg (by omega)).trans ((bd_of g1).trans ((ck_pos hb).trans ((if_neg h0).trans ((if_neg h1).trans ((if_neg h2).trans ((if_pos h3).trans ((bd_of a1).trans ((ck_pos (by omega)).trans (bd_of t3))))))))))), rfl, f2⟩
    by_cases h4 : b = 4
    · refine ⟨up i, ma, _, (bd_of c).trans ((ck_pos (by omega)).trans ((if_neg (by omega)).trans ((ck_pos hb).trans ((if_neg h0).trans ((if_neg h1).trans ((if_neg h2).trans ((if_neg h3).trans ((if_pos h4).trans ((ck_pos (by omega)).trans ?_))))))))), (bd_of m).trans ((ck_pos (by omega)).trans ((if_neg (by omega)).trans ((bd_of g1).trans ((ck_pos hb).trans ((if_neg h0).trans ((if_neg h1).trans ((if_neg h2).trans ((if_neg h3).trans ((if_pos h4).trans (ck_pos (by omega))))))))))), ?_, hm⟩
      · rw [tp]
      · show w4 ((i : Int)).toNat = _
        rw [tp]; exact q4
    by_cases h5 : b = 5
    · refine ⟨dn i, ma, _, (bd_of c).trans ((ck_pos (by omega)).trans ((if_neg (by omega)).trans ((ck_pos hb).trans ((if_neg h0).trans ((if_neg h1).trans ((if_neg h2).trans ((if_neg h3).trans ((if_neg h4).trans ((if_pos h5).trans ((ck_pos (by omega)).trans ?_)))))))))), (bd_of m).trans ((ck_pos (by omega)).trans ((if_neg (by omega)).trans ((bd_of g1).trans ((ck_pos hb).trans ((if_neg h0).trans ((if_neg h1).trans ((if_neg h2).trans ((if_neg h3).trans ((if_neg h4).trans ((if_pos h5).trans (ck_pos (by omega)))))))))))), ?_, hm⟩
      · rw [tp]
      · show w5 ((i : Int)).toNat = _
        rw [tp]; exact q5
    by_cases h6 : b = 6
    · have e6 : (ck (r4 (w3 ((i : Int)).toNat)) <| if w3 ((i : Int)).toNat = 0 then some (0 : Int) else some 1) = some (si i) := by
        rw [tp, q3]
        rcases b3 with e | e
        · exact (ck_pos (by omega)).trans ((if_pos e).trans (by rw [e]))
        · exact (ck_pos (by omega)).trans ((if_neg (by omega)).trans (by rw [e]))
      refine ⟨si i, ma, _, (bd_of c).trans ((ck_pos (by omega)).trans ((if_neg (by omega)).trans ((ck_pos hb).trans ((if_neg h0).trans ((if_neg h1).trans ((if_neg h2).trans ((if_neg h3).trans ((if_neg h4).trans ((if_neg h5).trans ((if_pos h6).trans ((ck_pos (by omega)).trans ?_))))))))))), (bd_of m).trans ((ck_pos (by omega)).trans ((if_neg (by omega)).trans ((bd_of g1).trans ((ck_pos hb).trans ((if_neg h0).trans ((if_neg h1).trans ((if_neg h2).trans ((if_neg h3).trans ((if_neg h4).trans ((if_neg h5).trans ((if_pos h6).trans ((ck_pos (by omega)).trans (bd_of e6))))))))))))), rfl, hm⟩
      rw [tp]
    · exact ⟨-1, ma, _, (bd_of c).trans ((ck_pos (by omega)).trans ((if_neg (by omega)).trans ((ck_pos hb).trans ((if_neg h0).trans ((if_neg h1).trans ((if_neg h2).trans ((if_neg h3).trans ((if_neg h4).trans ((if_neg h5).trans (if_neg h6)))))))))), (bd_of m).trans ((ck_pos (by omega)).trans ((if_neg (by omega)).trans ((bd_of g1).trans ((ck_pos hb).trans ((if_neg h0).trans ((if_neg h1).trans ((if_neg h2).trans ((if_neg h3).trans ((if_neg h4).trans ((if_neg h5).trans (if_neg h6))))))))))), rfl, hm⟩
  · rw [if_neg (by omega)] at c
    rw [if_neg hrow] at m
    exact ⟨-1, ma, _, (bd_of c).trans ((ck_pos (by omega)).trans (if_pos rfl)), (bd_of m).trans ((ck_pos (by omega)).trans (if_pos rfl)), rfl, hm⟩
theorem q_step {n : Nat} (hn : 1000 ≤ n) {x : TSh} {now : Nat → Int} (hx : rsI x now) {ma : TMa} (hm : maI n ma) (po mm np ko nk sk sa to : Nat → Int) {a b : Int} (ha : r4 a) (hb : r4 b) : ∃ (r : Int) (ma' : TMa) (zz kn st : Int) (po' me' np' ko' nk' sk' sa' to' : Nat → Int), F_X11_step n ma.1 ma.2.1 ma.2.2.1 ma.2.2.2.1 ma.2.2.2.2.1 x.1.1 x.1.2.2.2.2.2.1 x.1.2.2.2.2.2.2 ma.2.2.2.2.2.1 x.1.2.1 ma.2.2.2.2.2.2.1 x.1.2.2.1 ma.2.2.2.2.2.2.2.1 x.1.2.2.2.1 x.1.2.2.2.2.1 ma.2.2.2.2.2.2.2.2.1 ma.2.2.2.2.2.2.2.2.2.1 ma.2.2.2.2.2.2.2.2.2.2.1 ma.2.2.2.2.2.2.2.2.2.2.2.1 ma.2.2.2.2.2.2.2.2.2.2.2.2.1 ma.2.2.2.2.2.2.2.2.2.2.2.2.2.1 ma.2.2.2.2.2.2.2.2.2.2.2.2.2.2.1 ma.2.2.2.2.2.2.2.2.2.2.2.2.2.2.2.1 ma.2.2.2.2.2.2.2.2.2.2.2.2.2.2.2.2 a b = some (r, ma') ∧ F_X12_step n po mm now np ko nk sk sa to a b = some (r, zz, kn, st, po', me', np', ko', nk', sk', sa', to') ∧ maI n ma' := by
  have hx' := hx
  obtain ⟨k1, z, e1, e2, hr, hg, h17, ho, c1, c2⟩ := hx'
  obtain ⟨ma', k, S, f1, f2, f3, f4, f5⟩ := p_fit hn hm hx
  obtain ⟨zz, kn, po', me', np', ko', nk', sk', sa', to', a1, a2, a3⟩ := p_mc hx f3 f5 e2 po mm np ko nk sk sa to
  have hS := f5.2.1
  have c := p_isSignC (n := n) hb
  have m := p_isSignM (n := n) hb
  have ft : F_X11_fitted n ma.1 ma.2.1 ma.2.2.1 ma.2.2.2.1 ma.2.2.2.2.1 x.1.1 x.1.2.2.2.2.2.1 x.1.2.2.2.2.2.2 ma.2.2.2.2.2.1 x.1.2.1 ma.2.2.2.2.2.2.1 x.1.2.2.1 ma.2.2.2.2.2.2.2.1 x.1.2.2.2.1 x.1.2.2.2.2.1 ma.2.2.2.2.2.2.2.2.1 ma.2.2.2.2.2.2.2.2.2.1 ma.2.2.2.2.2.2.2.2.2.2.1 ma.2.2.2.2.2.2.2.2.2.2.2.1 ma.2.2.2.2.2.2.2.2.2.2.2.2.1 ma.2.2.2.2.2.2.2.2.2.2.2.2.2.1 ma.2.2.2.2.2.2.2.2.2.2.2.2.2.2.1 ma.2.2.2.2.2.2.2.2.2.2.2.2.2.2.2.1 ma.2.2.2.2.2.2.2.2.2.2.2.2.2.2.2.2 = some ma' := (bd_of f1).trans rfl
  have e := p_in (n := n) ha (a := 0) (b := (S : Int) - 1) ⟨by omega, by omega⟩ ⟨by omega, by omega⟩
  by_cases hs : 0 ≤ b ∧ b < 5
  · rw [if_pos hs] at c m
    by_cases h0 : a < 0
    · rw [if_neg (by omega)] at e
      refine ⟨-1, ma, zz, kn, (S : Int), po', me', np', ko', nk', sk', sa', to', (bd_of c).trans ((ck_pos (by omega)).trans ((if_neg (by omega)).trans ((ck_pos ha).trans (if_pos h0)))), (bd_of a1).trans ((bd_of e).trans ?_), hm⟩
      exact (bd_of ((ck_pos (by omega)).trans (if_pos rfl))).trans rfl
    by_cases h1 : a < (S : Int)
    · rw [if_pos (by omega)] at e
      obtain ⟨i, rfl⟩ : ∃ i : Nat, a = (i : Int) := ⟨a.toNat, by omega⟩
      obtain ⟨g, rfl⟩ : ∃ g : Nat, b = (g : Int) := ⟨b.toNat, by omega⟩
      have q := a2 (5 * i + g) (by omega)
      refine ⟨ma'.2.2.2.2.2.2.2.2.2.2.2.2.2.2.2.1 (5 * i + g), ma', zz, kn, (S : Int), po', me', np', ko', nk', sk', sa', to', (bd_of c).trans ((ck_pos (by omega)).trans ((if_neg (by omega)).trans ((ck_pos ha).trans ((if_neg h0).trans ((bd_of ft).trans ((ck_pos ⟨ha, by omega⟩).trans ((if_pos (by omega)).trans ((ck_pos ha).trans ((if_pos (by omega)).trans ((ck_pos (by omega)).trans ?_)))))))))), (bd_of a1).trans ((bd_of e).trans ?_), f2⟩
      · rw [show ((i : Int) * 5 + (g : Int)).toNat = 5 * i + g by omega]
      · refine (bd_of (a := ma'.2.2.2.2.2.2.2.2.2.2.2.2.2.2.2.1 (5 * i + g)) ((ck_pos (by omega)).trans ((if_neg (by omega)).trans ((bd_of m).trans ((ck_pos (by omega)).trans ((if_neg (by omega)).trans ((ck_pos (by omega)).trans ?_))))))).trans rfl
        rw [show (5 * (i : Int) + (g : Int)).toNat = 5 * i + g by omega, q]
    · rw [if_neg (by omega)] at e
      refine ⟨-1, ma', zz, kn, (S : Int), po', me', np', ko', nk', sk', sa', to', (bd_of c).trans ((ck_pos (by omega)).trans ((if_neg (by omega)).trans ((ck_pos ha).trans ((if_neg h0).trans ((bd_of ft).trans ((ck_pos ⟨ha, by omega⟩).trans (if_neg (by omega)))))))), (bd_of a1).trans ((bd_of e).trans ?_), f2⟩
      exact (bd_of ((ck_pos (by omega)).trans (if_pos rfl))).trans rfl
  · rw [if_neg hs] at c m
    refine ⟨-1, ma, zz, kn, (S : Int), po', me', np', ko', nk', sk', sa', to', (bd_of c).trans ((ck_pos (by omega)).trans (if_pos rfl)), (bd_of a1).trans ((bd_of e).trans ?_), hm⟩
    by_cases h1 : 0 ≤ a ∧ a ≤ (S : Int) - 1
    · rw [if_pos h1]
      exact (bd_of ((ck_pos (by omega)).trans ((if_neg (by omega)).trans ((bd_of m).trans ((ck_pos (by omega)).trans (if_pos rfl)))))).trans rfl
    · rw [if_neg h1]
      exact (bd_of ((ck_pos (by omega)).trans (if_pos rfl))).trans rfl
theorem q_alarm {n : Nat} (hn : 1000 ≤ n) {x : TSh} {now : Nat → Int} (hx : rsI x now) {me pk si up dn : Nat → Int} (hw : wkI x me pk si up dn) (m1 m2 m3 m4 m5 : Nat → Int) {a : Int} (ha : r4 a) : ∃ (r : Int) (m1' m2' m3' m4' m5' : Nat → Int), F_X11_alarm n x.2.1 me x.2.2.1 a = some r ∧ F_X12_alarm n now m1 m2 m3 m4 m5 a = some (r, m1', m2', m3', m4', m5') := by
  have hx' := hx
  obtain ⟨k1, z, e1, e2, hr, hg, h17, ho, c1, c2⟩ := hx'
  have hz := ho.1
  by_cases h0 : a < -1
  · exact ⟨-1, m1, m2, m3, m4, m5, (bd_of ((ck_pos ha).trans (if_pos h0))).trans rfl, (ck_pos ha).trans (if_pos h0)⟩
  obtain ⟨w1, w2, w3, w4, w5, g1, g2⟩ := p_goM hn hx m1 m2 m3 m4 m5
  have q := wkI_eq g2 hw e2
  have b := wkI_r hx hw e2
  rw [e2]
  rcases p_marksA hn hz h17 (mk := me) (w1, w2, w3, w4, w5) (fun i hi => (q i hi).1) (fun i hi => by have := (b i hi).1; omega) ha with ⟨cc, c4, l1, l2⟩ | ⟨i, hi, l1, l2⟩
  · by_cases h1 : a = -1
    · refine ⟨cc, w1, w2, w3, w4, w5, (bd_of (a := cc) ((ck_pos ha).trans ((if_neg h0).trans ((bd_of l1).trans ?_)))).trans rfl, (ck_pos ha).trans ((if_neg h0).trans ((bd_of g1).trans ((bd_of l2).trans ?_)))⟩
      · exact (bd_of ((ck_pos ha).trans (if_pos h1))).trans rfl
      · exact (bd_of ((ck_pos ha).trans (if_pos h1))).trans rfl
    · refine ⟨-9, w1, w2, w3, w4, w5, (bd_of (a := -9) ((ck_pos ha).trans ((if_neg h0).trans ((bd_of l1).trans ?_)))).trans rfl, (ck_pos ha).trans ((if_neg h0).trans ((bd_of g1).trans ((bd_of l2).trans ?_)))⟩
      · exact (bd_of ((ck_pos ha).trans (if_neg h1))).trans rfl
      · exact (bd_of ((ck_pos ha).trans (if_neg h1))).trans rfl
  · refine ⟨x.2.2.1 i, w1, w2, w3, w4, w5, (bd_of (a := x.2.2.1 i) ((ck_pos ha).trans ((if_neg h0).trans ((bd_of l1).trans ((ck_pos (by omega)).trans ?_))))).trans rfl, (ck_pos ha).trans ((if_neg h0).trans ((bd_of g1).trans ((bd_of l2).trans ((ck_pos (by omega)).trans ?_))))⟩
    · rw [show ((i : Int)).toNat = i by omega]
    · rw [show (18 + (i : Int)).toNat = 18 + i by omega, c1 i hi]
theorem q_signal {n : Nat} (hn : 1000 ≤ n) {x : TSh} {now : Nat → Int} (hx : rsI x now) {me pk si up dn : Nat → Int} (hw : wkI x me pk si up dn) (m1 m2 m3 m4 m5 : Nat → Int) {a : Int} (ha : r4 a) : ∃ (r : Int) (m1' m2' m3' m4' m5' : Nat → Int), F_X11_signal n x.2.1 si x.2.2.1 a = some r ∧ F_X12_signal n now m1 m2 m3 m4 m5 a = some (r, m1', m2', m3', m4', m5') := by
  have hx' := hx
  obtain ⟨k1, z, e1, e2, hr, hg, h17, ho, c1, c2⟩ := hx'
  have hz := ho.1
  by_cases h0 : a < -1
  · exact ⟨-1, m1, m2, m3, m4, m5, (bd_of ((ck_pos ha).trans (if_pos h0))).trans rfl, (ck_pos ha).trans (if_pos h0)⟩
  obtain ⟨w1, w2, w3, w4, w5, g1, g2⟩ := p_goM hn hx m1 m2 m3 m4 m5
  have q := wkI_eq g2 hw e2
  have b := wkI_r hx hw e2
  rw [e2]
  rcases p_marksS hn hz h17 (mk := si) (w1, w2, w3, w4, w5) (fun i hi => (q i hi).2.2.1) (fun i hi => by have := (b i hi).2.2.1; omega) ha with ⟨cc, c4, l1, l2⟩ | ⟨i, hi, l1, l2⟩
  · by_cases h1 : a = -1
    · refine ⟨cc, w1, w2, w3, w4, w5, (bd_of (a := cc) ((ck_pos ha).trans ((if_neg h0).trans ((bd_of l1).trans ?_)))).trans rfl, (ck_pos ha).trans ((if_neg h0).trans ((bd_of g1).trans ((bd_of l2).trans ?_)))⟩
      · exact (bd_of ((ck_pos ha).trans (if_pos h1))).trans rfl
      · exact (bd_of ((ck_pos ha).trans (if_pos h1))).trans rfl
    · refine ⟨-9, w1, w2, w3, w4, w5, (bd_of (a := -9) ((ck_pos ha).trans ((if_neg h0).trans ((bd_of l1).trans ?_)))).trans rfl, (ck_pos ha).trans ((if_neg h0).trans ((bd_of g1).trans ((bd_of l2).trans ?_)))⟩
      · exact (bd_of ((ck_pos ha).trans (if_neg h1))).trans rfl
      · exact (bd_of ((ck_pos ha).trans (if_neg h1))).trans rfl
  · refine ⟨x.2.2.1 i, w1, w2, w3, w4, w5, (bd_of (a := x.2.2.1 i) ((ck_pos ha).trans ((if_neg h0).trans ((bd_of l1).trans ((ck_pos (by omega)).trans ?_))))).trans rfl, (ck_pos ha).trans ((if_neg h0).trans ((bd_of g1).trans ((bd_of l2).trans ((ck_pos (by omega)).trans ?_))))⟩
    · rw [show ((i : Int)).toNat = i by omega]
    · rw [show (18 + (i : Int)).toNat = 18 + i by omega, c1 i hi]
