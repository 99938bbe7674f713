/-! counts; single rules -/
theorem whS_congr {o e : Int} {sg sg' me me' : Nat → Int} : ∀ i, (∀ j, j < i → sg j = sg' j) → (∀ j, j < i → me j = me' j) → whS o e sg me i = whS o e sg' me' i
  | 0, _, _ => rfl
  | i + 1, h, g => by
    have q := whS_congr (o := o) (e := e) i (fun j hj => h j (by omega)) (fun j hj => g j (by omega))
    simp only [whS]
    rw [q, h i (by omega), g i (by omega)]
theorem ftS_congr {o e : Int} {sg sg' me me' : Nat → Int} {z m : Nat} (h : ∀ j, j < z → sg j = sg' j) (g : ∀ j, j < z → me j = me' j) : ftS o e sg me z m ↔ ftS o e sg' me' z m := by
  unfold ftS
  have key : ∀ j, j < z → ((bc_ (wnS o e sg me j) < (m : Int) ↔ me j = 0) ↔ (bc_ (wnS o e sg' me' j) < (m : Int) ↔ me' j = 0)) := fun j hj => by
    unfold wnS
    rw [whS_congr (o := o) (e := e) j (fun i hi => h i (by omega)) (fun i hi => g i (by omega)), h j hj, g j hj]
  exact ⟨fun a j hj => (key j hj).mp (a j hj), fun a j hj => (key j hj).mpr (a j hj)⟩
theorem fI_congr {p q : Prop} (h : p ↔ q) : fI_ p = fI_ q := by
  rw [propext h]
theorem q_count {n : Nat} (hn : 1000 ≤ n) {x : TSh} {now : Nat → Int} (hx : rsI x now) {me pk si up dn : Nat → Int} (hw : wkI x me pk si up dn) {ma : TMa} (hm : maI n ma) {z : Int} {tx : Nat → Int} {lm : Int} {tm : Nat → Int} (hT : txI z tx lm tm) {u : Nat} {nx sz : Int} {hs : Nat → TSh} {de : Int} {pa : Nat → Int} (hh : hiI u nx sz hs de pa) (j1 j2 j3 : Int) (m1 m2 m3 m4 m5 po mm np ko nk sk sa to : Nat → Int) {a : Int} (ha : r4 a) : ∃ (r : Int) (ma' : TMa) (o : TSN), F_X11_count n x.2.1 x.1.1 x.1.2.2.2.2.2.1 x.1.2.2.2.2.2.2 ma.1 ma.2.1 ma.2.2.1 ma.2.2.2.1 ma.2.2.2.2.1 ma.2.2.2.2.2.1 x.1.2.1 ma.2.2.2.2.2.2.1 x.1.2.2.1 ma.2.2.2.2.2.2.2.1 x.1.2.2.2.1 x.1.2.2.2.2.1 ma.2.2.2.2.2.2.2.2.1 ma.2.2.2.2.2.2.2.2.2.1 ma.2.2.2.2.2.2.2.2.2.2.1 ma.2.2.2.2.2.2.2.2.2.2.2.1 ma.2.2.2.2.2.2.2.2.2.2.2.2.1 ma.2.2.2.2.2.2.2.2.2.2.2.2.2.1 ma.2.2.2.2.2.2.2.2.2.2.2.2.2.2.1 ma.2.2.2.2.2.2.2.2.2.2.2.2.2.2.2.1 ma.2.2.2.2.2.2.2.2.2.2.2.2.2.2.2.2 pk up dn z sz a = some (r, ma') ∧ F_X12_count n de lm j1 j2 j3 now po mm np ko nk sk sa to m1 m2 m3 m4 m5 a = some o ∧ o.1 = r ∧ maI n ma' := by
  have hx' := hx
  obtain ⟨k1, zz, e1, e2, hr, hg, h17, ho, c1, c2⟩ := hx'
  have hz := ho.1
  obtain ⟨d0, d1, d2, d3, d4⟩ := hr
  have cr := p_isRowC (n := n) hz (y := (zz : Int) - 1) (by omega)
  by_cases h0 : a = 0
  · exact ⟨x.1.1, ma, _, (ck_pos ha).trans (if_pos h0), (ck_pos ha).trans (if_pos h0), d0.trans e1.symm, hm⟩
  by_cases h1 : a = 1
  · exact ⟨x.2.1, ma, _, (ck_pos ha).trans ((if_neg h0).trans (if_pos h1)), (ck_pos ha).trans ((if_neg h0).trans (if_pos h1)), h17.trans e2.symm, hm⟩
  by_cases h2 : a = 2
  · obtain ⟨ma', k, S, f1, f2, f3, f4, f5⟩ := p_fit hn hm hx
    obtain ⟨zq, kn, po', me', np', ko', nk', sk', sa', to', a1, a2, a3⟩ := p_mc hx f3 f5 e2 po mm np ko nk sk sa to
    have ft : F_X11_fitted n ma.1 ma.2.1 ma.2.2.1 ma.2.2.2.1 ma.2.2.2.2.1 x.1.1 x.1.2.2.2.2.2.1 x.1.2.2.2.2.2.2 ma.2.2.2.2.2.1 x.1.2.1 ma.2.2.2.2.2.2.1 x.1.2.2.1 ma.2.2.2.2.2.2.2.1 x.1.2.2.2.1 x.1.2.2.2.2.1 ma.2.2.2.2.2.2.2.2.1 ma.2.2.2.2.2.2.2.2.2.1 ma.2.2.2.2.2.2.2.2.2.2.1 ma.2.2.2.2.2.2.2.2.2.2.2.1 ma.2.2.2.2.2.2.2.2.2.2.2.2.1 ma.2.2.2.2.2.2.2.2.2.2.2.2.2.1 ma.2.2.2.2.2.2.2.2.2.2.2.2.2.2.1 ma.2.2.2.2.2.2.2.2.2.2.2.2.2.2.2.1 ma.2.2.2.2.2.2.2.2.2.2.2.2.2.2.2.2 = some ma' := (bd_of f1).trans rfl
    exact ⟨ma'.2.1, ma', _, (ck_pos ha).trans ((if_neg h0).trans ((if_neg h1).trans ((if_pos h2).trans ((bd_of ft).trans rfl)))), (ck_pos ha).trans ((if_neg h0).trans ((if_neg h1).trans ((if_pos h2).trans (bd_of a1)))), f4.symm, f2⟩
  by_cases h3 : a = 3
  · obtain ⟨t, S, ma', o, s1, s2, s3, s4, s5, s6, -⟩ := p_stateNow hn hx hw hm m1 m2 m3 m4 m5 po mm np ko nk sk sa to
    exact ⟨(t : Int), ma', _, (ck_pos ha).trans ((if_neg h0).trans ((if_neg h1).trans ((if_neg h2).trans ((if_pos h3).trans ((bd_of s1).trans rfl))))), (ck_pos ha).trans ((if_neg h0).trans ((if_neg h1).trans ((if_neg h2).trans ((if_pos h3).trans (bd_of s2))))), s3, s6⟩
  by_cases h4 : a = 4
  · exact ⟨x.1.2.2.2.2.2.1, ma, _, (ck_pos ha).trans ((if_neg h0).trans ((if_neg h1).trans ((if_neg h2).trans ((if_neg h3).trans (if_pos h4))))), (ck_pos ha).trans ((if_neg h0).trans ((if_neg h1).trans ((if_neg h2).trans ((if_neg h3).trans (if_pos h4))))), d3, hm⟩
  by_cases h5 : a = 5
  · exact ⟨x.1.2.2.2.2.2.2, ma, _, (ck_pos ha).trans ((if_neg h0).trans ((if_neg h1).trans ((if_neg h2).trans ((if_neg h3).trans ((if_neg h4).trans (if_pos h5)))))), (ck_pos ha).trans ((if_neg h0).trans ((if_neg h1).trans ((if_neg h2).trans ((if_neg h3).trans ((if_neg h4).trans (if_pos h5)))))), d4, hm⟩
  by_cases h6 : a = 6
  · obtain ⟨w1, w2, w3, w4, w5, g1, g2⟩ := p_goM hn hx m1 m2 m3 m4 m5
    have q := wkI_eq g2 hw e2
    by_cases hz0 : zz = 0
    · rw [if_neg (by omega), ← e2] at cr
      have em : (ck (r4 (now 17)) <| if now 17 = 0 then some (0 : Int) else ck (ix_ ((now 17) - 1) 40) <| some (w4 ((now 17) - 1).toNat)) = some 0 := (ck_pos (by omega)).trans (if_pos (by omega))
      exact ⟨0, ma, _, (ck_pos ha).trans ((if_neg h0).trans ((if_neg h1).trans ((if_neg h2).trans ((if_neg h3).trans ((if_neg h4).trans ((if_neg h5).trans ((if_pos h6).trans ((bd_of cr).trans ((bd_of (a := 0) ((ck_pos (by omega)).trans (if_pos rfl))).trans rfl))))))))), (ck_pos ha).trans ((if_neg h0).trans ((if_neg h1).trans ((if_neg h2).trans ((if_neg h3).trans ((if_neg h4).trans ((if_neg h5).trans ((if_pos h6).trans ((bd_of g1).trans (bd_of em))))))))), rfl, hm⟩
    · rw [if_pos (by omega), ← e2] at cr
      have em : (ck (r4 (now 17)) <| if now 17 = 0 then some (0 : Int) else ck (ix_ ((now 17) - 1) 40) <| some (w4 ((now 17) - 1).toNat)) = some (up (zz - 1)) := (ck_pos (by omega)).trans ((if_neg (by omega)).trans ((ck_pos (by omega)).trans (by rw [h17, show ((zz : Int) - 1).toNat = zz - 1 by omega, (q (zz - 1) (by omega)).2.2.2.1])))
      have ec : up (x.2.1 - 1).toNat = up (zz - 1) := by rw [e2, show ((zz : Int) - 1).toNat = zz - 1 by omega]
      exact ⟨up (zz - 1), ma, _, (ck_pos ha).trans ((if_neg h0).trans ((if_neg h1).trans ((if_neg h2).trans ((if_neg h3).trans ((if_neg h4).trans ((if_neg h5).trans ((if_pos h6).trans ((bd_of cr).trans ((bd_of (a := up (zz - 1)) ((ck_pos (by omega)).trans ((if_neg (by omega)).trans ((ck_pos (by omega)).trans (congrArg some ec))))).trans rfl))))))))), (ck_pos ha).trans ((if_neg h0).trans ((if_neg h1).trans ((if_neg h2).trans ((if_neg h3).trans ((if_neg h4).trans ((if_neg h5).trans ((if_pos h6).trans ((bd_of g1).trans (bd_of em))))))))), rfl, hm⟩
  by_cases h7 : a = 7
  · obtain ⟨w1, w2, w3, w4, w5, g1, g2⟩ := p_goM hn hx m1 m2 m3 m4 m5
    have q := wkI_eq g2 hw e2
    by_cases hz0 : zz = 0
    · rw [if_neg (by omega), ← e2] at cr
      have em : (ck (r4 (now 17)) <| if now 17 = 0 then some (0 : Int) else ck (ix_ ((now 17) - 1) 40) <| some (w5 ((now 17) - 1).toNat)) = some 0 := (ck_pos (by omega)).trans (if_pos (by omega))
      exact ⟨0, ma, _, (ck_pos ha).trans ((if_neg h0).trans ((if_neg h1).trans ((if_neg h2).trans ((if_neg h3).trans ((if_neg h4).trans ((if_neg h5).trans ((if_neg h6).trans ((if_pos h7).trans ((bd_of cr).trans ((bd_of (a := 0) ((ck_pos (by omega)).trans (if_pos rfl))).trans rfl)))))))))), (ck_pos ha).trans ((if_neg h0).trans ((if_neg h1).trans ((if_neg h2).trans ((if_neg h3).trans ((if_neg h4).trans ((if_neg h5).trans ((if_neg h6).trans ((if_pos h7).trans ((bd_of g1).trans (bd_of em)))))))))), rfl, hm⟩
    · rw [if_pos (by omega), ← e2] at cr
      have em : (ck (r4 (now 17)) <| if now 17 = 0 then some (0 : Int) else ck (ix_ ((now 17) - 1) 40) <| some (w5 ((now 17) - 1).toNat)) = some (dn (zz - 1)) := (ck_pos (by omega)).trans ((if_neg (by omega)).trans ((ck_pos (by omega)).trans (by rw [h17, show ((zz : Int) - 1).toNat = zz - 1 by omega, (q (zz - 1) (by omega)).2.2.2.2])))
      have ec : dn (x.2.1 - 1).toNat = dn (zz - 1) := by rw [e2, show ((zz : Int) - 1).toNat = zz - 1 by omega]
      exact ⟨dn (zz - 1), ma, _, (ck_pos ha).trans ((if_neg h0).trans ((if_neg h1).trans ((if_neg h2).trans ((if_neg h3).trans ((if_neg h4).trans ((if_neg h5).trans ((if_neg h6).trans ((if_pos h7).trans ((bd_of cr).trans ((bd_of (a := dn (zz - 1)) ((ck_pos (by omega)).trans ((if_neg (by omega)).trans ((ck_pos (by omega)).trans (congrArg some ec))))).trans rfl)))))))))), (ck_pos ha).trans ((if_neg h0).trans ((if_neg h1).trans ((if_neg h2).trans ((if_neg h3).trans ((if_neg h4).trans ((if_neg h5).trans ((if_neg h6).trans ((if_pos h7).trans ((bd_of g1).trans (bd_of em)))))))))), rfl, hm⟩
  by_cases h8 : a = 8
  · obtain ⟨kq, t1, t2, -⟩ := hT
    exact ⟨z, ma, _, (ck_pos ha).trans ((if_neg h0).trans ((if_neg h1).trans ((if_neg h2).trans ((if_neg h3).trans ((if_neg h4).trans ((if_neg h5).trans ((if_neg h6).trans ((if_neg h7).trans (if_pos h8))))))))), (ck_pos ha).trans ((if_neg h0).trans ((if_neg h1).trans ((if_neg h2).trans ((if_neg h3).trans ((if_neg h4).trans ((if_neg h5).trans ((if_neg h6).trans ((if_neg h7).trans (if_pos h8))))))))), t2.trans t1.symm, hm⟩
  by_cases h9 : a = 9
  · obtain ⟨dq, mq, t1, t2, -⟩ := hh
    exact ⟨sz, ma, _, (ck_pos ha).trans ((if_neg h0).trans ((if_neg h1).trans ((if_neg h2).trans ((if_neg h3).trans ((if_neg h4).trans ((if_neg h5).trans ((if_neg h6).trans ((if_neg h7).trans ((if_neg h8).trans (if_pos h9)))))))))), (ck_pos ha).trans ((if_neg h0).trans ((if_neg h1).trans ((if_neg h2).trans ((if_neg h3).trans ((if_neg h4).trans ((if_neg h5).trans ((if_neg h6).trans ((if_neg h7).trans ((if_neg h8).trans (if_pos h9)))))))))), t2.trans t1.symm, hm⟩
  · exact ⟨-1, ma, _, (ck_pos ha).trans ((if_neg h0).trans ((if_neg h1).trans ((if_neg h2).trans ((if_neg h3).trans ((if_neg h4).trans ((if_neg h5).trans ((if_neg h6).trans ((if_neg h7).trans ((if_neg h8).trans (if_neg h9)))))))))), (ck_pos ha).trans ((if_neg h0).trans ((if_neg h1).trans ((if_neg h2).trans ((if_neg h3).trans ((if_neg h4).trans ((if_neg h5).trans ((if_neg h6).trans ((if_neg h7).trans ((if_neg h8).trans (if_neg h9)))))))))), rfl, hm⟩
theorem q_same {n : Nat} (hn : 1000 ≤ n) {x : TSh} {now : Nat → Int} (hx : rsI x now) {me pk si up dn : Nat → Int} (hw : wkI x me pk si up dn) {kn ss fi : Int} (hs : sgI x me kn ss fi) (mo fe : Int) (m1 m2 m3 m4 m5 : Nat → Int) {a : Int} (ha : r4 a) : ∃ (r kn' ss' fi' mo' fe' : Int) (m1' m2' m3' m4' m5' : Nat → Int), F_X11_same n kn ss fi mo fe x.2.1 x.2.2.2 me a = some (r, kn', ss', fi', mo', fe') ∧ F_X12_same n now m1 m2 m3 m4 m5 a = some (r, m1', m2', m3', m4', m5') ∧ sgI x me kn' ss' fi' := by
  have hs0 := hs
  have hx' := hx
  obtain ⟨k1, z, e1, e2, hr, hg, h17, ho, c1, c2⟩ := hx'
  have hz := ho.1
  have e := p_in (n := n) ha (a := 0) (b := 1) ⟨by omega, by omega⟩ ⟨by omega, by omega⟩
  by_cases h0 : a < 0
  · rw [if_neg (by omega)] at e
    exact ⟨-1, kn, ss, fi, mo, fe, m1, m2, m3, m4, m5, (ck_pos ha).trans (if_pos h0), (bd_of e).trans ((ck_pos (by omega)).trans (if_pos rfl)), hs⟩
  by_cases h1 : 1 < a
  · rw [if_neg (by omega)] at e
    exact ⟨-1, kn, ss, fi, mo, fe, m1, m2, m3, m4, m5, (ck_pos ha).trans ((if_neg h0).trans ((ck_pos ha).trans (if_pos h1))), (bd_of e).trans ((ck_pos (by omega)).trans (if_pos rfl)), hs⟩
  rw [if_pos (by omega)] at e
  obtain ⟨w1, w2, w3, w4, w5, g1, g2⟩ := p_goM hn hx m1 m2 m3 m4 m5
  have q := wkI_eq g2 hw e2
  have b := wkI_r hx hw e2
  have b' := wkI_r hx g2 e2
  -- the search, fresh or kept
  have fresh : ∃ kn' ss' fi' mo' fe' : Int, (ck (r4 kn) <| if kn = 0 then (F_X8_search n mo fe x.2.1 x.2.2.2 me).bind fun o5 => some (o5.1, o5.2.1, o5.2.2.1, o5.2.2.2.1, o5.2.2.2.2) else some (kn, ss, fi, mo, fe)) = some (kn', ss', fi', mo', fe') ∧ sgI x me kn' ss' fi' ∧ kn' = 1 := by
    rcases hs with rfl | ⟨rfl, hs⟩
    · obtain ⟨sz, fi', mo', fe', s1, s2, s3⟩ := p_search hn hz (sg := x.2.2.2) (met := me) (fun i hi => (ho.2.1 i hi).2) (fun i hi => by have := (b i hi).1; omega) mo fe
      rw [← e2] at s1
      exact ⟨1, sz, fi', mo', fe', (ck_pos (by omega)).trans ((if_pos rfl).trans ((bd_of s1).trans rfl)), Or.inr ⟨rfl, z, e2, s2, s3⟩, rfl⟩
    · exact ⟨1, ss, fi, mo, fe, (ck_pos (by omega)).trans (if_neg (by omega)), Or.inr ⟨rfl, hs⟩, rfl⟩
  obtain ⟨kn', ss', fi', mo', fe', f1, f2, f3⟩ := fresh
  have f2' := f2
  rcases f2 with f2 | ⟨-, z', y1, y2, y3⟩
  · omega
  obtain rfl : z' = z := by omega
  obtain ⟨sz, fj, l1, l2, l3⟩ := p_sameM hn hz h17 (now := now) (met := w1) (fun i hi => by rw [c2 i hi]; exact (ho.2.1 i hi).2) (fun i hi => by have := (b' i hi).1; omega) (w1, w2, w3, w4, w5) rfl
  have ft : ∀ o s m : Nat, (ftS (o : Int) (s : Int) (fun i => now (58 + i)) w1 z' m ↔ ftS (o : Int) (s : Int) x.2.2.2 me z' m) := fun o s m => ftS_congr (fun j hj => c2 j hj) (fun j hj => (q j hj).1)
  have es : sz = ss' := by
    rw [l2, y2]
    refine sm_congr (N := 4) (fun o _ => ?_) 4 (Nat.le_refl 4)
    refine sm_congr (N := 31) (fun s _ => ?_) 31 (Nat.le_refl 31)
    refine sm_congr (N := o + 1) (fun m _ => ?_) (o + 1) (Nat.le_refl _)
    exact fI_congr (ft (o + 1) (s + 1) (m + 1))
  have ef : fj = fi' := mnF_one (mnF_congr (fun o m s => and_congr Iff.rfl (ft o s m)) l3) y3
  subst es ef
  by_cases h2 : a = 0
  · refine ⟨sz, kn', sz, fj, mo', fe', w1, w2, w3, w4, w5, (ck_pos ha).trans ((if_neg h0).trans ((ck_pos ha).trans ((if_neg h1).trans ((bd_of f1).trans ?_)))), (bd_of e).trans ((ck_pos (by omega)).trans ((if_neg (by omega)).trans ((bd_of g1).trans ((bd_of l1).trans ?_)))), f2'⟩
    · exact (bd_of ((ck_pos ha).trans (if_pos h2))).trans rfl
    · exact (bd_of ((ck_pos ha).trans (if_pos h2))).trans rfl
  · refine ⟨fj, kn', sz, fj, mo', fe', w1, w2, w3, w4, w5, (ck_pos ha).trans ((if_neg h0).trans ((ck_pos ha).trans ((if_neg h1).trans ((bd_of f1).trans ?_)))), (bd_of e).trans ((ck_pos (by omega)).trans ((if_neg (by omega)).trans ((bd_of g1).trans ((bd_of l1).trans ?_)))), f2'⟩
    · exact (bd_of ((ck_pos ha).trans (if_neg h2))).trans rfl
    · exact (bd_of ((ck_pos ha).trans (if_neg h2))).trans rfl
