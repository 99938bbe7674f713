/-! how soon an alarm can come -/
abbrev TSF : Type := Int × Int × Int × Int × (Nat → Int) × (Nat → Int) × (Nat → Int) × (Nat → Int) × (Nat → Int) × (Nat → Int) × (Nat → Int) × (Nat → Int) × (Nat → Int) × (Nat → Int) × (Nat → Int) × (Nat → Int) × (Nat → Int) × (Nat → Int)
theorem clT_congr {S : Nat} {T U : Nat → Int} (h : ∀ j, j < 5 * S → T j = U j) (c : clT S T) : clT S U := fun s g hs hg => by
  rw [← h (5 * s + g) (by omega)]
  exact c s g hs hg
theorem q_soonest {n : Nat} (hn : 1000 ≤ n) {x : TSh} {now : Nat → Int} (hx : rsI x now) {me pk si up dn : Nat → Int} (hw : wkI x me pk si up dn) {ma : TMa} (hm : maI n ma) (j1 j2 j3 : Int) (m1 m2 m3 m4 m5 po mm np ko nk sk sa to fa : Nat → Int) {a : Int} (ha : r4 a) : ∃ (r : Int) (ma' : TMa) (o : TSF), F_X11_soonest n x.2.1 pk ma.1 ma.2.1 ma.2.2.1 ma.2.2.2.1 ma.2.2.2.2.1 x.1.1 x.1.2.2.2.2.2.1 x.1.2.2.2.2.2.2 ma.2.2.2.2.2.1 x.1.2.1 ma.2.2.2.2.2.2.1 x.1.2.2.1 ma.2.2.2.2.2.2.2.1 x.1.2.2.2.1 x.1.2.2.2.2.1 ma.2.2.2.2.2.2.2.2.1 ma.2.2.2.2.2.2.2.2.2.1 ma.2.2.2.2.2.2.2.2.2.2.1 ma.2.2.2.2.2.2.2.2.2.2.2.1 ma.2.2.2.2.2.2.2.2.2.2.2.2.1 ma.2.2.2.2.2.2.2.2.2.2.2.2.2.1 ma.2.2.2.2.2.2.2.2.2.2.2.2.2.2.1 ma.2.2.2.2.2.2.2.2.2.2.2.2.2.2.2.1 ma.2.2.2.2.2.2.2.2.2.2.2.2.2.2.2.2 a = some (r, ma') ∧ F_X12_soonest n j1 j2 j3 now m1 m2 m3 m4 m5 po mm np ko nk sk sa to fa a = some o ∧ o.1 = r ∧ maI n ma' := by
  by_cases h0 : a < -1
  · exact ⟨-1, ma, _, (ck_pos ha).trans (if_pos h0), (ck_pos ha).trans (if_pos h0), rfl, hm⟩
  obtain ⟨t, S, ma', o, s1, s2, s3, s4, s5, s6, s7, s8, s9, s10, s11, -⟩ := p_stateNow hn hx hw hm m1 m2 m3 m4 m5 po mm np ko nk sk sa to
  have cm := clT_congr s11 s9
  obtain ⟨fa', f1, f2⟩ := p_findFar hn s5 cm fa
  rw [← s8] at f1
  have d2 := dsI_congr s9 s11 f2
  have tt : ((t : Int)).toNat = t := by omega
  have to_ : (o.1).toNat = t := by rw [s3]; exact tt
  rcases s10 t s4 with ⟨c1, c2⟩ | ⟨j, c1, c2, c3, c4⟩
  · rcases d2 t s4 with ⟨e1, e2⟩ | ⟨j, e1, e2, e3, e4⟩
    · have ec : ma'.2.2.2.2.2.2.2.2.2.2.2.2.2.2.2.2 ((t : Int)).toNat = -9 := by rw [tt]; exact c1
      have em : fa' (o.1).toNat = 100 := by rw [to_]; exact e1
      exact ⟨-9, ma', _, (ck_pos ha).trans ((if_neg h0).trans ((bd_of s1).trans ((bd_of (p_awayI (by show 0 ≤ (t : Int) ∧ (t : Int) < 64; omega))).trans ((ck_pos (by show r4 (ma'.2.2.2.2.2.2.2.2.2.2.2.2.2.2.2.2 ((t : Int)).toNat); omega)).trans (if_pos ec))))), (ck_pos ha).trans ((if_neg h0).trans ((bd_of s2).trans ((bd_of f1).trans ((ck_pos (by omega)).trans ((ck_pos (by omega)).trans (if_pos em)))))), rfl, s6⟩
    · exact absurd e4.1 (c2 j)
  · rcases d2 t s4 with ⟨e1, e2⟩ | ⟨j2, e1, e2, e3, e4⟩
    · exact absurd c4.1 (e2 j)
    · obtain rfl := fs_one c4 e4
      have ec : ma'.2.2.2.2.2.2.2.2.2.2.2.2.2.2.2.2 ((t : Int)).toNat = (j : Int) := by rw [tt]; exact c3
      have em : fa' (o.1).toNat = (j : Int) := by rw [to_]; exact e3
      have ecn : ¬ ma'.2.2.2.2.2.2.2.2.2.2.2.2.2.2.2.2 ((t : Int)).toNat = -9 := by omega
      have emn : ¬ fa' (o.1).toNat = 100 := by omega
      by_cases hl : a < (j : Int)
      · have ecl : a < ma'.2.2.2.2.2.2.2.2.2.2.2.2.2.2.2.2 ((t : Int)).toNat := by omega
        by_cases h1 : a = -1
        · refine ⟨(j : Int), ma', _, (ck_pos ha).trans ((if_neg h0).trans ((bd_of s1).trans ((bd_of (p_awayI (by show 0 ≤ (t : Int) ∧ (t : Int) < 64; omega))).trans ((ck_pos (by show r4 (ma'.2.2.2.2.2.2.2.2.2.2.2.2.2.2.2.2 ((t : Int)).toNat); omega)).trans ((if_neg ecn).trans ((ck_pos (by show r4 a ∧ r4 (ma'.2.2.2.2.2.2.2.2.2.2.2.2.2.2.2.2 ((t : Int)).toNat); omega)).trans ((if_pos ecl).trans ?_))))))), (ck_pos ha).trans ((if_neg h0).trans ((bd_of s2).trans ((bd_of f1).trans ((ck_pos (by omega)).trans ((ck_pos (by omega)).trans ((if_neg emn).trans ((ck_pos (by omega)).trans ((if_pos (by omega)).trans ((ck_pos ha).trans (if_pos h1)))))))))), em, s6⟩
          exact (bd_of (a := (j : Int)) ((ck_pos ha).trans ((if_pos h1).trans (congrArg some ec)))).trans rfl
        · obtain ⟨k, rfl⟩ : ∃ k : Nat, a = (k : Int) := ⟨a.toNat, by omega⟩
          obtain ⟨r, r1, r2⟩ := p_toAlarm hn s5 s9 s10 d2 o s11 (k := k) s3 s4 c4 (by omega) c2
          rw [← s3] at r2
          refine ⟨r, ma', _, (ck_pos ha).trans ((if_neg h0).trans ((bd_of s1).trans ((bd_of (p_awayI (by show 0 ≤ (t : Int) ∧ (t : Int) < 64; omega))).trans ((ck_pos (by show r4 (ma'.2.2.2.2.2.2.2.2.2.2.2.2.2.2.2.2 ((t : Int)).toNat); omega)).trans ((if_neg ecn).trans ((ck_pos (by show r4 (k : Int) ∧ r4 (ma'.2.2.2.2.2.2.2.2.2.2.2.2.2.2.2.2 ((t : Int)).toNat); omega)).trans ((if_pos ecl).trans ?_))))))), (ck_pos ha).trans ((if_neg h0).trans ((bd_of s2).trans ((bd_of f1).trans ((ck_pos (by omega)).trans ((ck_pos (by omega)).trans ((if_neg emn).trans ((ck_pos (by omega)).trans ((if_pos (by omega)).trans ((ck_pos ha).trans ((if_neg h1).trans (bd_of r2))))))))))), rfl, s6⟩
          exact (bd_of (a := r) ((ck_pos ha).trans ((if_neg h1).trans ((bd_of r1).trans rfl)))).trans rfl
      · exact ⟨-9, ma', _, (ck_pos ha).trans ((if_neg h0).trans ((bd_of s1).trans ((bd_of (p_awayI (by show 0 ≤ (t : Int) ∧ (t : Int) < 64; omega))).trans ((ck_pos (by show r4 (ma'.2.2.2.2.2.2.2.2.2.2.2.2.2.2.2.2 ((t : Int)).toNat); omega)).trans ((if_neg ecn).trans ((ck_pos (by show r4 a ∧ r4 (ma'.2.2.2.2.2.2.2.2.2.2.2.2.2.2.2.2 ((t : Int)).toNat); omega)).trans (if_neg (show ¬ a < ma'.2.2.2.2.2.2.2.2.2.2.2.2.2.2.2.2 ((t : Int)).toNat by omega)))))))), (ck_pos ha).trans ((if_neg h0).trans ((bd_of s2).trans ((bd_of f1).trans ((ck_pos (by omega)).trans ((ck_pos (by omega)).trans ((if_neg emn).trans ((ck_pos (by omega)).trans (if_neg (by omega))))))))), rfl, s6⟩
