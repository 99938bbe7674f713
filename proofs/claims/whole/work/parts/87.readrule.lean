theorem p_addRule {n k : Nat} (hk : k < 3) (le of_ se : Nat → Int) (m o s : Int) : F_X4_addRule n k le of_ se m o s = some ((k : Int) + 1, up_ le k m, up_ of_ k o, up_ se k s) := by
  have tk : ((k : Int)).toNat = k := by omega
  unfold F_X4_addRule
  rw [tk]
  exact (bd_of (a := ((k : Int) + 1, up_ le k m, up_ of_ k o, up_ se k s)) ((ck_pos (by omega)).trans ((if_pos (by omega)).trans ((ck_pos (by omega)).trans ((ck_pos (by omega)).trans (ck_pos (by omega))))))).trans rfl
theorem rdI_add {k : Nat} {le of_ se ch : Nat → Int} {sl li : Int} {rd : Nat → Int} (hk : k < 3) (h : rdI k le of_ se ch sl li rd) (m o s : Int) : rdI (k + 1) (up_ le k m) (up_ of_ k o) (up_ se k s) ch sl li (up_ (up_ (up_ (up_ rd (1 + 3 * k) m) (2 + 3 * k) o) (3 + 3 * k) s) 0 (rd 0 + 1)) := by
  obtain ⟨h0, h1, h2, h3, h4⟩ := h
  refine ⟨by rw [up_at, h0]; omega, fun r hr => ?_, fun g hg => ?_, ?_, ?_⟩
  · unfold leM ofM seM
    by_cases e : r = k
    · subst e
      rw [up_at, up_at, up_at]
      refine ⟨?_, ?_, ?_⟩
      · rw [up_off (by omega), up_off (by omega), up_off (by omega), up_at]
      · rw [up_off (by omega), up_off (by omega), up_at]
      · rw [up_off (by omega), up_at]
    · have := h1 r (by omega)
      unfold leM ofM seM at this
      rw [up_off (i := k) (j := r) e, up_off (i := k) (j := r) e, up_off (i := k) (j := r) e]
      refine ⟨?_, ?_, ?_⟩
      · rw [up_off (by omega), up_off (by omega), up_off (by omega), up_off (by omega)]; exact this.1
      · rw [up_off (by omega), up_off (by omega), up_off (by omega), up_off (by omega)]; exact this.2.1
      · rw [up_off (by omega), up_off (by omega), up_off (by omega), up_off (by omega)]; exact this.2.2
  · rw [up_off (by omega), up_off (by omega), up_off (by omega), up_off (by omega)]; exact h2 g hg
  · rw [up_off (by omega), up_off (by omega), up_off (by omega), up_off (by omega)]; exact h3
  · rw [up_off (by omega), up_off (by omega), up_off (by omega), up_off (by omega)]; exact h4
theorem okR_add {k : Nat} {le of_ se : Nat → Int} (hk : k < 3) (h : okR k le of_ se) {m o s : Int} (hm : 1 ≤ m ∧ m ≤ o) (ho : o ≤ 4 ∧ o ≤ 7 - wd_ of_ k) (hs : 1 ≤ s ∧ s ≤ 31) : okR (k + 1) (up_ le k m) (up_ of_ k o) (up_ se k s) := by
  refine ⟨by omega, fun r hr => ?_, ?_⟩
  · by_cases e : r = k
    · subst e
      rw [up_at, up_at, up_at]; omega
    · rw [up_off e, up_off e, up_off e]; exact h.2.1 r (by omega)
  · show wd_ (up_ of_ k o) k + (up_ of_ k o k - 1) ≤ 6
    rw [up_at, wd_congr (g := of_) (fun r hr => up_off (by omega)) k (Nat.le_refl k)]
    omega
theorem p_rule {n : Nat} (hn : 1000 ≤ n) {z N : Nat} {tx st ki va : Nat → Int} (hT : okT z tx) (hA : tkA z tx N st ki va) {k : Nat} {le of_ se ch : Nat → Int} {sl li : Int} {rd : Nat → Int} (hr : rdI k le of_ se ch sl li rd) (ho : okR k le of_ se) {t : Nat} (ht : t < 1500) (h1 : 1 ≤ t) (so tv : Int) : ∃ (b : Int) (u k' : Nat) (le' of' se' : Nat → Int) (so' tv' : Int) (rd' : Nat → Int), F_X5_isRule n ((t : Int) - 1) k N ki va of_ le se = some (b, (u : Int) - 1, (k' : Int), of', le', se') ∧ F_X12_readRule n z ((atS z tx t : Nat) : Int) ((stS z tx (t - 1) : Nat) : Int) so tv rd tx = some (b, ((atS z tx u : Nat) : Int), ((stS z tx (u - 1) : Nat) : Int), so', tv', rd') ∧ (b = 0 ∨ b = 1) ∧ t ≤ u ∧ u ≤ t + 3 ∧ (b = 1 → rdI k' le' of' se' ch sl li rd' ∧ okR k' le' of' se') := by
  have hk := ho.1
  have h0 := hr.1
  have wk := ho.wd k (Nat.le_refl k)
  unfold F_X5_isRule F_X12_readRule
  rw [h0]
  by_cases k3 : k = 3
  · refine ⟨0, t, k, le, of_, se, so, tv, rd, (ck_pos (by omega)).trans (if_neg (by omega)), (ck_pos (by omega)).trans (if_pos (by omega)), Or.inl rfl, Nat.le_refl t, by omega, fun x => absurd x (by decide)⟩
  · have n1 := p_isNumber (n := n) hA (t := t) (by omega) (x := (t : Int) - 1) (by omega) (lo := 1) (hi := 4) (by decide) (by decide)
    obtain ⟨tv1, s1, e1⟩ := p_scanNumber hn hT t tv (lo := 1) (hi := 4) (by decide) (by decide)
    have b1 := nbS_b z tx t 1 4
    by_cases f1 : nbS z tx t 1 4 = 0
    · refine ⟨0, t + 1, k, le, of_, se, _, tv1, rd, (ck_pos (by omega)).trans ((if_pos (by omega)).trans ((bd_of n1).trans ((ck_pos (show r4 (nbS z tx t 1 4) by omega)).trans ((if_pos f1).trans ?_)))), (ck_pos (by omega)).trans ((if_neg (by omega)).trans ((bd_of s1).trans ((ck_pos (show r4 (nbS z tx t 1 4) by omega)).trans (if_pos f1)))), Or.inl rfl, by omega, by omega, fun x => absurd x (by decide)⟩
      rw [show ((t + 1 : Nat) : Int) - 1 = (t : Int) by omega]
    · have v1 := b1.2 f1
      have tv1e := e1 f1
      subst tv1e
      have val1 := (p_tokens (n := n) hA (t := t) (by omega)).2.1
      have pw := p_pastWidth hn hk of_
      have wm := p_width hn hk h0
      have wc : wd_ (ofM rd) k = wd_ of_ k := wd_congr (fun r hr' => (hr.2.1 r hr').2.1) k (Nat.le_refl k)
      rw [wc] at wm
      have room : (if 7 - wd_ of_ k < 4 then 7 - wd_ of_ k else 4) = min 4 (6 - wd_ of_ k + 1) := by split <;> omega
      have n2 := p_isNumber (n := n) hA (t := t + 1) (by omega) (x := (t : Int)) (by omega) (lo := vlS z tx t) (hi := min 4 (6 - wd_ of_ k + 1)) (by omega) (by omega)
      obtain ⟨tv2, s2, e2⟩ := p_scanNumber hn hT (t + 1) (vlS z tx t) (lo := vlS z tx t) (hi := min 4 (6 - wd_ of_ k + 1)) (by omega) (by omega)
      have b2 := nbS_b z tx (t + 1) (vlS z tx t) (min 4 (6 - wd_ of_ k + 1))
      have rm : (ck (r4 (7 - wd_ of_ k)) (if 7 - wd_ of_ k < 4 then some (7 - wd_ of_ k) else some 4)) = some (min 4 (6 - wd_ of_ k + 1)) := by
        refine (ck_pos (by omega)).trans ?_
        rw [← room]
        split <;> rfl
      by_cases f2 : nbS z tx (t + 1) (vlS z tx t) (min 4 (6 - wd_ of_ k + 1)) = 0
      · refine ⟨0, t + 2, k, le, of_, se, _, tv2, rd, (ck_pos (by omega)).trans ((if_pos (by omega)).trans ((bd_of n1).trans ((ck_pos (show r4 (nbS z tx t 1 4) by omega)).trans ((if_neg f1).trans ((bd_of val1).trans ((bd_of pw).trans ((ck_pos (by omega)).trans ((bd_of n2).trans ((ck_pos (by omega)).trans ((if_pos f2).trans ?_)))))))))), (ck_pos (by omega)).trans ((if_neg (by omega)).trans ((bd_of s1).trans ((ck_pos (show r4 (nbS z tx t 1 4) by omega)).trans ((if_neg f1).trans ((bd_of wm).trans ((bd_of rm).trans ((bd_of s2).trans ((ck_pos (by omega)).trans (if_pos f2))))))))), Or.inl rfl, by omega, by omega, fun x => absurd x (by decide)⟩
        rw [show ((t + 2 : Nat) : Int) - 1 = ((t + 1 : Nat) : Int) by omega]
      · have v2 := b2.2 f2
        have tv2e := e2 f2
        subst tv2e
        have val2 := (p_tokens (n := n) hA (t := t + 1) (by omega)).2.1
        have n3 := p_isNumber (n := n) hA (t := t + 2) (by omega) (x := ((t + 1 : Nat) : Int)) (by omega) (lo := 1) (hi := 31) (by decide) (by decide)
        obtain ⟨tv3, s3, e3⟩ := p_scanNumber hn hT (t + 2) (vlS z tx (t + 1)) (lo := 1) (hi := 31) (by decide) (by decide)
        have b3 := nbS_b z tx (t + 2) 1 31
        by_cases f3 : nbS z tx (t + 2) 1 31 = 0
        · refine ⟨0, t + 3, k, le, of_, se, _, tv3, rd, (ck_pos (by omega)).trans ((if_pos (by omega)).trans ((bd_of n1).trans ((ck_pos (show r4 (nbS z tx t 1 4) by omega)).trans ((if_neg f1).trans ((bd_of val1).trans ((bd_of pw).trans ((ck_pos (by omega)).trans ((bd_of n2).trans ((ck_pos (by omega)).trans ((if_neg f2).trans ((bd_of val2).trans ((bd_of n3).trans ((ck_pos (by omega)).trans ((if_pos f3).trans ?_)))))))))))))), (ck_pos (by omega)).trans ((if_neg (by omega)).trans ((bd_of s1).trans ((ck_pos (show r4 (nbS z tx t 1 4) by omega)).trans ((if_neg f1).trans ((bd_of wm).trans ((bd_of rm).trans ((bd_of s2).trans ((ck_pos (by omega)).trans ((if_neg f2).trans ((bd_of s3).trans ((ck_pos (by omega)).trans (if_pos f3)))))))))))), Or.inl rfl, by omega, by omega, fun x => absurd x (by decide)⟩
          rw [show ((t + 3 : Nat) : Int) - 1 = ((t + 2 : Nat) : Int) by omega]
        · have v3 := b3.2 f3
          have tv3e := e3 f3
          subst tv3e
          have val3 := (p_tokens (n := n) hA (t := t + 2) (by omega)).2.1
          have ad := p_addRule (n := n) (k := k) (by omega) le of_ se (vlS z tx t) (vlS z tx (t + 1)) (vlS z tx (t + 2))
          have t1 : (1 + 3 * (k : Int)).toNat = 1 + 3 * k := by omega
          have t2 : (1 + 3 * (k : Int) + 1).toNat = 2 + 3 * k := by omega
          have t3 : (1 + 3 * (k : Int) + 2).toNat = 3 + 3 * k := by omega
          have u0 : up_ (up_ (up_ rd (1 + 3 * k) (vlS z tx t)) (2 + 3 * k) (vlS z tx (t + 1))) (3 + 3 * k) (vlS z tx (t + 2)) 0 = rd 0 := by rw [up_off (by omega), up_off (by omega), up_off (by omega)]
          refine ⟨1, t + 3, k + 1, up_ le k (vlS z tx t), up_ of_ k (vlS z tx (t + 1)), up_ se k (vlS z tx (t + 2)), kmS (kdS z tx (t + 2)), vlS z tx (t + 2), _, (ck_pos (by omega)).trans ((if_pos (by omega)).trans ((bd_of n1).trans ((ck_pos (show r4 (nbS z tx t 1 4) by omega)).trans ((if_neg f1).trans ((bd_of val1).trans ((bd_of pw).trans ((ck_pos (by omega)).trans ((bd_of n2).trans ((ck_pos (by omega)).trans ((if_neg f2).trans ((bd_of val2).trans ((bd_of n3).trans ((ck_pos (by omega)).trans ((if_neg f3).trans ((bd_of val3).trans ((bd_of ad).trans ?_)))))))))))))))), (ck_pos (by omega)).trans ((if_neg (by omega)).trans ((bd_of s1).trans ((ck_pos (show r4 (nbS z tx t 1 4) by omega)).trans ((if_neg f1).trans ((bd_of wm).trans ((bd_of rm).trans ((bd_of s2).trans ((ck_pos (by omega)).trans ((if_neg f2).trans ((bd_of s3).trans ((ck_pos (by omega)).trans ((if_neg f3).trans ?_)))))))))))), Or.inr rfl, by omega, by omega, fun _ => ⟨rdI_add (by omega) hr _ _ _, okR_add (by omega) ho (by omega) (by omega) (by omega)⟩⟩
          · rw [show ((t + 3 : Nat) : Int) - 1 = ((t + 2 : Nat) : Int) by omega, show ((k + 1 : Nat) : Int) = (k : Int) + 1 by omega]
          · rw [t1, t2, t3]
            refine (ck_pos (by omega)).trans ((ck_pos (by omega)).trans ((ck_pos (by omega)).trans ?_))
            dsimp only
            rw [u0]
            rfl
