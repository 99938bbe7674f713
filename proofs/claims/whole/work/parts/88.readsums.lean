theorem p_sums {n : Nat} (hn : 1000 ≤ n) {z N : Nat} {tx st ki va : Nat → Int} (hT : okT z tx) (hA : tkA z tx N st ki va) {k : Nat} {le of_ se ch : Nat → Int} {sl li : Int} {rd : Nat → Int} (hr : rdI k le of_ se ch sl li rd) (hk : k ≤ 3) {t : Nat} (ht : t < 1500) (h1 : 1 ≤ t) {to : Int} (hto : to = 0 ∨ to = 1) (so tv : Int) : ∃ (b : Int) (u : Nat) (toc tom sl' li' so' tv' : Int) (rd' : Nat → Int), F_X5_areSums n ((t : Int) - 1) to N ki va sl li = some (b, (u : Int) - 1, toc, sl', li') ∧ F_X12_readSums n z ((atS z tx t : Nat) : Int) ((stS z tx (t - 1) : Nat) : Int) so tv to tx rd = some (b, ((atS z tx u : Nat) : Int), ((stS z tx (u - 1) : Nat) : Int), so', tv', tom, rd') ∧ (b = 0 ∨ b = 1) ∧ t ≤ u ∧ u ≤ t + 2 ∧ (b = 1 → toc = 1 ∧ tom = 1 ∧ rdI k le of_ se ch sl' li' rd' ∧ (0 ≤ sl' ∧ sl' ≤ 2) ∧ 1 ≤ li' ∧ li' ≤ 9) := by
  unfold F_X5_areSums F_X12_readSums
  by_cases t0 : to = 0
  · have n1 := p_isNumber (n := n) hA (t := t) (by omega) (x := (t : Int) - 1) (by omega) (lo := 0) (hi := 2) (by decide) (by decide)
    obtain ⟨tv1, s1, e1⟩ := p_scanNumber hn hT t tv (lo := 0) (hi := 2) (by decide) (by decide)
    have b1 := nbS_b z tx t 0 2
    by_cases f1 : nbS z tx t 0 2 = 0
    · refine ⟨0, t + 1, 1, to, sl, li, _, tv1, rd, (ck_pos (by omega)).trans ((if_pos t0).trans ((bd_of n1).trans ((ck_pos (show r4 (nbS z tx t 0 2) by omega)).trans ((if_pos f1).trans ?_)))), (ck_pos (by omega)).trans ((if_pos t0).trans ((bd_of s1).trans ((ck_pos (show r4 (nbS z tx t 0 2) by omega)).trans (if_pos f1)))), Or.inl rfl, by omega, by omega, fun x => absurd x (by decide)⟩
      rw [show ((t + 1 : Nat) : Int) - 1 = (t : Int) by omega]
    · have v1 := b1.2 f1
      have tv1e := e1 f1
      subst tv1e
      have val1 := (p_tokens (n := n) hA (t := t) (by omega)).2.1
      have n2 := p_isNumber (n := n) hA (t := t + 1) (by omega) (x := (t : Int)) (by omega) (lo := 1) (hi := 9) (by decide) (by decide)
      obtain ⟨tv2, s2, e2⟩ := p_scanNumber hn hT (t + 1) (vlS z tx t) (lo := 1) (hi := 9) (by decide) (by decide)
      have b2 := nbS_b z tx (t + 1) 1 9
      by_cases f2 : nbS z tx (t + 1) 1 9 = 0
      · refine ⟨0, t + 2, 1, to, vlS z tx t, li, _, tv2, _, (ck_pos (by omega)).trans ((if_pos t0).trans ((bd_of n1).trans ((ck_pos (show r4 (nbS z tx t 0 2) by omega)).trans ((if_neg f1).trans ((bd_of val1).trans ((bd_of n2).trans ((ck_pos (by omega)).trans ((if_pos f2).trans ?_)))))))), (ck_pos (by omega)).trans ((if_pos t0).trans ((bd_of s1).trans ((ck_pos (show r4 (nbS z tx t 0 2) by omega)).trans ((if_neg f1).trans ((bd_of s2).trans ((ck_pos (by omega)).trans (if_pos f2))))))), Or.inl rfl, by omega, by omega, fun x => absurd x (by decide)⟩
        rw [show ((t + 2 : Nat) : Int) - 1 = ((t + 1 : Nat) : Int) by omega]
      · have v2 := b2.2 f2
        have tv2e := e2 f2
        subst tv2e
        have val2 := (p_tokens (n := n) hA (t := t + 1) (by omega)).2.1
        refine ⟨1, t + 2, 1, 1, vlS z tx t, vlS z tx (t + 1), _, vlS z tx (t + 1), _, (ck_pos (by omega)).trans ((if_pos t0).trans ((bd_of n1).trans ((ck_pos (show r4 (nbS z tx t 0 2) by omega)).trans ((if_neg f1).trans ((bd_of val1).trans ((bd_of n2).trans ((ck_pos (by omega)).trans ((if_neg f2).trans ((bd_of val2).trans ?_))))))))), (ck_pos (by omega)).trans ((if_pos t0).trans ((bd_of s1).trans ((ck_pos (show r4 (nbS z tx t 0 2) by omega)).trans ((if_neg f1).trans ((bd_of s2).trans ((ck_pos (by omega)).trans (if_neg f2))))))), Or.inr rfl, by omega, by omega, fun _ => ⟨rfl, rfl, ?_, by omega, by omega⟩⟩
        · rw [show ((t + 2 : Nat) : Int) - 1 = ((t + 1 : Nat) : Int) by omega]
        · obtain ⟨q0, q1, q2, q3, q4⟩ := hr
          refine ⟨?_, fun r hr' => ?_, fun g hg => ?_, ?_, ?_⟩
          · rw [up_off (by omega), up_off (by omega)]; exact q0
          · have := q1 r hr'
            unfold leM ofM seM at this ⊢
            rw [up_off (by omega), up_off (by omega), up_off (by omega), up_off (by omega), up_off (by omega), up_off (by omega)]
            exact this
          · rw [up_off (by omega), up_off (by omega)]; exact q2 g hg
          · rw [up_off (by omega), up_at]
          · rw [up_at]
  · refine ⟨0, t, to, to, sl, li, so, tv, rd, (ck_pos (by omega)).trans (if_neg t0), (ck_pos (by omega)).trans (if_neg t0), Or.inl rfl, Nat.le_refl t, by omega, fun x => absurd x (by decide)⟩
theorem p_chances {n : Nat} (hn : 1000 ≤ n) {z N : Nat} {tx st ki va : Nat → Int} (hT : okT z tx) (hA : tkA z tx N st ki va) {k : Nat} {le of_ se ch : Nat → Int} {sl li : Int} {rd : Nat → Int} (hr : rdI k le of_ se ch sl li rd) (hk : k ≤ 3) {t : Nat} (ht : t < 1500) (h1 : 1 ≤ t) {to : Int} (hto : to = 0 ∨ to = 1) (so tv : Int) : ∃ (b : Int) (u : Nat) (toc tom so' tv' : Int) (ch' rd' : Nat → Int), F_X5_areChances n ((t : Int) - 1) to N ki va ch = some (b, (u : Int) - 1, toc, ch') ∧ F_X12_readChance n z ((atS z tx t : Nat) : Int) ((stS z tx (t - 1) : Nat) : Int) so tv to tx rd = some (b, ((atS z tx u : Nat) : Int), ((stS z tx (u - 1) : Nat) : Int), so', tv', tom, rd') ∧ (b = 0 ∨ b = 1) ∧ t ≤ u ∧ u ≤ t + 5 ∧ (b = 1 → toc = 1 ∧ tom = 1 ∧ rdI k le of_ se ch' sl li rd' ∧ okC ch') := by
  unfold F_X5_areChances F_X12_readChance
  by_cases t0 : to = 0
  · obtain ⟨r, q, l1, l2, P⟩ := lp_two (f := fun (q : Int × Int × Int × (Nat → Int)) => F_X5_areChances_L19 n N ki va q.1 q.2.1 q.2.2.1 q.2.2.2) (g := fun (q : Int × Int × Int × Int × Int × Int × (Nat → Int)) => F_X12_readChance_L13 n z tx q.1 q.2.1 q.2.2.1 q.2.2.2.1 q.2.2.2.2.1 q.2.2.2.2.2.1 q.2.2.2.2.2.2)
      (fun i x y => ∃ (so' tv' sm : Int) (ch' rd' : Nat → Int), x = (10 - sm, (i : Int), ((t + i : Nat) : Int) - 1, ch') ∧ y = (sm, (i : Int), ((atS z tx (t + i) : Nat) : Int), ((stS z tx (t + i - 1) : Nat) : Int), so', tv', rd') ∧ i ≤ 5 ∧ rdI k le of_ se ch' sl li rd' ∧ (∀ g, g < i → 0 ≤ ch' g ∧ ch' g ≤ 10) ∧ sm = sm_ ch' i)
      (fun r q => (∃ (so' tv' sm : Int) (ch' rd' : Nat → Int), r = .inl (10 - sm, ((t + 5 : Nat) : Int) - 1, ch') ∧ q = .inl (sm, ((atS z tx (t + 5) : Nat) : Int), ((stS z tx (t + 5 - 1) : Nat) : Int), so', tv', rd') ∧ rdI k le of_ se ch' sl li rd' ∧ (∀ g, g < 5 → 0 ≤ ch' g ∧ ch' g ≤ 10) ∧ sm = sm_ ch' 5) ∨ ∃ (u : Nat) (so' tv' : Int) (ch' rd' : Nat → Int), t < u ∧ u ≤ t + 5 ∧ r = .inr ((u : Int) - 1, ch') ∧ q = .inr (((atS z tx u : Nat) : Int), ((stS z tx (u - 1) : Nat) : Int), so', tv', rd')) (N := 5) (n := n) (s := (10, 0, (t : Int) - 1, ch)) (t := (0, 0, ((atS z tx t : Nat) : Int), ((stS z tx (t - 1) : Nat) : Int), so, tv, rd)) (by omega) ⟨so, tv, 0, ch, rd, rfl, rfl, by omega, hr, fun g hg => by omega, rfl⟩ (fun i x y hI hi => by
      obtain ⟨so', tv', sm, ch', rd', rfl, rfl, c0, c1, c2, c3⟩ := hI
      dsimp only
      have n1 := p_isNumber (n := n) hA (t := t + i) (by omega) (x := ((t + i : Nat) : Int) - 1) (by omega) (lo := 0) (hi := 10) (by decide) (by decide)
      obtain ⟨tv1, s1, e1⟩ := p_scanNumber hn hT (t + i) tv' (lo := 0) (hi := 10) (by decide) (by decide)
      have b1 := nbS_b z tx (t + i) 0 10
      by_cases hlt : i < 5
      · by_cases f1 : nbS z tx (t + i) 0 10 = 0
        · right
          refine ⟨_, _, (ck_pos (by omega)).trans ((if_pos (by omega)).trans ((bd_of n1).trans ((ck_pos (show r4 (nbS z tx (t + i) 0 10) by omega)).trans (if_pos f1)))), (ck_pos (by omega)).trans ((if_pos (by omega)).trans ((bd_of s1).trans ((ck_pos (show r4 (nbS z tx (t + i) 0 10) by omega)).trans (if_pos f1)))), Or.inr ⟨t + i + 1, kmS (kdS z tx (t + i)), tv1, ch', rd', by omega, by omega, ?_, ?_⟩⟩
          · rw [show ((t + i + 1 : Nat) : Int) - 1 = ((t + i : Nat) : Int) by omega]
          · rw [show t + i + 1 - 1 = t + i by omega]
        · left
          have v1 := b1.2 f1
          have tv1e := e1 f1
          subst tv1e
          have val1 := (p_tokens (n := n) hA (t := t + i) (by omega)).2.1
          have ti : ((i : Int)).toNat = i := by omega
          have t10 : (10 + (i : Int)).toNat = 10 + i := by omega
          refine ⟨(10 - sm - vlS z tx (t + i), (i : Int) + 1, ((t + i : Nat) : Int), up_ ch' i (vlS z tx (t + i))), (sm + vlS z tx (t + i), (i : Int) + 1, ((atS z tx (t + i + 1) : Nat) : Int), ((stS z tx (t + i) : Nat) : Int), kmS (kdS z tx (t + i)), vlS z tx (t + i), up_ rd' (10 + i) (vlS z tx (t + i))), ?_, ?_, ⟨kmS (kdS z tx (t + i)), vlS z tx (t + i), sm + vlS z tx (t + i), up_ ch' i (vlS z tx (t + i)), up_ rd' (10 + i) (vlS z tx (t + i)), ?_, ?_, by omega, ?_, fun g hg => ?_, ?_⟩, hlt⟩
          · refine (ck_pos (by omega)).trans ((if_pos (by omega)).trans ((bd_of n1).trans ((ck_pos (show r4 (nbS z tx (t + i) 0 10) by omega)).trans ((if_neg f1).trans ((bd_of val1).trans ((ck_pos (by omega)).trans ((ck_pos (by omega)).trans ?_)))))))
            rw [ti, up_at]
          · refine (ck_pos (by omega)).trans ((if_pos (by omega)).trans ((bd_of s1).trans ((ck_pos (show r4 (nbS z tx (t + i) 0 10) by omega)).trans ((if_neg f1).trans ((ck_pos (by omega)).trans ?_)))))
            rw [t10]
          · rw [show 10 - (sm + vlS z tx (t + i)) = 10 - sm - vlS z tx (t + i) by omega, show ((i + 1 : Nat) : Int) = (i : Int) + 1 by omega, show ((t + (i + 1) : Nat) : Int) - 1 = ((t + i : Nat) : Int) by omega]
          · rw [show t + (i + 1) - 1 = t + i by omega, show ((i + 1 : Nat) : Int) = (i : Int) + 1 by omega, show t + (i + 1) = t + i + 1 by omega]
          · obtain ⟨q0, q1, q2, q3, q4⟩ := c1
            refine ⟨?_, fun r hr' => ?_, fun g hg => ?_, ?_, ?_⟩
            · rw [up_off (by omega)]; exact q0
            · have := q1 r hr'
              unfold leM ofM seM at this ⊢
              rw [up_off (by omega), up_off (by omega), up_off (by omega)]
              exact this
            · by_cases e : g = i
              · rw [e, up_at, up_at]
              · rw [up_off (by omega), up_off e]; exact q2 g hg
            · rw [up_off (by omega)]; exact q3
            · rw [up_off (by omega)]; exact q4
          · by_cases e : g = i
            · rw [e, up_at]; omega
            · rw [up_off e]; exact c2 g (by omega)
          · show sm + vlS z tx (t + i) = sm_ (up_ ch' i (vlS z tx (t + i))) i + up_ ch' i (vlS z tx (t + i)) i
            rw [up_at, c3, sm_congr (f := up_ ch' i (vlS z tx (t + i))) (g := ch') (N := i) (fun j hj => up_off (by omega)) i (Nat.le_refl i)]
      · right
        have : i = 5 := by omega
        subst this
        exact ⟨_, _, (ck_pos (by omega)).trans (if_neg (by omega)), (ck_pos (by omega)).trans (if_neg (by omega)), Or.inl ⟨so', tv', sm, ch', rd', rfl, rfl, c1, c2, c3⟩⟩)
    rcases P with ⟨so', tv', sm, ch', rd', rfl, rfl, p1, p2, p3⟩ | ⟨u, so', tv', ch', rd', u1, u2, rfl, rfl⟩
    · have c5 : sm_ ch' 5 = ch' 0 + ch' 1 + ch' 2 + ch' 3 + ch' 4 := by
        show 0 + ch' 0 + ch' 1 + ch' 2 + ch' 3 + ch' 4 = _
        omega
      have g0 := p2 0 (by omega)
      have g1 := p2 1 (by omega)
      have g2 := p2 2 (by omega)
      have g3 := p2 3 (by omega)
      have g4 := p2 4 (by omega)
      by_cases e : sm = 10
      · exact ⟨1, t + 5, 1, 1, so', tv', ch', rd', (ck_pos (by omega)).trans ((if_pos t0).trans ((bd_of l1).trans ((bd_of (a := (1 : Int)) ((ck_pos (show r4 (10 - sm) by omega)).trans (if_pos (show 10 - sm = 0 by omega)))).trans (ck_pos (by decide))))), (ck_pos (by omega)).trans ((if_pos t0).trans ((bd_of l2).trans ((bd_of (a := (1 : Int)) ((ck_pos (show r4 sm by omega)).trans (if_pos e))).trans (ck_pos (by decide))))), Or.inr rfl, by omega, by omega, fun _ => ⟨rfl, rfl, p1, p2, by omega⟩⟩
      · exact ⟨0, t + 5, 1, 1, so', tv', ch', rd', (ck_pos (by omega)).trans ((if_pos t0).trans ((bd_of l1).trans ((bd_of (a := (0 : Int)) ((ck_pos (show r4 (10 - sm) by omega)).trans (if_neg (show ¬ 10 - sm = 0 by omega)))).trans (ck_pos (by decide))))), (ck_pos (by omega)).trans ((if_pos t0).trans ((bd_of l2).trans ((bd_of (a := (0 : Int)) ((ck_pos (show r4 sm by omega)).trans (if_neg e))).trans (ck_pos (by decide))))), Or.inl rfl, by omega, by omega, fun x => absurd x (by decide)⟩
    · exact ⟨0, u, 1, to, so', tv', ch', rd', (ck_pos (by omega)).trans ((if_pos t0).trans ((bd_of l1).trans rfl)), (ck_pos (by omega)).trans ((if_pos t0).trans ((bd_of l2).trans rfl)), Or.inl rfl, by omega, by omega, fun x => absurd x (by decide)⟩
  · refine ⟨0, t, to, to, so, tv, ch, rd, (ck_pos (by omega)).trans (if_neg t0), (ck_pos (by omega)).trans (if_neg t0), Or.inl rfl, Nat.le_refl t, by omega, fun x => absurd x (by decide)⟩
