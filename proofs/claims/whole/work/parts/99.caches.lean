/-! are plans alike -/
theorem p_hasRules {n : Nat} (hn : 1000 ≤ n) {k k' : Nat} {le of_ se le' of' se' : Nat → Int} (h : okR k le of_ se) (h' : okR k' le' of' se') : ∃ b : Int, F_X4_hasRulesOf n k k' le le' of_ of' se se' = some b ∧ (b = 0 ∨ b = 1) ∧ (b = 1 ↔ k = k' ∧ ∀ r, r < k → le r = le' r ∧ of_ r = of' r ∧ se r = se' r) := by
  have hk := h.1
  have hk' := h'.1
  by_cases e : k = k'
  · subst e
    obtain ⟨o, h1, h2⟩ := lp_rule (f := fun (q : Int) => F_X4_hasRulesOf_L15 n k le le' of_ of' se se' q) (fun i q => q = (i : Int) ∧ i ≤ k ∧ ∀ r, r < i → le r = le' r ∧ of_ r = of' r ∧ se r = se' r) (fun o => o = .inl () ∧ (∀ r, r < k → le r = le' r ∧ of_ r = of' r ∧ se r = se' r) ∨ o = .inr () ∧ ¬ ∀ r, r < k → le r = le' r ∧ of_ r = of' r ∧ se r = se' r) (N := k) (n := n) (s := 0) (by omega) ⟨rfl, by omega, fun r hr => by omega⟩ (fun i q hI hi => by
      obtain ⟨rfl, c1, c2⟩ := hI
      by_cases hlt : i < k
      · have ti : ((i : Int)).toNat = i := by omega
        have a := h.2.1 i hlt
        have b := h'.2.1 i hlt
        unfold F_X4_hasRulesOf_L15
        rw [ti]
        by_cases e1 : le i = le' i
        · by_cases e2 : of_ i = of' i
          · by_cases e3 : se i = se' i
            · left
              refine ⟨(i : Int) + 1, (ck_pos (by omega)).trans ((if_pos (by omega)).trans ((ck_pos (by omega)).trans ((if_pos (by omega)).trans ((ck_pos (by omega)).trans ((ck_pos (by omega)).trans ((ck_pos (by omega)).trans ((if_pos e1).trans ((ck_pos (by omega)).trans ((ck_pos (by omega)).trans ((ck_pos (by omega)).trans ((if_pos e2).trans ((ck_pos (by omega)).trans ((ck_pos (by omega)).trans ((ck_pos (by omega)).trans (if_pos e3))))))))))))))), ⟨by omega, by omega, fun r hr => ?_⟩, hlt⟩
              by_cases er : r = i
              · rw [er]; exact ⟨e1, e2, e3⟩
              · exact c2 r (by omega)
            · right
              exact ⟨.inr (), (ck_pos (by omega)).trans ((if_pos (by omega)).trans ((ck_pos (by omega)).trans ((if_pos (by omega)).trans ((ck_pos (by omega)).trans ((ck_pos (by omega)).trans ((ck_pos (by omega)).trans ((if_pos e1).trans ((ck_pos (by omega)).trans ((ck_pos (by omega)).trans ((ck_pos (by omega)).trans ((if_pos e2).trans ((ck_pos (by omega)).trans ((ck_pos (by omega)).trans ((ck_pos (by omega)).trans (if_neg e3))))))))))))))), Or.inr ⟨rfl, fun q => e3 (q i hlt).2.2⟩⟩
          · right
            exact ⟨.inr (), (ck_pos (by omega)).trans ((if_pos (by omega)).trans ((ck_pos (by omega)).trans ((if_pos (by omega)).trans ((ck_pos (by omega)).trans ((ck_pos (by omega)).trans ((ck_pos (by omega)).trans ((if_pos e1).trans ((ck_pos (by omega)).trans ((ck_pos (by omega)).trans ((ck_pos (by omega)).trans (if_neg e2))))))))))), Or.inr ⟨rfl, fun q => e2 (q i hlt).2.1⟩⟩
        · right
          exact ⟨.inr (), (ck_pos (by omega)).trans ((if_pos (by omega)).trans ((ck_pos (by omega)).trans ((if_pos (by omega)).trans ((ck_pos (by omega)).trans ((ck_pos (by omega)).trans ((ck_pos (by omega)).trans (if_neg e1))))))), Or.inr ⟨rfl, fun q => e1 (q i hlt).1⟩⟩
      · right
        have : i = k := by omega
        subst this
        exact ⟨.inl (), (ck_pos (by omega)).trans (if_neg (by omega)), Or.inl ⟨rfl, c2⟩⟩)
    rcases h2 with ⟨rfl, h2⟩ | ⟨rfl, h2⟩
    · exact ⟨1, (ck_pos (by omega)).trans ((if_pos rfl).trans ((bd_of h1).trans rfl)), Or.inr rfl, fun _ => ⟨rfl, h2⟩, fun _ => rfl⟩
    · exact ⟨0, (ck_pos (by omega)).trans ((if_pos rfl).trans ((bd_of h1).trans rfl)), Or.inl rfl, fun q => by omega, fun q => absurd q.2 h2⟩
  · exact ⟨0, (ck_pos (by omega)).trans (if_neg (by omega)), Or.inl rfl, fun q => by omega, fun q => absurd q.1 e⟩
theorem p_hasChances {n : Nat} (hn : 1000 ≤ n) {ch ch' : Nat → Int} (h : okC ch) (h' : okC ch') : ∃ b : Int, F_X4_hasChancesOf n ch ch' = some b ∧ (b = 0 ∨ b = 1) ∧ (b = 1 ↔ ∀ g, g < 5 → ch g = ch' g) := by
  obtain ⟨o, h1, h2⟩ := lp_rule (f := fun (q : Int) => F_X4_hasChancesOf_L2 n ch ch' q) (fun i q => q = (i : Int) ∧ ∀ g, g < i → ch g = ch' g) (fun o => o = .inl () ∧ (∀ g, g < 5 → ch g = ch' g) ∨ o = .inr () ∧ ¬ ∀ g, g < 5 → ch g = ch' g) (N := 5) (n := n) (s := 0) (by omega) ⟨rfl, fun r hr => by omega⟩ (fun i q hI hi => by
    obtain ⟨rfl, c2⟩ := hI
    by_cases hlt : i < 5
    · have ti : ((i : Int)).toNat = i := by omega
      have a := h.1 i hlt
      have b := h'.1 i hlt
      unfold F_X4_hasChancesOf_L2
      rw [ti]
      by_cases e1 : ch i = ch' i
      · left
        refine ⟨(i : Int) + 1, (ck_pos (by omega)).trans ((if_pos (by omega)).trans ((ck_pos (by omega)).trans ((ck_pos (by omega)).trans ((ck_pos (by omega)).trans (if_pos e1))))), ⟨by omega, fun r hr => ?_⟩, hlt⟩
        by_cases er : r = i
        · rw [er]; exact e1
        · exact c2 r (by omega)
      · right
        exact ⟨.inr (), (ck_pos (by omega)).trans ((if_pos (by omega)).trans ((ck_pos (by omega)).trans ((ck_pos (by omega)).trans ((ck_pos (by omega)).trans (if_neg e1))))), Or.inr ⟨rfl, fun q => e1 (q i hlt)⟩⟩
    · right
      have : i = 5 := by omega
      subst this
      exact ⟨.inl (), (ck_pos (by omega)).trans (if_neg (by omega)), Or.inl ⟨rfl, c2⟩⟩)
  rcases h2 with ⟨rfl, h2⟩ | ⟨rfl, h2⟩
  · exact ⟨1, (bd_of h1).trans rfl, Or.inr rfl, fun _ => h2, fun _ => rfl⟩
  · exact ⟨0, (bd_of h1).trans rfl, Or.inl rfl, fun q => by omega, fun q => absurd q h2⟩
