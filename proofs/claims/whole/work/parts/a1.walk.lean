/-! rows gone through, alike on both sides -/
theorem cp_in {f g : Nat → Int} {n r : Nat} (h : r < n) : cp_ f g 0 0 n r = f r := by
  unfold cp_
  rw [if_pos (by omega)]
  congr 1
  omega
theorem paS_congr {k : Nat} {le of_ se le' of' se' : Nat → Int} (h : ∀ r, r < k → le r = le' r ∧ of_ r = of' r ∧ se r = se' r) {sg sg' : Nat → Int} : ∀ i, (∀ j, j < i → sg j = sg' j) → paS k le of_ se sg i = paS k le' of' se' sg' i
  | 0, _ => rfl
  | i + 1, hs => by
    have e := paS_congr h i (fun j hj => hs j (by omega))
    simp only [paS]
    rw [e, hs i (by omega), mtS_congr h _ _ k (Nat.le_refl k), nxS_congr (fun r hr => (h r hr).2) _ _ k (Nat.le_refl k)]
theorem meS_congr {k : Nat} {le of_ se le' of' se' : Nat → Int} (h : ∀ r, r < k → le r = le' r ∧ of_ r = of' r ∧ se r = se' r) {sg sg' : Nat → Int} {i : Nat} (hs : ∀ j, j ≤ i → sg j = sg' j) : meS k le of_ se sg i = meS k le' of' se' sg' i := by
  unfold meS
  rw [paS_congr h i (fun j hj => hs j (by omega)), hs i (by omega), mtS_congr h _ _ k (Nat.le_refl k)]
theorem udS_congr {sl li : Int} {sg sg' : Nat → Int} : ∀ i, (∀ j, j < i → sg j = sg' j) → udS sl li sg i = udS sl li sg' i
  | 0, _ => rfl
  | i + 1, hs => by
    have e := udS_congr (sl := sl) (li := li) i (fun j hj => hs j (by omega))
    simp only [udS]
    rw [e, hs i (by omega)]
theorem siS_congr {sl li : Int} {sg sg' : Nat → Int} {i : Nat} (hs : ∀ j, j ≤ i → sg j = sg' j) : siS sl li sg i = siS sl li sg' i := by
  unfold siS
  rw [udS_congr i (fun j hj => hs j (by omega)), hs i (by omega)]
/-- what is found at the rows of a sheet -/
def wkI (x : TSh) (me pa si up dn : Nat → Int) : Prop := ∃ k z : Nat, x.1.1 = (k : Int) ∧ x.2.1 = (z : Int) ∧ ∀ i, i < z → me i = meS k x.1.2.1 x.1.2.2.1 x.1.2.2.2.1 x.2.2.2 i ∧ pa i = paS k x.1.2.1 x.1.2.2.1 x.1.2.2.2.1 x.2.2.2 (i + 1) ∧ si i = siS x.1.2.2.2.2.2.1 x.1.2.2.2.2.2.2 x.2.2.2 i ∧ up i = (udS x.1.2.2.2.2.2.1 x.1.2.2.2.2.2.2 x.2.2.2 (i + 1)).1 ∧ dn i = (udS x.1.2.2.2.2.2.1 x.1.2.2.2.2.2.2 x.2.2.2 (i + 1)).2
theorem wkI_eq {x : TSh} {a1 a2 a3 a4 a5 b1 b2 b3 b4 b5 : Nat → Int} (h : wkI x a1 a2 a3 a4 a5) (g : wkI x b1 b2 b3 b4 b5) {z : Nat} (hz : x.2.1 = (z : Int)) : ∀ i, i < z → a1 i = b1 i ∧ a2 i = b2 i ∧ a3 i = b3 i ∧ a4 i = b4 i ∧ a5 i = b5 i := by
  obtain ⟨k, z1, h1, h2, h3⟩ := h
  obtain ⟨k', z2, g1, g2, g3⟩ := g
  obtain rfl : k' = k := by omega
  intro i hi
  have a := h3 i (by omega)
  have b := g3 i (by omega)
  exact ⟨a.1.trans b.1.symm, a.2.1.trans b.2.1.symm, a.2.2.1.trans b.2.2.1.symm, a.2.2.2.1.trans b.2.2.2.1.symm, a.2.2.2.2.trans b.2.2.2.2.symm⟩
theorem p_goC {n : Nat} (hn : 1000 ≤ n) {x : TSh} {b : Nat → Int} (h : rsI x b) (me pa si up dn : Nat → Int) : ∃ a1 a2 a3 a4 a5 : Nat → Int, F_X11_goThrough n x.2.1 x.2.2.2 x.1.1 x.1.2.2.2.2.2.1 x.1.2.2.2.2.2.2 x.1.2.2.1 x.1.2.2.2.1 x.1.2.1 me pa si up dn = some (a1, a2, a3, a4, a5, 0) ∧ wkI x a1 a2 a3 a4 a5 := by
  obtain ⟨⟨k0, le, of_, se, ch, sl, li⟩, z0, ti, sg⟩ := x
  obtain ⟨k, z, e1, e2, hr, hg, h17, ho, -, -⟩ := h
  dsimp only at e1 e2 hr hg ho ⊢
  subst e1 e2
  obtain ⟨g1, g2, g3, g4⟩ := hg
  have t := p_through hn g1 (li := li) (sl := sl) ⟨by omega, by omega⟩ g3 ho.1 (fun i hi => (ho.2.1 i hi).2) me pa si up dn
  exact ⟨_, _, _, _, _, (bd_of t).trans rfl, k, z, rfl, rfl, fun i hi => ⟨ov_in (f := meS k le of_ se sg) hi, ov_in (f := fun i => paS k le of_ se sg (i + 1)) hi, ov_in (f := siS sl li sg) hi, ov_in (f := fun i => (udS sl li sg (i + 1)).1) hi, ov_in (f := fun i => (udS sl li sg (i + 1)).2) hi⟩⟩
theorem rsI_okM {k : Nat} {le of_ se ch : Nat → Int} {sl li : Int} {b : Nat → Int} (h : rdI k le of_ se ch sl li b) (g : okR k le of_ se) : okR k (leM b) (ofM b) (seM b) := okR_congr (fun r hr => ⟨(h.2.1 r hr).1.symm, (h.2.1 r hr).2.1.symm, (h.2.1 r hr).2.2.symm⟩) g
theorem p_goM {n : Nat} (hn : 1000 ≤ n) {x : TSh} {b : Nat → Int} (h : rsI x b) (me pa si up dn : Nat → Int) : ∃ a1 a2 a3 a4 a5 : Nat → Int, F_X12_goThrough n b me pa si up dn = some (a1, a2, a3, a4, a5) ∧ wkI x a1 a2 a3 a4 a5 := by
  obtain ⟨⟨k0, le, of_, se, ch, sl, li⟩, z0, ti, sg⟩ := x
  obtain ⟨k, z, e1, e2, hr, hg, h17, ho, -, hs⟩ := h
  dsimp only at e1 e2 hr hg ho hs ⊢
  subst e1 e2
  obtain ⟨g1, g2, g3, g4⟩ := hg
  have ok := rsI_okM hr g1
  obtain ⟨d0, d1, d2, d3, d4⟩ := hr
  have hz := ho.1
  have t := p_goThrough hn d0 ok ⟨by omega, by omega⟩ ⟨by omega, by omega⟩ h17 hz (fun i hi => by rw [hs i hi]; exact (ho.2.1 i hi).2) me pa si up dn
  refine ⟨_, _, _, _, _, t, k, z, rfl, rfl, fun i hi => ⟨(ov_in hi).trans ?_, (ov_in hi).trans ?_, (ov_in hi).trans ?_, (ov_in hi).trans ?_, (ov_in hi).trans ?_⟩⟩
  · exact meS_congr d1 (fun j hj => hs j (by omega))
  · exact paS_congr d1 (i + 1) (fun j hj => hs j (by omega))
  · rw [d3, d4]; exact siS_congr (fun j hj => hs j (by omega))
  · rw [d3, d4]; exact congrArg Prod.fst (udS_congr (i + 1) (fun j hj => hs j (by omega)))
  · rw [d3, d4]; exact congrArg Prod.snd (udS_congr (i + 1) (fun j hj => hs j (by omega)))
theorem wkI_r {x : TSh} {b : Nat → Int} (h : rsI x b) {a1 a2 a3 a4 a5 : Nat → Int} (g : wkI x a1 a2 a3 a4 a5) {z : Nat} (hz : x.2.1 = (z : Int)) : ∀ i, i < z → (0 ≤ a1 i ∧ a1 i < 8) ∧ (0 ≤ a2 i ∧ a2 i < 64) ∧ (a3 i = 0 ∨ a3 i = 1) ∧ (0 ≤ a4 i ∧ a4 i ≤ 9) ∧ (0 ≤ a5 i ∧ a5 i ≤ 9) := by
  obtain ⟨k, z1, e1, e2, hr, hg, h17, ho, -, hs⟩ := h
  obtain ⟨k', z2, g1, g2, g3⟩ := g
  obtain rfl : k' = k := by omega
  intro i hi
  obtain ⟨c1, c2, c3, c4, c5⟩ := g3 i (by omega)
  have u := udS_b (sl := x.1.2.2.2.2.2.1) (li := x.1.2.2.2.2.2.2) (sg := x.2.2.2) ⟨by have := hg.2.2.2; omega, by have := hg.2.2.2; omega⟩ (i + 1)
  have p := paS_b hg.1 x.2.2.2 (i + 1)
  have m := meS_b hg.1 x.2.2.2 i
  refine ⟨by omega, by omega, ?_, by omega, by omega⟩
  rw [c3]
  unfold siS
  split
  · exact Or.inr rfl
  · exact Or.inl rfl
/-! is it a row, is it a sign -/
theorem p_isSignC {n : Nat} {y : Int} (h : r4 y) : F_X11_isSign n y = some (if 0 ≤ y ∧ y < 5 then 1 else 0) := by
  by_cases h0 : y < 0
  · rw [if_neg (by omega)]
    exact (bd_of ((ck_pos h).trans (if_pos h0))).trans (ck_pos (Or.inl rfl))
  · by_cases h5 : y < 5
    · rw [if_pos (by omega)]
      exact (bd_of ((ck_pos h).trans ((if_neg h0).trans ((ck_pos h).trans (if_pos h5))))).trans (ck_pos (Or.inr rfl))
    · rw [if_neg (by omega)]
      exact (bd_of ((ck_pos h).trans ((if_neg h0).trans ((ck_pos h).trans (if_neg h5))))).trans (ck_pos (Or.inl rfl))
theorem p_isRowC {n z : Nat} (hz : z ≤ 40) {y : Int} (h : r4 y) : F_X11_isRow n (z : Int) y = some (if 0 ≤ y ∧ y < z then 1 else 0) := by
  by_cases h0 : y < 0
  · rw [if_neg (by omega)]
    exact (bd_of ((ck_pos h).trans (if_pos h0))).trans (ck_pos (Or.inl rfl))
  · by_cases h5 : y < (z : Int)
    · rw [if_pos (by omega)]
      exact (bd_of ((ck_pos h).trans ((if_neg h0).trans ((ck_pos ⟨h, by omega⟩).trans ((if_pos h5).trans ((ck_pos h).trans (if_pos (by omega)))))))).trans (ck_pos (Or.inr rfl))
    · rw [if_neg (by omega)]
      exact (bd_of ((ck_pos h).trans ((if_neg h0).trans ((ck_pos ⟨h, by omega⟩).trans (if_neg h5))))).trans (ck_pos (Or.inl rfl))
theorem f01 (p : Prop) [Decidable p] : (if p then (1 : Int) else 0) = 0 ∨ (if p then (1 : Int) else 0) = 1 := by
  split
  · exact Or.inr rfl
  · exact Or.inl rfl
theorem p_isSignM {n : Nat} {y : Int} (h : r4 y) : F_X12_isSign n y = some (if 0 ≤ y ∧ y < 5 then 1 else 0) := by
  have e := p_in (n := n) h (a := 0) (b := 4) ⟨by omega, by omega⟩ ⟨by omega, by omega⟩
  have e2 : (if 0 ≤ y ∧ y ≤ 4 then (1 : Int) else 0) = if 0 ≤ y ∧ y < 5 then 1 else 0 := by
    by_cases q : 0 ≤ y ∧ y ≤ 4
    · rw [if_pos q, if_pos (by omega)]
    · rw [if_neg q, if_neg (by omega)]
  rw [e2] at e
  exact (bd_of e).trans (ck_pos (f01 _))
theorem p_isRowM {n z : Nat} (hz : z ≤ 40) {now : Nat → Int} (h17 : now 17 = (z : Int)) {y : Int} (h : r4 y) : F_X12_isRow n now y = some (if 0 ≤ y ∧ y < z then 1 else 0) := by
  have e := p_in (n := n) h (a := 0) (b := now 17 - 1) ⟨by omega, by omega⟩ ⟨by omega, by omega⟩
  have e2 : (if 0 ≤ y ∧ y ≤ now 17 - 1 then (1 : Int) else 0) = if 0 ≤ y ∧ y < z then 1 else 0 := by
    by_cases q : 0 ≤ y ∧ y ≤ now 17 - 1
    · rw [if_pos q, if_pos (by omega)]
    · rw [if_neg q, if_neg (by omega)]
  rw [e2] at e
  exact (bd_of e).trans (ck_pos (f01 _))
