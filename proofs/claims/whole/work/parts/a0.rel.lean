/-! a sheet of the component against one of the model -/
def rsI (x : TSh) (b : Nat → Int) : Prop := ∃ k z : Nat, x.1.1 = (k : Int) ∧ x.2.1 = (z : Int) ∧ rdI k x.1.2.1 x.1.2.2.1 x.1.2.2.2.1 x.1.2.2.2.2.1 x.1.2.2.2.2.2.1 x.1.2.2.2.2.2.2 b ∧ gdP k x.1.2.1 x.1.2.2.1 x.1.2.2.2.1 x.1.2.2.2.2.1 x.1.2.2.2.2.2.1 x.1.2.2.2.2.2.2 ∧ b 17 = (z : Int) ∧ okW z x.2.2.1 x.2.2.2 ∧ (∀ i, i < z → b (18 + i) = x.2.2.1 i) ∧ ∀ i, i < z → b (58 + i) = x.2.2.2 i
theorem rdI_b {k : Nat} (hk : k ≤ 3) {le of_ se ch : Nat → Int} {sl li : Int} {b b' : Nat → Int} (e : ∀ j, j < 17 → b' j = b j) (h : rdI k le of_ se ch sl li b) : rdI k le of_ se ch sl li b' := by
  obtain ⟨h0, h1, h2, h3, h4⟩ := h
  refine ⟨by rw [e 0 (by omega)]; exact h0, fun r hr => ?_, fun g hg => by rw [e (10 + g) (by omega)]; exact h2 g hg, by rw [e 15 (by omega)]; exact h3, by rw [e 16 (by omega)]; exact h4⟩
  have := h1 r hr
  unfold leM ofM seM at this ⊢
  rw [e (1 + 3 * r) (by omega), e (2 + 3 * r) (by omega), e (3 + 3 * r) (by omega)]
  exact this
theorem rsI_b {x : TSh} {b b' : Nat → Int} (e : ∀ j, j < 98 → b' j = b j) (h : rsI x b) : rsI x b' := by
  obtain ⟨k, z, h1, h2, h3, h4, h5, h6, h7, h8⟩ := h
  have hk := h4.1.1
  have hz := h6.1
  refine ⟨k, z, h1, h2, rdI_b hk (fun j hj => e j (by omega)) h3, h4, by rw [e 17 (by omega)]; exact h5, h6, fun i hi => by rw [e (18 + i) (by omega)]; exact h7 i hi, fun i hi => by rw [e (58 + i) (by omega)]; exact h8 i hi⟩
theorem okC_congr {c c' : Nat → Int} (e : ∀ g, g < 5 → c' g = c g) (h : okC c) : okC c' := by
  refine ⟨fun g hg => by rw [e g hg]; exact h.1 g hg, ?_⟩
  rw [e 0 (by omega), e 1 (by omega), e 2 (by omega), e 3 (by omega), e 4 (by omega)]
  exact h.2
theorem rsI_x {x y : TSh} {b : Nat → Int} (e1 : y.1.1 = x.1.1) (e2 : ∀ r, r < 3 → y.1.2.1 r = x.1.2.1 r) (e3 : ∀ r, r < 3 → y.1.2.2.1 r = x.1.2.2.1 r) (e4 : ∀ r, r < 3 → y.1.2.2.2.1 r = x.1.2.2.2.1 r) (e5 : ∀ g, g < 5 → y.1.2.2.2.2.1 g = x.1.2.2.2.2.1 g) (e6 : y.1.2.2.2.2.2.1 = x.1.2.2.2.2.2.1) (e7 : y.1.2.2.2.2.2.2 = x.1.2.2.2.2.2.2) (e8 : y.2.1 = x.2.1) (e9 : ∀ i, i < 40 → y.2.2.1 i = x.2.2.1 i) (e10 : ∀ i, i < 40 → y.2.2.2 i = x.2.2.2 i) (h : rsI x b) : rsI y b := by
  obtain ⟨k, z, h1, h2, h3, h4, h5, h6, h7, h8⟩ := h
  have hk := h4.1.1
  have hz := h6.1
  obtain ⟨g1, g2, g3, g4⟩ := h4
  obtain ⟨d0, d1, d2, d3, d4⟩ := h3
  refine ⟨k, z, by rw [e1]; exact h1, by rw [e8]; exact h2, ⟨d0, fun r hr => by rw [e2 r (by omega), e3 r (by omega), e4 r (by omega)]; exact d1 r hr, fun g hg => by rw [e5 g hg]; exact d2 g hg, by rw [e6]; exact d3, by rw [e7]; exact d4⟩, ⟨okR_congr (fun r hr => ⟨(e2 r (by omega)).symm, (e3 r (by omega)).symm, (e4 r (by omega)).symm⟩) g1, okC_congr e5 g2, by rw [e6]; exact g3, by rw [e7]; exact g4⟩, h5, ⟨hz, fun i hi => by rw [e9 i (by omega), e10 i (by omega)]; exact h6.2.1 i hi, fun i j hij hj => by rw [e9 i (by omega), e9 j (by omega)]; exact h6.2.2 i j hij hj⟩, fun i hi => by rw [e9 i (by omega)]; exact h7 i hi, fun i hi => by rw [e10 i (by omega)]; exact h8 i hi⟩
