/-! at the beginning they are alike -/
theorem REL0 {n : Nat} {L : List Nat} {c : TC} {m : TM} (h : INC n L c) (g : INM m) : REL 0 n L c m := by
  obtain ⟨tx, rd, x, hi, im, wk, ma, ou, mn, si⟩ := c
  obtain ⟨md, ji, jf⟩ := m
  obtain ⟨h1, h2, h3, h4, h5, h6, h7, h8, h9⟩ := h
  obtain ⟨g1, g2, g3, g4, g5, g6⟩ := g
  dsimp only at h1 h2 h3 h4 h5 h6 h7 h8 h9 g1 g2 g3 g4 g5 g6
  subst h3
  have hch : ∀ g, g < 5 → x0_.1.2.2.2.2.1 g = fc_ g := fun g hg => (show cp_ fc_ (fun _ => 0) 0 0 5 g = fc_ g from cp_in hg)
  refine ⟨⟨0, h1, g6, ⟨by omega, fun i hi => by omega⟩, g5.trans h2.symm⟩, ⟨⟨0, 0, rfl, rfl, g1 _ _ _ _ hch, gd_first rfl hch, g2, ⟨by omega, fun i hi => by omega, fun i j _ hj => by omega⟩, fun i hi => by omega, fun i hi => by omega⟩, ⟨0, 0, h5, g3, ⟨by show hi.1 % 6 = ((0 : Nat) : Int); omega, by show -((0 : Nat) : Int) ≤ hi.1; omega, by show hi.1 ≤ ((0 : Nat) : Int); omega⟩, by omega, by omega, fun j hj => by omega⟩, ⟨0, 0, rfl, rfl, fun i hi => by omega⟩, Or.inl h9⟩, fun i hi => ?_, h7, h8⟩
  dsimp only
  rw [g4, h6]
  exact ⟨rfl, Or.inl rfl, fun q => by dsimp only at q; omega⟩
