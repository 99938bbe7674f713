/-! a row comes -/
theorem okW_in {z p : Nat} {ti sg ti' sg' : Nat → Int} (h : okW z ti sg) (hz : z < 40) (hp : p ≤ z) {t y : Int} (ht : 0 ≤ t ∧ t ≤ 99) (hy : 0 ≤ y ∧ y < 5) (h1 : ∀ i, i < p → ti i < t) (h2 : p < z → t ≤ ti p) (h3 : p < z → ti p ≠ t) (e1 : ∀ j, j ≤ z → ti' j = inS ti z p t j) (e2 : ∀ j, j ≤ z → sg' j = inS sg z p y j) : okW (z + 1) ti' sg' := by
  refine ⟨by omega, fun i hi => ?_, fun i j hij hj => ?_⟩
  · rw [e1 i (by omega), e2 i (by omega)]
    unfold inS
    by_cases a : i = p
    · rw [if_pos a, if_pos a]; exact ⟨ht, hy⟩
    · rw [if_neg a, if_neg a]
      by_cases b : p < i
      · rw [if_pos ⟨b, by omega⟩, if_pos ⟨b, by omega⟩]
        exact h.2.1 (i - 1) (by omega)
      · rw [if_neg (by omega), if_neg (by omega)]
        exact h.2.1 i (by omega)
  · have s := h.2.2
    rw [e1 i (by omega), e1 j (by omega)]
    unfold inS
    by_cases a : i = p
    · rw [if_pos a, if_neg (by omega), if_pos (by omega)]
      have b1 := h2 (by omega)
      have b2 := h3 (by omega)
      by_cases c : j - 1 = p
      · rw [c]; omega
      · have := s p (j - 1) (by omega) (by omega)
        omega
    · rw [if_neg a]
      by_cases b : p < i
      · rw [if_pos ⟨b, by omega⟩, if_neg (by omega), if_pos (by omega)]
        exact s _ _ (by omega) (by omega)
      · rw [if_neg (by omega)]
        by_cases c : j = p
        · rw [if_pos c]; exact h1 i (by omega)
        · rw [if_neg c]
          by_cases d : p < j
          · rw [if_pos (by omega)]
            exact s _ _ (by omega) (by omega)
          · rw [if_neg (by omega)]
            exact s _ _ (by omega) (by omega)
theorem rsI_in {x : TSh} {now nw : Nat → Int} {z p : Nat} (hx : rsI x now) (hz2 : x.2.1 = (z : Int)) (hz : z < 40) (hp : p ≤ z) {t y : Int} (ht : 0 ≤ t ∧ t ≤ 99) (hy : 0 ≤ y ∧ y < 5) (h1 : ∀ i, i < p → x.2.2.1 i < t) (h2 : p < z → t ≤ x.2.2.1 p) (h3 : p < z → x.2.2.1 p ≠ t) {ti' sg' : Nat → Int} (e1 : ∀ j, j ≤ z → ti' j = inS x.2.2.1 z p t j) (e2 : ∀ j, j ≤ z → sg' j = inS x.2.2.2 z p y j)
    (w1 : ∀ j, j ≤ z → nw (18 + j) = if p < j then now (18 + (j - 1)) else now (18 + j)) (w2 : ∀ j, j ≤ z → nw (58 + j) = if p < j then now (58 + (j - 1)) else now (58 + j)) (w3 : ∀ m, m < 18 → nw m = now m) : rsI (x.1, (z : Int) + 1, ti', sg') (up_ (up_ (up_ nw (18 + p) t) (58 + p) y) 17 (up_ (up_ nw (18 + p) t) (58 + p) y 17 + 1)) := by
  obtain ⟨k, z', f1, f2, hr, hg, h17, ho, c1, c2⟩ := hx
  obtain rfl : z' = z := by omega
  refine ⟨k, z' + 1, f1, by dsimp only; omega, rdI_b hg.1.1 (fun j hj => ?_) hr, hg, ?_, okW_in ho hz hp ht hy h1 h2 h3 e1 e2, fun i hi => ?_, fun i hi => ?_⟩
  · rw [up_off (by omega), up_off (by omega), up_off (by omega)]; exact w3 j (by omega)
  · rw [up_at, up_off (by omega), up_off (by omega), w3 17 (by omega), h17]; omega
  · rw [up_off (by omega), up_off (by omega)]
    show _ = ti' i
    rw [e1 i (by omega)]
    unfold inS
    by_cases a : i = p
    · rw [if_pos a, a, up_at]
    · rw [if_neg a, up_off (by omega), w1 i (by omega)]
      by_cases b : p < i
      · rw [if_pos b, if_pos (by omega), c1 (i - 1) (by omega)]
      · rw [if_neg b, if_neg (by omega), c1 i (by omega)]
  · rw [up_off (by omega)]
    show _ = sg' i
    rw [e2 i (by omega)]
    unfold inS
    by_cases a : i = p
    · rw [if_pos a, a, up_at]
    · rw [if_neg a, up_off (by omega), up_off (by omega), w2 i (by omega)]
      by_cases b : p < i
      · rw [if_pos b, if_pos (by omega), c2 (i - 1) (by omega)]
      · rw [if_neg b, if_neg (by omega), c2 i (by omega)]
theorem q_comes {n : Nat} (hn : 1000 ≤ n) {u : Nat} (hu : u < 1000000) {x : TSh} {now : Nat → Int} {nx sz : Int} {hs : Nat → TSh} {de : Int} {pa me pk si up dn : Nat → Int} {kn ss fi : Int} (h : coI u x now nx sz hs de pa me pk si up dn kn ss fi) {t y : Int} (ht : r4 t) (hy : r4 y) : ∃ (r : Int) (x' : TSh) (now' : Nat → Int) (nx' sz' : Int) (hs' : Nat → TSh) (de' : Int) (pa' me' pk' si' up' dn' : Nat → Int) (kn' : Int), F_X11_comes n x.2.1 x.2.2.1 nx sz hs x.1.1 x.1.2.2.2.2.2.1 x.1.2.2.2.2.2.2 x.1.2.1 x.1.2.2.1 x.1.2.2.2.1 x.1.2.2.2.2.1 x.2.2.2 me pk si up dn kn t y = some (r, x'.2.1, x'.2.2.1, nx', sz', hs', x'.2.2.2, me', pk', si', up', dn', kn') ∧ F_X12_comes n de now pa t y = some (r, de', now', pa') ∧ x'.1 = x.1 ∧ coI (u + 1) x' now' nx' sz' hs' de' pa' me' pk' si' up' dn' kn' ss fi := by
  have hco := h
  obtain ⟨hx, hh, hw, hg⟩ := h
  have hx' := hx
  obtain ⟨k, z, f1, f2, hr, hgd, h17, ho, c1, c2⟩ := hx'
  have hz := ho.1
  have e := p_in (n := n) ht (a := 0) (b := 99) ⟨by omega, by omega⟩ ⟨by omega, by omega⟩
  by_cases h0 : t < 0
  · rw [if_neg (by omega)] at e
    exact ⟨-1, x, _, _, _, _, _, _, _, _, _, _, _, _, (ck_pos ht).trans (if_pos h0), (bd_of e).trans ((ck_pos (by omega)).trans (if_pos rfl)), rfl, hco.up⟩
  by_cases h9 : 99 < t
  · rw [if_neg (by omega)] at e
    exact ⟨-1, x, _, _, _, _, _, _, _, _, _, _, _, _, (ck_pos ht).trans ((if_neg h0).trans ((ck_pos ht).trans (if_pos h9))), (bd_of e).trans ((ck_pos (by omega)).trans (if_pos rfl)), rfl, hco.up⟩
  rw [if_pos (by omega)] at e
  have c := p_isSignC (n := n) hy
  have m := p_isSignM (n := n) hy
  by_cases hs5 : 0 ≤ y ∧ y < 5
  · rw [if_pos hs5] at c m
    obtain ⟨p, p1, p2, p3, p4⟩ := p_placeOf hn ho ht
    have pm := p_placeM hn ho h17 c1 ht p2 p3 p4
    have f2' := f2
    rw [← f2] at p1
    have tp : ((p : Int)).toNat = p := by omega
    have hE : x.2.2.1 ((p : Int)).toNat = x.2.2.1 p := by rw [tp]
    have hR : p < z → r4 (x.2.2.1 ((p : Int)).toNat) := fun q => by rw [hE]; have := (ho.2.1 p q).1; omega
    have ir : F_X11_isRow n x.2.1 (p : Int) = some (if 0 ≤ (p : Int) ∧ (p : Int) < z then 1 else 0) := by rw [f2]; exact p_isRowC hz (by omega)
    have ir1 : p < z → F_X11_isRow n x.2.1 (p : Int) = some 1 := fun q => by rw [ir, if_pos (by omega)]
    have ir0 : ¬ p < z → F_X11_isRow n x.2.1 (p : Int) = some 0 := fun q => by rw [ir, if_neg (by omega)]
    rcases pm with ⟨m1, m2, m3⟩ | ⟨m2, m3⟩
    · refine ⟨-2, x, _, _, _, _, _, _, _, _, _, _, _, _, (ck_pos ht).trans ((if_neg h0).trans ((ck_pos ht).trans ((if_neg h9).trans ((bd_of c).trans ((ck_pos (by omega)).trans ((if_neg (by omega)).trans ((bd_of p1).trans ((Eq.refl _).trans ((bdck1 (ir1 m1)).trans ((ck_pos (by omega)).trans ((ck_pos ⟨hR m1, ht⟩).trans (if_pos (hE.trans m2))))))))))))), (bd_of e).trans ((ck_pos (by omega)).trans ((if_neg (by omega)).trans ((bd_of m).trans ((ck_pos (by omega)).trans ((if_neg (by omega)).trans ((bd_of m3).trans rfl)))))), rfl, hco.up⟩
    · by_cases h40 : z = 40
      · by_cases hp : p < z
        · refine ⟨-3, x, _, _, _, _, _, _, _, _, _, _, _, _, (ck_pos ht).trans ((if_neg h0).trans ((ck_pos ht).trans ((if_neg h9).trans ((bd_of c).trans ((ck_pos (by omega)).trans ((if_neg (by omega)).trans ((bd_of p1).trans ((Eq.refl _).trans ((bdck1 (ir1 hp)).trans ((ck_pos (by omega)).trans ((ck_pos ⟨hR hp, ht⟩).trans ((if_neg (fun q => m2 hp (hE.symm.trans q))).trans ((ck_pos (by omega)).trans (if_neg (by omega))))))))))))))), (bd_of e).trans ((ck_pos (by omega)).trans ((if_neg (by omega)).trans ((bd_of m).trans ((ck_pos (by omega)).trans ((if_neg (by omega)).trans ((bd_of m3).trans ((ck_pos (by omega)).trans (if_pos (by omega))))))))), rfl, hco.up⟩
        · exact ⟨-3, x, _, _, _, _, _, _, _, _, _, _, _, _, (ck_pos ht).trans ((if_neg h0).trans ((ck_pos ht).trans ((if_neg h9).trans ((bd_of c).trans ((ck_pos (by omega)).trans ((if_neg (by omega)).trans ((bd_of p1).trans ((Eq.refl _).trans ((bdck0 (ir0 hp)).trans ((ck_pos (by omega)).trans (if_neg (by omega)))))))))))), (bd_of e).trans ((ck_pos (by omega)).trans ((if_neg (by omega)).trans ((bd_of m).trans ((ck_pos (by omega)).trans ((if_neg (by omega)).trans ((bd_of m3).trans ((ck_pos (by omega)).trans (if_pos (by omega))))))))), rfl, hco.up⟩
      · obtain ⟨nx', sz', hs', de', pa', n1, n2, n3⟩ := p_note hn hu hx hh
        obtain ⟨ti', sg', u1, u2, u3⟩ := p_putIn hn (z := z) (p := p) (by omega) p2 x.2.2.1 x.2.2.2 t y
        rw [← f2] at u1
        obtain ⟨nw, v1, v2, v3, v4⟩ := p_putM hn (z := z) (p := p) (by omega) p2 now
        rw [← h17] at v1
        have hx2 := rsI_in hx f2 (by omega) p2 (t := t) (y := y) ⟨by omega, by omega⟩ hs5 p3 p4 m2 u2 u3 v2 v3 v4
        obtain ⟨a1, a2, a3, a4, a5, g1, g2⟩ := p_goC hn hx2 me pk si up dn
        have m4 : F_X12_comes n de now pa t y = some ((p : Int), de', up_ (up_ (up_ nw (18 + p) t) (58 + p) y) 17 (up_ (up_ nw (18 + p) t) (58 + p) y 17 + 1), pa') := by
          refine (bd_of e).trans ((ck_pos (by omega)).trans ((if_neg (by omega)).trans ((bd_of m).trans ((ck_pos (by omega)).trans ((if_neg (by omega)).trans ((bd_of m3).trans ((ck_pos (by omega)).trans ((if_neg (by omega)).trans ((bd_of n2).trans ((bd_of v1).trans ((ck_pos (by omega)).trans ((ck_pos (by omega)).trans ?_))))))))))))
          rw [show (18 + (p : Int)).toNat = 18 + p by omega, show (58 + (p : Int)).toNat = 58 + p by omega]
        by_cases hp : p < z
        · refine ⟨(p : Int), (x.1, (z : Int) + 1, ti', sg'), _, nx', sz', hs', de', pa', a1, a2, a3, a4, a5, 0, (ck_pos ht).trans ((if_neg h0).trans ((ck_pos ht).trans ((if_neg h9).trans ((bd_of c).trans ((ck_pos (by omega)).trans ((if_neg (by omega)).trans ((bd_of p1).trans ((Eq.refl _).trans ((bdck1 (ir1 hp)).trans ((ck_pos (by omega)).trans ((ck_pos ⟨hR hp, ht⟩).trans ((if_neg (fun q => m2 hp (hE.symm.trans q))).trans ((ck_pos (by omega)).trans ((if_pos (by omega)).trans ((bd_of n1).trans ((bd_of u1).trans ?_)))))))))))))))), m4, rfl, hx2, n3, g2, Or.inl rfl⟩
          rw [f2]
          exact (bd_of g1).trans rfl
        · refine ⟨(p : Int), (x.1, (z : Int) + 1, ti', sg'), _, nx', sz', hs', de', pa', a1, a2, a3, a4, a5, 0, (ck_pos ht).trans ((if_neg h0).trans ((ck_pos ht).trans ((if_neg h9).trans ((bd_of c).trans ((ck_pos (by omega)).trans ((if_neg (by omega)).trans ((bd_of p1).trans ((Eq.refl _).trans ((bdck0 (ir0 hp)).trans ((ck_pos (by omega)).trans ((if_pos (by omega)).trans ((bd_of n1).trans ((bd_of u1).trans ?_))))))))))))), m4, rfl, hx2, n3, g2, Or.inl rfl⟩
          rw [f2]
          exact (bd_of g1).trans rfl
  · rw [if_neg hs5] at c m
    exact ⟨-1, x, _, _, _, _, _, _, _, _, _, _, _, _, (ck_pos ht).trans ((if_neg h0).trans ((ck_pos ht).trans ((if_neg h9).trans ((bd_of c).trans ((ck_pos (by omega)).trans (if_pos rfl)))))), (bd_of e).trans ((ck_pos (by omega)).trans ((if_neg (by omega)).trans ((bd_of m).trans ((ck_pos (by omega)).trans (if_pos rfl))))), rfl, hco.up⟩
