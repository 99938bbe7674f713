/-! a row goes, or becomes another; the last deed is undone -/
theorem rsI_out {x : TSh} {now nw : Nat → Int} {z i : Nat} (hx : rsI x now) (hz2 : x.2.1 = (z : Int)) (hi : i < z) {ti' sg' : Nat → Int} (e1 : ∀ j, j + 1 < z → ti' j = if i ≤ j then x.2.2.1 (j + 1) else x.2.2.1 j) (e2 : ∀ j, j + 1 < z → sg' j = if i ≤ j then x.2.2.2 (j + 1) else x.2.2.2 j)
    (w1 : ∀ j, j + 1 < z → nw (18 + j) = if i ≤ j then now (18 + (j + 1)) else now (18 + j)) (w2 : ∀ j, j + 1 < z → nw (58 + j) = if i ≤ j then now (58 + (j + 1)) else now (58 + j)) (w3 : ∀ m, m < 17 → nw m = now m) (w4 : nw 17 = (z : Int) - 1) : rsI (x.1, (z : Int) - 1, ti', sg') nw := by
  obtain ⟨k, z', f1, f2, hr, hg, h17, ho, c1, c2⟩ := hx
  obtain rfl : z' = z := by omega
  have hz := ho.1
  refine ⟨k, z' - 1, f1, by dsimp only; omega, rdI_b hg.1.1 (fun j hj => w3 j hj) hr, hg, by omega, ⟨by omega, fun j hj => ?_, fun j l hjl hl => ?_⟩, fun j hj => ?_, fun j hj => ?_⟩
  · show (0 ≤ ti' j ∧ ti' j ≤ 99) ∧ 0 ≤ sg' j ∧ sg' j < 5
    rw [e1 j (by omega), e2 j (by omega)]
    by_cases a : i ≤ j
    · rw [if_pos a, if_pos a]; exact ho.2.1 (j + 1) (by omega)
    · rw [if_neg a, if_neg a]; exact ho.2.1 j (by omega)
  · show ti' j < ti' l
    rw [e1 j (by omega), e1 l (by omega)]
    by_cases a : i ≤ j
    · rw [if_pos a, if_pos (by omega)]; exact ho.2.2 _ _ (by omega) (by omega)
    · rw [if_neg a]
      by_cases b : i ≤ l
      · rw [if_pos b]; exact ho.2.2 _ _ (by omega) (by omega)
      · rw [if_neg b]; exact ho.2.2 _ _ (by omega) (by omega)
  · show nw (18 + j) = ti' j
    rw [e1 j (by omega), w1 j (by omega)]
    by_cases a : i ≤ j
    · rw [if_pos a, if_pos a]; exact c1 (j + 1) (by omega)
    · rw [if_neg a, if_neg a]; exact c1 j (by omega)
  · show nw (58 + j) = sg' j
    rw [e2 j (by omega), w2 j (by omega)]
    by_cases a : i ≤ j
    · rw [if_pos a, if_pos a]; exact c2 (j + 1) (by omega)
    · rw [if_neg a, if_neg a]; exact c2 j (by omega)
theorem rsI_sign {x : TSh} {now : Nat → Int} {z i : Nat} (hx : rsI x now) (hz2 : x.2.1 = (z : Int)) (hi : i < z) {y : Int} (hy : 0 ≤ y ∧ y < 5) : rsI (x.1, x.2.1, x.2.2.1, up_ x.2.2.2 i y) (up_ now (58 + i) y) := by
  obtain ⟨k, z', f1, f2, hr, hg, h17, ho, c1, c2⟩ := hx
  obtain rfl : z' = z := by omega
  have hz := ho.1
  refine ⟨k, z', f1, f2, rdI_b hg.1.1 (fun j hj => up_off (by omega)) hr, hg, by rw [up_off (by omega)]; exact h17, ⟨hz, fun j hj => ⟨(ho.2.1 j hj).1, ?_⟩, ho.2.2⟩, fun j hj => by rw [up_off (by omega)]; exact c1 j hj, fun j hj => ?_⟩
  · show 0 ≤ up_ x.2.2.2 i y j ∧ up_ x.2.2.2 i y j < 5
    by_cases a : j = i
    · rw [a, up_at]; exact hy
    · rw [up_off a]; exact (ho.2.1 j hj).2
  · show _ = up_ x.2.2.2 i y j
    by_cases a : j = i
    · rw [a, up_at, up_at]
    · rw [up_off (by omega), up_off a]; exact c2 j hj
theorem q_goes {n : Nat} (hn : 1000 ≤ n) {u : Nat} (hu : u < 1000000) {x : TSh} {now : Nat → Int} {nx sz : Int} {hs : Nat → TSh} {de : Int} {pa me pk si up dn : Nat → Int} {kn ss fi : Int} (h : coI u x now nx sz hs de pa me pk si up dn kn ss fi) {y : Int} (hy : r4 y) : ∃ (r : Int) (x' : TSh) (now' : Nat → Int) (nx' sz' : Int) (hs' : Nat → TSh) (de' : Int) (pa' me' pk' si' up' dn' : Nat → Int) (kn' : Int), F_X11_goes n x.2.1 x.2.2.1 nx sz hs x.1.1 x.1.2.2.2.2.2.1 x.1.2.2.2.2.2.2 x.1.2.1 x.1.2.2.1 x.1.2.2.2.1 x.1.2.2.2.2.1 x.2.2.2 me pk si up dn kn y = some (r, x'.2.1, x'.2.2.1, nx', sz', hs', x'.2.2.2, me', pk', si', up', dn', kn') ∧ F_X12_goes n de now pa y = some (r, de', now', pa') ∧ x'.1 = x.1 ∧ coI (u + 1) x' now' nx' sz' hs' de' pa' me' pk' si' up' dn' kn' ss fi := by
  have hco := h
  obtain ⟨hx, hh, hw, hg⟩ := h
  have hx' := hx
  obtain ⟨k, z, f1, f2, hr, hgd, h17, ho, c1, c2⟩ := hx'
  have hz := ho.1
  have c := p_isRowC (n := n) hz hy
  have m := p_isRowM (n := n) hz h17 hy
  rw [← f2] at c
  by_cases hrow : 0 ≤ y ∧ y < (z : Int)
  · rw [if_pos (by omega)] at c
    rw [if_pos hrow] at m
    obtain ⟨i, rfl⟩ : ∃ i : Nat, y = (i : Int) := ⟨y.toNat, by omega⟩
    have hi : i < z := by omega
    have tp : ((i : Int)).toNat = i := by omega
    obtain ⟨nx', sz', hs', de', pa', n1, n2, n3⟩ := p_note hn hu hx hh
    obtain ⟨ti', sg', u1, u2, u3⟩ := p_takeOut hn (z := z) (i := i) hz hi x.2.2.1 x.2.2.2
    rw [← f2] at u1
    obtain ⟨nw, v1, v2, v3, v4⟩ := p_takeM hn (z := z) (i := i) hz hi (now := up_ now 17 (now 17 - 1)) (by rw [up_at, h17])
    have hx2 := rsI_out hx f2 hi u2 u3 (nw := nw) (fun j hj => by rw [v2 j hj, up_off (by omega), up_off (by omega)]) (fun j hj => by rw [v3 j hj, up_off (by omega), up_off (by omega)]) (fun q hq => by rw [v4 q (by omega), up_off (by omega)]) (by rw [v4 17 (by omega), up_at, h17])
    obtain ⟨a1, a2, a3, a4, a5, g1, g2⟩ := p_goC hn hx2 me pk si up dn
    refine ⟨x.2.2.1 i, (x.1, (z : Int) - 1, ti', sg'), nw, nx', sz', hs', de', pa', a1, a2, a3, a4, a5, 0, (bd_of c).trans ((ck_pos (by omega)).trans ((if_neg (by omega)).trans ((ck_pos (by omega)).trans ((bd_of n1).trans ((bd_of u1).trans ?_))))), (bd_of m).trans ((ck_pos (by omega)).trans ((if_neg (by omega)).trans ((bd_of n2).trans ((ck_pos (by omega)).trans ((bd_of v1).trans ?_))))), rfl, hx2, n3, g2, Or.inl rfl⟩
    · rw [f2, tp]
      exact (bd_of g1).trans rfl
    · rw [show (18 + (i : Int)).toNat = 18 + i by omega, c1 i hi]
  · rw [if_neg (by omega)] at c
    rw [if_neg hrow] at m
    exact ⟨-1, x, _, _, _, _, _, _, _, _, _, _, _, _, (bd_of c).trans ((ck_pos (by omega)).trans (if_pos rfl)), (bd_of m).trans ((ck_pos (by omega)).trans (if_pos rfl)), rfl, hco.up⟩
theorem q_becomes {n : Nat} (hn : 1000 ≤ n) {u : Nat} (hu : u < 1000000) {x : TSh} {now : Nat → Int} {nx sz : Int} {hs : Nat → TSh} {de : Int} {pa me pk si up dn : Nat → Int} {kn ss fi : Int} (h : coI u x now nx sz hs de pa me pk si up dn kn ss fi) {y g : Int} (hy : r4 y) (hg5 : r4 g) : ∃ (r : Int) (x' : TSh) (now' : Nat → Int) (nx' sz' : Int) (hs' : Nat → TSh) (de' : Int) (pa' me' pk' si' up' dn' : Nat → Int) (kn' : Int), F_X11_becomes n x.2.1 x.2.2.2 nx sz hs x.1.1 x.1.2.2.2.2.2.1 x.1.2.2.2.2.2.2 x.1.2.1 x.1.2.2.1 x.1.2.2.2.1 x.1.2.2.2.2.1 x.2.2.1 me pk si up dn kn y g = some (r, x'.2.2.2, nx', sz', hs', me', pk', si', up', dn', kn') ∧ F_X12_becomes n de now pa y g = some (r, de', now', pa') ∧ x'.1 = x.1 ∧ x'.2.1 = x.2.1 ∧ x'.2.2.1 = x.2.2.1 ∧ coI (u + 1) x' now' nx' sz' hs' de' pa' me' pk' si' up' dn' kn' ss fi := by
  have hco := h
  obtain ⟨hx, hh, hw, hg⟩ := h
  have hx' := hx
  obtain ⟨k, z, f1, f2, hr, hgd, h17, ho, c1, c2⟩ := hx'
  have hz := ho.1
  have c := p_isRowC (n := n) hz hy
  have m := p_isRowM (n := n) hz h17 hy
  have cs := p_isSignC (n := n) hg5
  have ms := p_isSignM (n := n) hg5
  rw [← f2] at c
  by_cases hrow : 0 ≤ y ∧ y < (z : Int)
  · rw [if_pos (by omega)] at c
    rw [if_pos hrow] at m
    by_cases hsg : 0 ≤ g ∧ g < 5
    · rw [if_pos hsg] at cs ms
      obtain ⟨i, rfl⟩ : ∃ i : Nat, y = (i : Int) := ⟨y.toNat, by omega⟩
      have hi : i < z := by omega
      have tp : ((i : Int)).toNat = i := by omega
      have t58 : (58 + (i : Int)).toNat = 58 + i := by omega
      have b5 := (ho.2.1 i hi).2
      have hE : x.2.2.2 ((i : Int)).toNat = x.2.2.2 i := by rw [tp]
      have hR : r4 (x.2.2.2 ((i : Int)).toNat) := by rw [hE]; omega
      have mE : now ((58 + (i : Int)).toNat) = x.2.2.2 i := by rw [t58, c2 i hi]
      have mR : r4 (now ((58 + (i : Int)).toNat)) := by rw [mE]; omega
      by_cases hsame : x.2.2.2 i = g
      · refine ⟨-2, x, _, _, _, _, _, _, _, _, _, _, _, _, (bd_of c).trans ((ck_pos (by omega)).trans ((if_neg (by omega)).trans ((bd_of cs).trans ((ck_pos (by omega)).trans ((if_neg (by omega)).trans ((ck_pos (by omega)).trans ((ck_pos ⟨hR, hg5⟩).trans (if_pos (hE.trans hsame))))))))), (bd_of m).trans ((ck_pos (by omega)).trans ((if_neg (by omega)).trans ((bd_of ms).trans ((ck_pos (by omega)).trans ((if_neg (by omega)).trans ((ck_pos (by omega)).trans ((ck_pos ⟨mR, hg5⟩).trans (if_pos (mE.trans hsame))))))))), rfl, rfl, rfl, hco.up⟩
      · obtain ⟨nx', sz', hs', de', pa', n1, n2, n3⟩ := p_note hn hu hx hh
        have hx2 := rsI_sign hx f2 hi hsg
        obtain ⟨a1, a2, a3, a4, a5, g1, g2⟩ := p_goC hn hx2 me pk si up dn
        refine ⟨x.2.2.2 i, (x.1, x.2.1, x.2.2.1, up_ x.2.2.2 i g), up_ now (58 + i) g, nx', sz', hs', de', pa', a1, a2, a3, a4, a5, 0, (bd_of c).trans ((ck_pos (by omega)).trans ((if_neg (by omega)).trans ((bd_of cs).trans ((ck_pos (by omega)).trans ((if_neg (by omega)).trans ((ck_pos (by omega)).trans ((ck_pos ⟨hR, hg5⟩).trans ((if_neg (fun q => hsame (hE.symm.trans q))).trans ((bd_of n1).trans ((ck_pos (by omega)).trans ?_)))))))))), (bd_of m).trans ((ck_pos (by omega)).trans ((if_neg (by omega)).trans ((bd_of ms).trans ((ck_pos (by omega)).trans ((if_neg (by omega)).trans ((ck_pos (by omega)).trans ((ck_pos ⟨mR, hg5⟩).trans ((if_neg (fun q => hsame (mE.symm.trans q))).trans ((bd_of n2).trans ((ck_pos (by omega)).trans ?_)))))))))), rfl, rfl, rfl, hx2, n3, g2, Or.inl rfl⟩
        · rw [tp]
          exact (bd_of g1).trans rfl
        · rw [t58, c2 i hi]
    · rw [if_neg hsg] at cs ms
      exact ⟨-1, x, _, _, _, _, _, _, _, _, _, _, _, _, (bd_of c).trans ((ck_pos (by omega)).trans ((if_neg (by omega)).trans ((bd_of cs).trans ((ck_pos (by omega)).trans (if_pos rfl))))), (bd_of m).trans ((ck_pos (by omega)).trans ((if_neg (by omega)).trans ((bd_of ms).trans ((ck_pos (by omega)).trans (if_pos rfl))))), rfl, rfl, rfl, hco.up⟩
  · rw [if_neg (by omega)] at c
    rw [if_neg hrow] at m
    exact ⟨-1, x, _, _, _, _, _, _, _, _, _, _, _, _, (bd_of c).trans ((ck_pos (by omega)).trans (if_pos rfl)), (bd_of m).trans ((ck_pos (by omega)).trans (if_pos rfl)), rfl, rfl, rfl, hco.up⟩
theorem q_undo {n : Nat} (hn : 1000 ≤ n) {u : Nat} (hu : u < 1000000) {x : TSh} {now : Nat → Int} {nx sz : Int} {hs : Nat → TSh} {de : Int} {pa me pk si up dn : Nat → Int} {kn ss fi : Int} (h : coI u x now nx sz hs de pa me pk si up dn kn ss fi) : ∃ (r : Int) (x' : TSh) (now' : Nat → Int) (nx' sz' : Int) (de' : Int) (me' pk' si' up' dn' : Nat → Int) (kn' : Int), F_X11_undo n nx sz hs x.1.1 x.1.2.2.2.2.2.1 x.1.2.2.2.2.2.2 x.1.2.1 x.1.2.2.1 x.1.2.2.2.1 x.1.2.2.2.2.1 x.2.1 x.2.2.1 x.2.2.2 me pk si up dn kn = some (r, nx', sz', x'.1.1, x'.1.2.2.2.2.2.1, x'.1.2.2.2.2.2.2, x'.1.2.1, x'.1.2.2.1, x'.1.2.2.2.1, x'.1.2.2.2.2.1, x'.2.1, x'.2.2.1, x'.2.2.2, me', pk', si', up', dn', kn') ∧ F_X12_undo n de pa now = some (r, de', now') ∧ coI (u + 1) x' now' nx' sz' hs de' pa me' pk' si' up' dn' kn' ss fi := by
  have hco := h
  obtain ⟨hx, hh, hw, hg⟩ := h
  have hh' := hh
  obtain ⟨d, m, e1, e2, e3, hd, hm, -⟩ := hh'
  by_cases hp : 0 < sz
  · obtain ⟨nx', y, now', l1, l2, l3, l4, l5, l6⟩ := p_latest hn hu (x := x) (now := now) hh hp
    obtain ⟨a1, a2, a3, a4, a5, g1, g2⟩ := p_goC hn l3 me pk si up dn
    refine ⟨sz - 1, y, now', nx', sz - 1, de - 1, a1, a2, a3, a4, a5, 0, (ck_pos (by omega)).trans ((if_pos hp).trans ((bd_of l1).trans ((bd_of g1).trans rfl))), ?_, l3, l4, g2, Or.inl rfl⟩
    refine (ck_pos (by omega)).trans ((if_neg (by omega)).trans ((bd_of l2).trans ?_))
    rw [l5]
  · exact ⟨-2, x, now, nx, sz, de, me, pk, si, up, dn, kn, (ck_pos (by omega)).trans (if_neg hp), (ck_pos (by omega)).trans (if_pos (by omega)), hco.up⟩
