/-! rows -/
def okW (z : Nat) (ti sg : Nat → Int) : Prop := z ≤ 40 ∧ (∀ i, i < z → (0 ≤ ti i ∧ ti i ≤ 99) ∧ 0 ≤ sg i ∧ sg i < 5) ∧ ∀ i j, i < j → j < z → ti i < ti j
theorem p_placeOf {n : Nat} (hn : 1000 ≤ n) {z : Nat} {ti sg : Nat → Int} (h : okW z ti sg) {x : Int} (hx : r4 x) : ∃ p : Nat, F_X6_placeOf n z ti x = some (p : Int) ∧ p ≤ z ∧ (∀ i, i < p → ti i < x) ∧ (p < z → x ≤ ti p) := by
  have hz := h.1
  obtain ⟨r, h1, p, rfl, h2⟩ := lp_rule (f := fun (q : Int) => F_X6_placeOf_L2 n z ti x q) (fun i q => q = (i : Int) ∧ i ≤ z ∧ ∀ j, j < i → ti j < x) (fun r => ∃ p : Nat, r = (p : Int) ∧ p ≤ z ∧ (∀ i, i < p → ti i < x) ∧ (p < z → x ≤ ti p)) (N := z) (n := n) (s := 0) (by omega) ⟨rfl, by omega, fun j hj => by omega⟩ (fun i q hI hi => by
    obtain ⟨rfl, c1, c2⟩ := hI
    have tI : ((i : Int)).toNat = i := by omega
    by_cases hlt : i < z
    · have b := h.2.1 i hlt
      by_cases e : ti i < x
      · left
        refine ⟨(i : Int) + 1, ?_, ⟨by omega, by omega, fun j hj => ?_⟩, hlt⟩
        · refine (ck_pos (by omega)).trans ((if_pos (by omega)).trans ((ck_pos (by omega)).trans ((if_pos (by omega)).trans ((ck_pos (by omega)).trans ?_))))
          rw [tI]
          exact (ck_pos ⟨by omega, hx⟩).trans (if_pos e)
        · by_cases ej : j = i
          · rw [ej]; exact e
          · exact c2 j (by omega)
      · right
        refine ⟨(i : Int), ?_, i, rfl, by omega, c2, fun _ => by omega⟩
        refine (ck_pos (by omega)).trans ((if_pos (by omega)).trans ((ck_pos (by omega)).trans ((if_pos (by omega)).trans ((ck_pos (by omega)).trans ?_))))
        rw [tI]
        exact (ck_pos ⟨by omega, hx⟩).trans (if_neg e)
    · right
      exact ⟨(i : Int), (ck_pos (by omega)).trans (if_neg (by omega)), i, rfl, by omega, c2, fun q => absurd q hlt⟩)
  exact ⟨p, (bd_of h1).trans rfl, h2⟩
theorem p_placeM {n : Nat} (hn : 1000 ≤ n) {z : Nat} {ti sg now : Nat → Int} (h : okW z ti sg) (h17 : now 17 = (z : Int)) (ht : ∀ i, i < z → now (18 + i) = ti i) {x : Int} (hx : r4 x) {p : Nat} (hp : p ≤ z) (h1 : ∀ i, i < p → ti i < x) (h2 : p < z → x ≤ ti p) : (p < z ∧ ti p = x ∧ lp_ (fun (q : Int × Int) => F_X12_comes_L24 n now x q.1 q.2) n (0, 0) = some (.inr ())) ∨ ((p < z → ti p ≠ x) ∧ lp_ (fun (q : Int × Int) => F_X12_comes_L24 n now x q.1 q.2) n (0, 0) = some (.inl (p : Int))) := by
  have hz := h.1
  have above : ∀ i, p < i → i < z → x < ti i := fun i a b => by
    have := h2 (by omega)
    have := h.2.2 p i a b
    omega
  obtain ⟨r, l1, l2⟩ := lp_rule (f := fun (q : Int × Int) => F_X12_comes_L24 n now x q.1 q.2) (fun i q => q = (((min i p : Nat) : Int), (i : Int)) ∧ i ≤ z ∧ (p < i → ti p ≠ x)) (fun r => (p < z ∧ ti p = x ∧ r = .inr ()) ∨ ((p < z → ti p ≠ x) ∧ r = .inl (p : Int))) (N := z) (n := n) (s := (0, 0)) (by omega) ⟨by simp, by omega, fun q => by omega⟩ (fun i q hI hi => by
    obtain ⟨rfl, c1, c2⟩ := hI
    dsimp only
    unfold F_X12_comes_L24
    rw [h17]
    by_cases hlt : i < z
    · have t1 : (18 + (i : Int)).toNat = 18 + i := by omega
      have b := h.2.1 i hlt
      rw [t1, ht i hlt]
      by_cases e : ti i = x
      · right
        have ip : i = p := by
          rcases Nat.lt_trichotomy i p with c | c | c
          · have := h1 i c; omega
          · exact c
          · have := above i c hlt; omega
        subst ip
        exact ⟨.inr (), (ck_pos (by omega)).trans ((if_pos (by omega)).trans ((ck_pos (by omega)).trans ((ck_pos ⟨by omega, hx⟩).trans (if_pos e)))), Or.inl ⟨hlt, e, rfl⟩⟩
      · left
        by_cases e2 : ti i < x
        · have ip : i < p := by
            rcases Nat.lt_or_ge i p with c | c
            · exact c
            · by_cases q : i = p
              · subst q; have := h2 hlt; omega
              · have := above i (by omega) hlt; omega
          refine ⟨(((min i p : Nat) : Int) + 1, (i : Int) + 1), (ck_pos (by omega)).trans ((if_pos (by omega)).trans ((ck_pos (by omega)).trans ((ck_pos ⟨by omega, hx⟩).trans ((if_neg e).trans ((ck_pos (by omega)).trans ((bd_of (a := (1 : Int)) ((ck_pos ⟨by omega, hx⟩).trans (if_pos e2))).trans rfl)))))), ⟨?_, by omega, fun q => by omega⟩, hlt⟩
          rw [show ((min i p : Nat) : Int) + 1 = ((min (i + 1) p : Nat) : Int) by omega, show (i : Int) + 1 = ((i + 1 : Nat) : Int) by omega]
        · have ip : p ≤ i := by
            rcases Nat.lt_or_ge i p with c | c
            · have := h1 i c; omega
            · exact c
          refine ⟨(((min i p : Nat) : Int) + 0, (i : Int) + 1), (ck_pos (by omega)).trans ((if_pos (by omega)).trans ((ck_pos (by omega)).trans ((ck_pos ⟨by omega, hx⟩).trans ((if_neg e).trans ((ck_pos (by omega)).trans ((bd_of (a := (0 : Int)) ((ck_pos ⟨by omega, hx⟩).trans (if_neg e2))).trans rfl)))))), ⟨?_, by omega, fun q => ?_⟩, hlt⟩
          · rw [show ((min i p : Nat) : Int) + 0 = ((min (i + 1) p : Nat) : Int) by omega, show (i : Int) + 1 = ((i + 1 : Nat) : Int) by omega]
          · by_cases q2 : p < i
            · exact c2 q2
            · rw [show p = i by omega]; exact e
    · right
      have : i = z := by omega
      subst this
      refine ⟨.inl (p : Int), (ck_pos (by omega)).trans ((if_neg (by omega)).trans ?_), Or.inr ⟨c2, rfl⟩⟩
      rw [show min i p = p by omega])
  rcases l2 with ⟨a, b, rfl⟩ | ⟨a, rfl⟩
  · exact Or.inl ⟨a, b, l1⟩
  · exact Or.inr ⟨a, l1⟩
