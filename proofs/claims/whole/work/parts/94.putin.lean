/-- a row more at p -/
def inS (f : Nat → Int) (z p : Nat) (x : Int) : Nat → Int := fun j => if j = p then x else if p < j ∧ j ≤ z then f (j - 1) else f j
theorem p_putIn {n : Nat} (hn : 1000 ≤ n) {z p : Nat} (hz : z < 40) (hp : p ≤ z) (ti sg : Nat → Int) (x y : Int) : ∃ ti' sg', F_X6_putIn n z ti sg p x y = some ((z : Int) + 1, ti', sg') ∧ (∀ j, j ≤ z → ti' j = inS ti z p x j) ∧ ∀ j, j ≤ z → sg' j = inS sg z p y j := by
  have tp : ((p : Int)).toNat = p := by omega
  obtain ⟨r, h1, h2, h3⟩ := lp_rule (f := fun (q : Int × (Nat → Int) × (Nat → Int)) => F_X6_putIn_L28 n p q.1 q.2.1 q.2.2) (fun k q => ∃ a b : Nat → Int, q = ((z : Int) - (k : Int), a, b) ∧ p + k ≤ z ∧ (∀ j, j ≤ z → a j = if z - k < j then ti (j - 1) else ti j) ∧ ∀ j, j ≤ z → b j = if z - k < j then sg (j - 1) else sg j)
    (fun r => (∀ j, j ≤ z → r.1 j = if p < j then ti (j - 1) else ti j) ∧ ∀ j, j ≤ z → r.2 j = if p < j then sg (j - 1) else sg j) (N := z - p) (n := n) (s := ((z : Int), ti, sg)) (by omega) ⟨ti, sg, by simp, by omega, fun j hj => by rw [if_neg (by omega)], fun j hj => by rw [if_neg (by omega)]⟩ (fun k q hI hk => by
    obtain ⟨a, b, rfl, c0, c1, c2⟩ := hI
    dsimp only
    by_cases hlt : k < z - p
    · left
      obtain ⟨i, hi⟩ : ∃ i : Nat, (z : Int) - (k : Int) = (i : Int) + 1 := ⟨z - k - 1, by omega⟩
      have tI : ((i : Int) + 1).toNat = i + 1 := by omega
      have tJ : ((i : Int) + 1 - 1).toNat = i := by omega
      have d1 := c1 i (by omega)
      have d2 := c2 i (by omega)
      rw [if_neg (by omega)] at d1 d2
      rw [hi]
      refine ⟨((i : Int) + 1 + (-1), up_ a (i + 1) (ti i), up_ b (i + 1) (sg i)), ?_, ⟨_, _, by rw [show (i : Int) + 1 + (-1) = (z : Int) - ((k + 1 : Nat) : Int) by omega], by omega, fun j hj => ?_, fun j hj => ?_⟩, hlt⟩
      · refine (ck_pos (by omega)).trans ((if_pos (by omega)).trans ((ck_pos (by omega)).trans ((ck_pos (by omega)).trans ((ck_pos (by omega)).trans ((ck_pos (by omega)).trans ?_)))))
        rw [tI, tJ, d1, d2]
      · by_cases e : j = i + 1
        · rw [e, up_at, if_pos (by omega)]; rfl
        · rw [up_off e, c1 j hj]
          by_cases e2 : z - k < j
          · rw [if_pos e2, if_pos (by omega)]
          · rw [if_neg e2, if_neg (by omega)]
      · by_cases e : j = i + 1
        · rw [e, up_at, if_pos (by omega)]; rfl
        · rw [up_off e, c2 j hj]
          by_cases e2 : z - k < j
          · rw [if_pos e2, if_pos (by omega)]
          · rw [if_neg e2, if_neg (by omega)]
    · right
      have ek : z - k = p := by omega
      rw [ek] at c1 c2
      exact ⟨(a, b), (ck_pos (by omega)).trans (if_neg (by omega)), c1, c2⟩)
  obtain ⟨a, b⟩ := r
  dsimp only at h2 h3
  refine ⟨up_ a p x, up_ b p y, ?_, fun j hj => ?_, fun j hj => ?_⟩
  · unfold F_X6_putIn
    rw [tp]
    exact (ck_pos (by omega)).trans ((if_pos (by omega)).trans ((ck_pos (by omega)).trans ((if_neg (by omega)).trans ((ck_pos (by omega)).trans ((if_neg (by omega)).trans ((bd_of h1).trans ((ck_pos (by omega)).trans (ck_pos (by omega)))))))))
  · unfold inS
    by_cases e : j = p
    · rw [e, up_at, if_pos rfl]
    · rw [up_off e, if_neg e, h2 j hj]
      by_cases e2 : p < j
      · rw [if_pos e2, if_pos ⟨e2, hj⟩]
      · rw [if_neg e2, if_neg (fun q => e2 q.1)]
  · unfold inS
    by_cases e : j = p
    · rw [e, up_at, if_pos rfl]
    · rw [up_off e, if_neg e, h3 j hj]
      by_cases e2 : p < j
      · rw [if_pos e2, if_pos ⟨e2, hj⟩]
      · rw [if_neg e2, if_neg (fun q => e2 q.1)]
