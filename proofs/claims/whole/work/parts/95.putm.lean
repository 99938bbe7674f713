theorem p_putM {n : Nat} (hn : 1000 ≤ n) {z p : Nat} (hz : z < 40) (hp : p ≤ z) (now : Nat → Int) : ∃ nw, lp_ (fun (q : Int × (Nat → Int)) => F_X12_comes_L109 n p q.1 q.2) n ((z : Int), now) = some nw ∧ (∀ j, j ≤ z → nw (18 + j) = if p < j then now (18 + (j - 1)) else now (18 + j)) ∧ (∀ j, j ≤ z → nw (58 + j) = if p < j then now (58 + (j - 1)) else now (58 + j)) ∧ ∀ m, m < 18 → nw m = now m := by
  obtain ⟨r, h1, h2⟩ := lp_rule (f := fun (q : Int × (Nat → Int)) => F_X12_comes_L109 n p q.1 q.2) (fun k q => ∃ a : Nat → Int, q = ((z : Int) - (k : Int), a) ∧ p + k ≤ z ∧ (∀ j, j ≤ z → a (18 + j) = if z - k < j then now (18 + (j - 1)) else now (18 + j)) ∧ (∀ j, j ≤ z → a (58 + j) = if z - k < j then now (58 + (j - 1)) else now (58 + j)) ∧ ∀ m, m < 18 → a m = now m)
    (fun nw => (∀ j, j ≤ z → nw (18 + j) = if p < j then now (18 + (j - 1)) else now (18 + j)) ∧ (∀ j, j ≤ z → nw (58 + j) = if p < j then now (58 + (j - 1)) else now (58 + j)) ∧ ∀ m, m < 18 → nw m = now m) (N := z - p) (n := n) (s := ((z : Int), now)) (by omega) ⟨now, by simp, by omega, fun j hj => by rw [if_neg (by omega)], fun j hj => by rw [if_neg (by omega)], fun m hm => rfl⟩ (fun k q hI hk => by
    obtain ⟨a, rfl, c0, c1, c2, c3⟩ := hI
    dsimp only
    by_cases hlt : k < z - p
    · left
      obtain ⟨i, hi⟩ : ∃ i : Nat, (z : Int) - (k : Int) = (i : Int) + 1 := ⟨z - k - 1, by omega⟩
      have t1 : (18 + ((i : Int) + 1)).toNat = 18 + (i + 1) := by omega
      have t2 : (18 + ((i : Int) + 1) - 1).toNat = 18 + i := by omega
      have t3 : (58 + ((i : Int) + 1)).toNat = 58 + (i + 1) := by omega
      have t4 : (58 + ((i : Int) + 1) - 1).toNat = 58 + i := by omega
      have d1 := c1 i (by omega)
      have d2 := c2 i (by omega)
      rw [if_neg (by omega)] at d1 d2
      have d3 : up_ a (18 + (i + 1)) (now (18 + i)) (58 + i) = now (58 + i) := by rw [up_off (by omega), d2]
      rw [hi]
      refine ⟨((i : Int) + 1 + (-1), up_ (up_ a (18 + (i + 1)) (now (18 + i))) (58 + (i + 1)) (now (58 + i))), ?_, ⟨_, by rw [show (i : Int) + 1 + (-1) = (z : Int) - ((k + 1 : Nat) : Int) by omega], by omega, fun j hj => ?_, fun j hj => ?_, fun m hm => ?_⟩, hlt⟩
      · refine (ck_pos (by omega)).trans ((if_pos (by omega)).trans ((ck_pos (by omega)).trans ((ck_pos (by omega)).trans ((ck_pos (by omega)).trans ((ck_pos (by omega)).trans ?_)))))
        rw [t1, t2, t3, t4, d1, d3]
      · by_cases e : j = i + 1
        · rw [e, up_off (by omega), up_at, if_pos (by omega)]; rfl
        · rw [up_off (by omega), up_off (by omega), c1 j hj]
          by_cases e2 : z - k < j
          · rw [if_pos e2, if_pos (by omega)]
          · rw [if_neg e2, if_neg (by omega)]
      · by_cases e : j = i + 1
        · rw [e, up_at, if_pos (by omega)]; rfl
        · rw [up_off (by omega), up_off (by omega), c2 j hj]
          by_cases e2 : z - k < j
          · rw [if_pos e2, if_pos (by omega)]
          · rw [if_neg e2, if_neg (by omega)]
      · rw [up_off (by omega), up_off (by omega)]; exact c3 m hm
    · right
      have ek : z - k = p := by omega
      rw [ek] at c1 c2
      exact ⟨a, (ck_pos (by omega)).trans (if_neg (by omega)), c1, c2, c3⟩)
  exact ⟨r, h1, h2⟩
