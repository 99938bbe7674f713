theorem p_takeM {n : Nat} (hn : 1000 ≤ n) {z i : Nat} (hz : z ≤ 40) (hi : i < z) {now : Nat → Int} (h17 : now 17 = (z : Int) - 1) : ∃ nw, lp_ (fun (q : Int × (Nat → Int)) => F_X12_goes_L37 n q.1 q.2) n ((i : Int), now) = some nw ∧ (∀ j, j + 1 < z → nw (18 + j) = if i ≤ j then now (18 + (j + 1)) else now (18 + j)) ∧ (∀ j, j + 1 < z → nw (58 + j) = if i ≤ j then now (58 + (j + 1)) else now (58 + j)) ∧ ∀ m, m < 18 → nw m = now m := by
  obtain ⟨r, h1, h2⟩ := lp_rule (f := fun (q : Int × (Nat → Int)) => F_X12_goes_L37 n q.1 q.2) (fun k q => ∃ a : Nat → Int, q = ((i : Int) + (k : Int), a) ∧ i + k + 1 ≤ z ∧ (∀ j, j < z → a (18 + j) = if i ≤ j ∧ j < i + k then now (18 + (j + 1)) else now (18 + j)) ∧ (∀ j, j < z → a (58 + j) = if i ≤ j ∧ j < i + k then now (58 + (j + 1)) else now (58 + j)) ∧ ∀ m, m < 18 → a m = now m)
    (fun nw => (∀ j, j + 1 < z → nw (18 + j) = if i ≤ j then now (18 + (j + 1)) else now (18 + j)) ∧ (∀ j, j + 1 < z → nw (58 + j) = if i ≤ j then now (58 + (j + 1)) else now (58 + j)) ∧ ∀ m, m < 18 → nw m = now m) (N := z) (n := n) (s := ((i : Int), now)) (by omega) ⟨now, by simp, by omega, fun j hj => by rw [if_neg (fun q => by omega)], fun j hj => by rw [if_neg (fun q => by omega)], fun m hm => rfl⟩ (fun k q hI hk => by
    obtain ⟨a, rfl, c0, c1, c2, c3⟩ := hI
    dsimp only
    obtain ⟨m, hm⟩ : ∃ m : Nat, (i : Int) + (k : Int) = (m : Int) := ⟨i + k, by omega⟩
    have a17 := c3 17 (by omega)
    unfold F_X12_goes_L37
    rw [hm, a17, h17]
    by_cases hlt : m + 1 < z
    · left
      have t1 : (18 + (m : Int)).toNat = 18 + m := by omega
      have t2 : (18 + (m : Int) + 1).toNat = 18 + (m + 1) := by omega
      have t3 : (58 + (m : Int)).toNat = 58 + m := by omega
      have t4 : (58 + (m : Int) + 1).toNat = 58 + (m + 1) := by omega
      have d1 := c1 (m + 1) hlt
      have d2 := c2 (m + 1) hlt
      rw [if_neg (fun q => by omega)] at d1 d2
      have d3 : up_ a (18 + m) (now (18 + (m + 1))) (58 + (m + 1)) = now (58 + (m + 1)) := by rw [up_off (by omega), d2]
      refine ⟨((m : Int) + 1, up_ (up_ a (18 + m) (now (18 + (m + 1)))) (58 + m) (now (58 + (m + 1)))), ?_, ⟨_, by rw [show (i : Int) + ((k + 1 : Nat) : Int) = (m : Int) + 1 by omega], by omega, fun j hj => ?_, fun j hj => ?_, fun m hm => ?_⟩, by omega⟩
      · refine (ck_pos (by omega)).trans ((if_pos (by omega)).trans ((ck_pos (by omega)).trans ((ck_pos (by omega)).trans ((ck_pos (by omega)).trans ((ck_pos (by omega)).trans ?_)))))
        rw [t1, t2, t3, t4, d1, d3]
      · by_cases e : j = m
        · rw [e, up_off (by omega), up_at, if_pos (by omega)]
        · rw [up_off (by omega), up_off (by omega), c1 j hj]
          by_cases e2 : i ≤ j ∧ j < i + k
          · rw [if_pos e2, if_pos (by omega)]
          · rw [if_neg e2, if_neg (by omega)]
      · by_cases e : j = m
        · rw [e, up_at, if_pos (by omega)]
        · rw [up_off (by omega), up_off (by omega), c2 j hj]
          by_cases e2 : i ≤ j ∧ j < i + k
          · rw [if_pos e2, if_pos (by omega)]
          · rw [if_neg e2, if_neg (by omega)]
      · rw [up_off (by omega), up_off (by omega)]; exact c3 m hm
    · right
      refine ⟨a, (ck_pos (by omega)).trans (if_neg (by omega)), fun j hj => ?_, fun j hj => ?_, c3⟩
      · rw [c1 j (by omega)]
        by_cases e2 : i ≤ j
        · rw [if_pos e2, if_pos (by omega)]
        · rw [if_neg e2, if_neg (by omega)]
      · rw [c2 j (by omega)]
        by_cases e2 : i ≤ j
        · rw [if_pos e2, if_pos (by omega)]
        · rw [if_neg e2, if_neg (by omega)])
  exact ⟨r, h1, h2⟩
