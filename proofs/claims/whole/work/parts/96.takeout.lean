theorem p_takeOut {n : Nat} (hn : 1000 ≤ n) {z i : Nat} (hz : z ≤ 40) (hi : i < z) (ti sg : Nat → Int) : ∃ ti' sg', F_X6_takeOut n z ti sg i = some ((z : Int) - 1, ti', sg') ∧ (∀ j, j + 1 < z → ti' j = if i ≤ j then ti (j + 1) else ti j) ∧ ∀ j, j + 1 < z → sg' j = if i ≤ j then sg (j + 1) else sg j := by
  obtain ⟨r, h1, h2, h3⟩ := lp_rule (f := fun (q : Int × (Nat → Int) × (Nat → Int)) => F_X6_takeOut_L25 n z q.1 q.2.1 q.2.2) (fun k q => ∃ a b : Nat → Int, q = ((i : Int) + (k : Int), a, b) ∧ i + k + 1 ≤ z ∧ (∀ j, j < z → a j = if i ≤ j ∧ j < i + k then ti (j + 1) else ti j) ∧ ∀ j, j < z → b j = if i ≤ j ∧ j < i + k then sg (j + 1) else sg j)
    (fun r => (∀ j, j + 1 < z → r.1 j = if i ≤ j then ti (j + 1) else ti j) ∧ ∀ j, j + 1 < z → r.2 j = if i ≤ j then sg (j + 1) else sg j) (N := z) (n := n) (s := ((i : Int), ti, sg)) (by omega) ⟨ti, sg, by simp, by omega, fun j hj => by rw [if_neg (fun q => by omega)], fun j hj => by rw [if_neg (fun q => by omega)]⟩ (fun k q hI hk => by
    obtain ⟨a, b, rfl, c0, c1, c2⟩ := hI
    dsimp only
    obtain ⟨m, hm⟩ : ∃ m : Nat, (i : Int) + (k : Int) = (m : Int) := ⟨i + k, by omega⟩
    rw [hm]
    by_cases hlt : m + 1 < z
    · left
      have t1 : ((m : Int)).toNat = m := by omega
      have t2 : ((m : Int) + 1).toNat = m + 1 := by omega
      have d1 := c1 (m + 1) hlt
      have d2 := c2 (m + 1) hlt
      rw [if_neg (fun q => by omega)] at d1 d2
      refine ⟨((m : Int) + 1, up_ a m (ti (m + 1)), up_ b m (sg (m + 1))), ?_, ⟨_, _, by rw [show (i : Int) + ((k + 1 : Nat) : Int) = (m : Int) + 1 by omega], by omega, fun j hj => ?_, fun j hj => ?_⟩, by omega⟩
      · refine (ck_pos (by omega)).trans ((if_pos (by omega)).trans ((ck_pos (by omega)).trans ((if_pos (by omega)).trans ((ck_pos (by omega)).trans ((ck_pos (by omega)).trans ((ck_pos (by omega)).trans ((ck_pos (by omega)).trans ?_)))))))
        rw [t1, t2, d1, d2]
      · by_cases e : j = m
        · rw [e, up_at, if_pos (by omega)]
        · rw [up_off e, c1 j hj]
          by_cases e2 : i ≤ j ∧ j < i + k
          · rw [if_pos e2, if_pos (by omega)]
          · rw [if_neg e2, if_neg (by omega)]
      · by_cases e : j = m
        · rw [e, up_at, if_pos (by omega)]
        · rw [up_off e, c2 j hj]
          by_cases e2 : i ≤ j ∧ j < i + k
          · rw [if_pos e2, if_pos (by omega)]
          · rw [if_neg e2, if_neg (by omega)]
    · right
      refine ⟨(a, b), (ck_pos (by omega)).trans (if_neg (by omega)), fun j hj => ?_, fun j hj => ?_⟩
      · dsimp only
        rw [c1 j (by omega)]
        by_cases e2 : i ≤ j
        · rw [if_pos e2, if_pos (by omega)]
        · rw [if_neg e2, if_neg (by omega)]
      · dsimp only
        rw [c2 j (by omega)]
        by_cases e2 : i ≤ j
        · rw [if_pos e2, if_pos (by omega)]
        · rw [if_neg e2, if_neg (by omega)])
  obtain ⟨a, b⟩ := r
  exact ⟨a, b, (ck_pos (by omega)).trans ((if_neg (by omega)).trans ((ck_pos (by omega)).trans ((if_pos (by omega)).trans ((bd_of h1).trans rfl)))), h2, h3⟩
