/-! marks of rows -/
theorem p_marksA {n : Nat} (hn : 1000 ≤ n) {z : Nat} (hz : z ≤ 40) {now mk : Nat → Int} (h17 : now 17 = (z : Int)) (o2 : (Nat → Int) × (Nat → Int) × (Nat → Int) × (Nat → Int) × (Nat → Int)) (ho : ∀ i, i < z → o2.1 i = mk i) (hm : ∀ i, i < z → r4 (mk i)) {x : Int} (hx : r4 x) : (∃ c : Int, r4 c ∧ lp_ (fun (q : Int × Int) => F_X11_timeOfMark_L12 n z mk x q.1 q.2) n (0, 0) = some (.inl c) ∧ lp_ (fun (q : Int × Int) => F_X12_alarm_L15 n now o2 x q.1 q.2) n (0, 0) = some (.inl c)) ∨ ∃ i : Nat, i < z ∧ lp_ (fun (q : Int × Int) => F_X11_timeOfMark_L12 n z mk x q.1 q.2) n (0, 0) = some (.inr (i : Int)) ∧ lp_ (fun (q : Int × Int) => F_X12_alarm_L15 n now o2 x q.1 q.2) n (0, 0) = some (.inr (i : Int)) := by
  obtain ⟨r, q, l1, l2, P⟩ := lp_two (f := fun (q : Int × Int) => F_X11_timeOfMark_L12 n z mk x q.1 q.2) (g := fun (q : Int × Int) => F_X12_alarm_L15 n now o2 x q.1 q.2) (fun i a b => ∃ c : Int, a = (c, (i : Int)) ∧ b = (c, (i : Int)) ∧ i ≤ z ∧ 0 ≤ c ∧ c ≤ i) (fun r q => (∃ c : Int, r4 c ∧ r = .inl c ∧ q = .inl c) ∨ ∃ i : Nat, i < z ∧ r = .inr (i : Int) ∧ q = .inr (i : Int)) (N := z) (n := n) (s := (0, 0)) (t := (0, 0)) (by omega) ⟨0, rfl, rfl, by omega, by omega, by omega⟩ (fun i a b hI hi => by
    obtain ⟨c, rfl, rfl, c1, c2, c3⟩ := hI
    dsimp only
    unfold F_X11_timeOfMark_L12 F_X12_alarm_L15
    rw [h17]
    by_cases hlt : i < z
    · have ti : ((i : Int)).toNat = i := by omega
      have m := hm i hlt
      rw [ti, ho i hlt]
      by_cases e : mk i = 0
      · left
        exact ⟨(c, (i : Int) + 1), (c, (i : Int) + 1), (ck_pos (by omega)).trans ((if_pos (by omega)).trans ((ck_pos (by omega)).trans ((if_pos (by omega)).trans ((ck_pos (by omega)).trans ((ck_pos m).trans (if_pos e)))))), (ck_pos (by omega)).trans ((if_pos (by omega)).trans ((ck_pos (by omega)).trans ((ck_pos m).trans (if_pos e)))), ⟨c, by rw [show ((i + 1 : Nat) : Int) = (i : Int) + 1 by omega], by rw [show ((i + 1 : Nat) : Int) = (i : Int) + 1 by omega], by omega, by omega, by omega⟩, hlt⟩
      · by_cases e2 : c = x
        · right
          exact ⟨.inr (i : Int), .inr (i : Int), (ck_pos (by omega)).trans ((if_pos (by omega)).trans ((ck_pos (by omega)).trans ((if_pos (by omega)).trans ((ck_pos (by omega)).trans ((ck_pos m).trans ((if_neg e).trans ((ck_pos ⟨by omega, hx⟩).trans (if_pos e2)))))))), (ck_pos (by omega)).trans ((if_pos (by omega)).trans ((ck_pos (by omega)).trans ((ck_pos m).trans ((if_neg e).trans ((ck_pos ⟨by omega, hx⟩).trans (if_pos e2)))))), Or.inr ⟨i, hlt, rfl, rfl⟩⟩
        · left
          exact ⟨(c + 1, (i : Int) + 1), (c + 1, (i : Int) + 1), (ck_pos (by omega)).trans ((if_pos (by omega)).trans ((ck_pos (by omega)).trans ((if_pos (by omega)).trans ((ck_pos (by omega)).trans ((ck_pos m).trans ((if_neg e).trans ((ck_pos ⟨by omega, hx⟩).trans (if_neg e2)))))))), (ck_pos (by omega)).trans ((if_pos (by omega)).trans ((ck_pos (by omega)).trans ((ck_pos m).trans ((if_neg e).trans ((ck_pos ⟨by omega, hx⟩).trans (if_neg e2)))))), ⟨c + 1, by rw [show ((i + 1 : Nat) : Int) = (i : Int) + 1 by omega], by rw [show ((i + 1 : Nat) : Int) = (i : Int) + 1 by omega], by omega, by omega, by omega⟩, hlt⟩
    · right
      exact ⟨.inl c, .inl c, (ck_pos (by omega)).trans (if_neg (by omega)), (ck_pos (by omega)).trans (if_neg (by omega)), Or.inl ⟨c, by omega, rfl, rfl⟩⟩)
  rcases P with ⟨c, p1, rfl, rfl⟩ | ⟨i, p1, rfl, rfl⟩
  · exact Or.inl ⟨c, p1, l1, l2⟩
  · exact Or.inr ⟨i, p1, l1, l2⟩
theorem p_marksS {n : Nat} (hn : 1000 ≤ n) {z : Nat} (hz : z ≤ 40) {now mk : Nat → Int} (h17 : now 17 = (z : Int)) (o2 : (Nat → Int) × (Nat → Int) × (Nat → Int) × (Nat → Int) × (Nat → Int)) (ho : ∀ i, i < z → o2.2.2.1 i = mk i) (hm : ∀ i, i < z → r4 (mk i)) {x : Int} (hx : r4 x) : (∃ c : Int, r4 c ∧ lp_ (fun (q : Int × Int) => F_X11_timeOfMark_L12 n z mk x q.1 q.2) n (0, 0) = some (.inl c) ∧ lp_ (fun (q : Int × Int) => F_X12_signal_L15 n now o2 x q.1 q.2) n (0, 0) = some (.inl c)) ∨ ∃ i : Nat, i < z ∧ lp_ (fun (q : Int × Int) => F_X11_timeOfMark_L12 n z mk x q.1 q.2) n (0, 0) = some (.inr (i : Int)) ∧ lp_ (fun (q : Int × Int) => F_X12_signal_L15 n now o2 x q.1 q.2) n (0, 0) = some (.inr (i : Int)) := by
  obtain ⟨r, q, l1, l2, P⟩ := lp_two (f := fun (q : Int × Int) => F_X11_timeOfMark_L12 n z mk x q.1 q.2) (g := fun (q : Int × Int) => F_X12_signal_L15 n now o2 x q.1 q.2) (fun i a b => ∃ c : Int, a = (c, (i : Int)) ∧ b = (c, (i : Int)) ∧ i ≤ z ∧ 0 ≤ c ∧ c ≤ i) (fun r q => (∃ c : Int, r4 c ∧ r = .inl c ∧ q = .inl c) ∨ ∃ i : Nat, i < z ∧ r = .inr (i : Int) ∧ q = .inr (i : Int)) (N := z) (n := n) (s := (0, 0)) (t := (0, 0)) (by omega) ⟨0, rfl, rfl, by omega, by omega, by omega⟩ (fun i a b hI hi => by
    obtain ⟨c, rfl, rfl, c1, c2, c3⟩ := hI
    dsimp only
    unfold F_X11_timeOfMark_L12 F_X12_signal_L15
    rw [h17]
    by_cases hlt : i < z
    · have ti : ((i : Int)).toNat = i := by omega
      have m := hm i hlt
      rw [ti, ho i hlt]
      by_cases e : mk i = 0
      · left
        exact ⟨(c, (i : Int) + 1), (c, (i : Int) + 1), (ck_pos (by omega)).trans ((if_pos (by omega)).trans ((ck_pos (by omega)).trans ((if_pos (by omega)).trans ((ck_pos (by omega)).trans ((ck_pos m).trans (if_pos e)))))), (ck_pos (by omega)).trans ((if_pos (by omega)).trans ((ck_pos (by omega)).trans ((ck_pos m).trans (if_pos e)))), ⟨c, by rw [show ((i + 1 : Nat) : Int) = (i : Int) + 1 by omega], by rw [show ((i + 1 : Nat) : Int) = (i : Int) + 1 by omega], by omega, by omega, by omega⟩, hlt⟩
      · by_cases e2 : c = x
        · right
          exact ⟨.inr (i : Int), .inr (i : Int), (ck_pos (by omega)).trans ((if_pos (by omega)).trans ((ck_pos (by omega)).trans ((if_pos (by omega)).trans ((ck_pos (by omega)).trans ((ck_pos m).trans ((if_neg e).trans ((ck_pos ⟨by omega, hx⟩).trans (if_pos e2)))))))), (ck_pos (by omega)).trans ((if_pos (by omega)).trans ((ck_pos (by omega)).trans ((ck_pos m).trans ((if_neg e).trans ((ck_pos ⟨by omega, hx⟩).trans (if_pos e2)))))), Or.inr ⟨i, hlt, rfl, rfl⟩⟩
        · left
          exact ⟨(c + 1, (i : Int) + 1), (c + 1, (i : Int) + 1), (ck_pos (by omega)).trans ((if_pos (by omega)).trans ((ck_pos (by omega)).trans ((if_pos (by omega)).trans ((ck_pos (by omega)).trans ((ck_pos m).trans ((if_neg e).trans ((ck_pos ⟨by omega, hx⟩).trans (if_neg e2)))))))), (ck_pos (by omega)).trans ((if_pos (by omega)).trans ((ck_pos (by omega)).trans ((ck_pos m).trans ((if_neg e).trans ((ck_pos ⟨by omega, hx⟩).trans (if_neg e2)))))), ⟨c + 1, by rw [show ((i + 1 : Nat) : Int) = (i : Int) + 1 by omega], by rw [show ((i + 1 : Nat) : Int) = (i : Int) + 1 by omega], by omega, by omega, by omega⟩, hlt⟩
    · right
      exact ⟨.inl c, .inl c, (ck_pos (by omega)).trans (if_neg (by omega)), (ck_pos (by omega)).trans (if_neg (by omega)), Or.inl ⟨c, by omega, rfl, rfl⟩⟩)
  rcases P with ⟨c, p1, rfl, rfl⟩ | ⟨i, p1, rfl, rfl⟩
  · exact Or.inl ⟨c, p1, l1, l2⟩
  · exact Or.inr ⟨i, p1, l1, l2⟩
