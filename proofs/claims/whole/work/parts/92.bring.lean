/-! sheets of the model -/
theorem cp_up (p q : Nat → Int) (a c i : Nat) : up_ (cp_ p q a c i) (c + i) (p (a + i)) = cp_ p q a c (i + 1) := by
  funext j
  unfold up_ cp_
  by_cases e : j = c + i
  · rw [if_pos e, if_pos (by omega)]
    congr 1
    omega
  · rw [if_neg e]
    by_cases e2 : c ≤ j ∧ j < c + i
    · rw [if_pos e2, if_pos (by omega)]
    · rw [if_neg e2, if_neg (by omega)]
theorem cp_none (p q : Nat → Int) (a c : Nat) : cp_ p q a c 0 = q := by
  funext j
  unfold cp_
  rw [if_neg (by omega)]
theorem p_bring {n : Nat} (hn : 1000 ≤ n) {N0 N2 a c : Nat} (ha : a + 98 ≤ N0) (hc : c + 98 ≤ N2) (p q : Nat → Int) : F_X12_bring n N0 N2 p q a c = some (cp_ p q a c 98) := by
  unfold F_X12_bring
  have h : lp_ (fun (s : Int × (Nat → Int)) => F_X12_bring_L3 n a N0 c N2 p s.1 s.2) n (0, cp_ p q a c 0) = some (cp_ p q a c 98) := by
    refine lp_for (fun i => ((i : Int), cp_ p q a c i)) 98 (by omega) (fun i hi => ?_) ((ck_pos (show r4 (98 : Int) by decide)).trans (if_neg (show ¬ (98 : Int) < 98 by decide)))
    have t1 : ((a : Int) + (i : Int)).toNat = a + i := by omega
    have t2 : ((c : Int) + (i : Int)).toNat = c + i := by omega
    show F_X12_bring_L3 n a N0 c N2 p (i : Int) (cp_ p q a c i) = some (.inl (((i + 1 : Nat) : Int), cp_ p q a c (i + 1)))
    rw [← cp_up, show ((i + 1 : Nat) : Int) = (i : Int) + 1 by omega]
    refine (ck_pos (by omega)).trans ((if_pos (by omega)).trans ((ck_pos (by omega)).trans ((ck_pos (by omega)).trans ?_)))
    rw [t1, t2]
  rw [cp_none] at h
  exact (bd_of h).trans rfl
theorem p_shift {n : Nat} (hn : 1000 ≤ n) (p : Nat → Int) : lp_ (fun (q : Int × (Nat → Int)) => F_X12_note_L11 n q.1 q.2) n (0, p) = some (ov (fun j => p (j + 98)) p 490) := by
  have h : lp_ (fun (q : Int × (Nat → Int)) => F_X12_note_L11 n q.1 q.2) n (0, ov (fun j => p (j + 98)) p 0) = some (ov (fun j => p (j + 98)) p 490) := by
    refine lp_for (fun i => ((i : Int), ov (fun j => p (j + 98)) p i)) 490 (by omega) (fun i hi => ?_) ((ck_pos (show r4 (490 : Int) by decide)).trans (if_neg (show ¬ (490 : Int) < 490 by decide)))
    have t1 : ((i : Int)).toNat = i := by omega
    have t2 : ((i : Int) + 98).toNat = i + 98 := by omega
    have e : ov (fun j => p (j + 98)) p i (i + 98) = p (i + 98) := by
      unfold ov
      rw [if_neg (by omega)]
    show F_X12_note_L11 n (i : Int) (ov (fun j => p (j + 98)) p i) = some (.inl (((i + 1 : Nat) : Int), ov (fun j => p (j + 98)) p (i + 1)))
    rw [← ov_up, show ((i + 1 : Nat) : Int) = (i : Int) + 1 by omega]
    refine (ck_pos (by omega)).trans ((if_pos (by omega)).trans ((ck_pos (by omega)).trans ((ck_pos (by omega)).trans ?_)))
    rw [t1, t2, e]
  rw [ov_0] at h
  exact h
