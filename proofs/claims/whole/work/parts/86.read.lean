/-! reading -/
theorem kdS_b (z : Nat) (tx : Nat → Int) (t : Nat) : 0 ≤ kdS z tx t ∧ kdS z tx t ≤ 6 ∧ 0 ≤ vlS z tx t ∧ vlS z tx t ≤ 100 := by
  unfold kdS vlS
  by_cases e : stS z tx t < z
  · have := tkS_b (tx := tx) e
    rw [if_pos e, if_pos e]; omega
  · rw [if_neg e, if_neg e]; omega
theorem kmS_v {k : Int} (h : 0 ≤ k ∧ k ≤ 6) : (k = 0 ∧ kmS k = 2) ∨ (k = 1 ∧ kmS k = 4) ∨ (k = 2 ∧ kmS k = 5) ∨ (k = 3 ∧ kmS k = 6) ∨ (k = 4 ∧ kmS k = 1) ∨ (k = 5 ∧ kmS k = 59) ∨ (k = 6 ∧ kmS k = 3) := by
  rcases (show k = 0 ∨ k = 1 ∨ k = 2 ∨ k = 3 ∨ k = 4 ∨ k = 5 ∨ k = 6 by omega) with rfl | rfl | rfl | rfl | rfl | rfl | rfl <;> decide
def nbS (z : Nat) (tx : Nat → Int) (t : Nat) (lo hi : Int) : Int := if kdS z tx t = 4 ∧ lo ≤ vlS z tx t ∧ vlS z tx t ≤ hi then 1 else 0
theorem nbS_b (z : Nat) (tx : Nat → Int) (t : Nat) (lo hi : Int) : (nbS z tx t lo hi = 0 ∨ nbS z tx t lo hi = 1) ∧ (nbS z tx t lo hi ≠ 0 → kdS z tx t = 4 ∧ lo ≤ vlS z tx t ∧ vlS z tx t ≤ hi) := by
  unfold nbS
  by_cases e : kdS z tx t = 4 ∧ lo ≤ vlS z tx t ∧ vlS z tx t ≤ hi
  · rw [if_pos e]; exact ⟨Or.inr rfl, fun _ => e⟩
  · rw [if_neg e]; exact ⟨Or.inl rfl, fun x => absurd rfl x⟩
theorem p_nextKind {n z N : Nat} {tx st ki va : Nat → Int} (h : tkA z tx N st ki va) {t : Nat} (ht : t < 2000) {x : Int} (hx : x + 1 = (t : Int)) : F_X5_nextKind n x N ki = some (kdS z tx t, (t : Int)) := by
  have k := (p_tokens (n := n) h ht).1
  unfold F_X5_nextKind
  rw [hx]
  exact (bd_of k).trans rfl
theorem p_isNumber {n z N : Nat} {tx st ki va : Nat → Int} (h : tkA z tx N st ki va) {t : Nat} (ht : t < 2000) {x : Int} (hx : x + 1 = (t : Int)) {lo hi : Int} (hlo : r4 lo) (hhi : r4 hi) : F_X5_isNumber n x N ki va lo hi = some (nbS z tx t lo hi, (t : Int)) := by
  have k := p_nextKind (n := n) h ht hx
  have v := (p_tokens (n := n) h ht).2.1
  have b := kdS_b z tx t
  refine (bd_of k).trans ((bd_of v).trans ((bd_of (a := nbS z tx t lo hi) ((ck_pos (show r4 (kdS z tx t) by omega)).trans ?_)).trans ?_))
  · unfold nbS
    by_cases e4 : kdS z tx t = 4
    · refine (if_pos e4).trans ((ck_pos ⟨by omega, hlo⟩).trans ?_)
      by_cases e1 : vlS z tx t < lo
      · rw [if_pos e1, if_neg (fun q => by omega)]
      · refine (if_neg e1).trans ((ck_pos ⟨by omega, hhi⟩).trans ?_)
        by_cases e2 : hi < vlS z tx t
        · rw [if_pos e2, if_neg (fun q => by omega)]
        · rw [if_neg e2, if_pos ⟨e4, by omega, by omega⟩]
    · rw [if_neg (show ¬ (kdS z tx t = 4 ∧ lo ≤ vlS z tx t ∧ vlS z tx t ≤ hi) from fun q => e4 q.1)]
      exact if_neg e4
  · exact ck_pos (nbS_b z tx t lo hi).1
theorem p_scanNumber {n : Nat} (hn : 1000 ≤ n) {z : Nat} {tx : Nat → Int} (h : okT z tx) (t : Nat) (tv : Int) {lo hi : Int} (hlo : r4 lo) (hhi : r4 hi) : ∃ tv' : Int, F_X12_scanNumber n z ((atS z tx t : Nat) : Int) tv tx lo hi = some (nbS z tx t lo hi, ((atS z tx (t + 1) : Nat) : Int), ((stS z tx t : Nat) : Int), kmS (kdS z tx t), tv') ∧ (nbS z tx t lo hi ≠ 0 → tv' = vlS z tx t) := by
  obtain ⟨tv', s1, s2⟩ := p_scanT hn h t tv
  have b := kdS_b z tx t
  have km := kmS_v (k := kdS z tx t) (by omega)
  refine ⟨tv', ?_, fun q => s2 ((nbS_b z tx t lo hi).2 q).1⟩
  refine (bd_of s1).trans ((bd_of (a := nbS z tx t lo hi) ((ck_pos (show r4 (kmS (kdS z tx t)) by omega)).trans ?_)).trans ((ck_pos (nbS_b z tx t lo hi).1).trans rfl))
  by_cases e4 : kdS z tx t = 4
  · have tv4 := s2 e4
    refine (if_pos (show kmS (kdS z tx t) = 1 by omega)).trans ?_
    have i := p_in (n := n) (x := tv') (a := lo) (b := hi) (by omega) hlo hhi
    refine (bd_of i).trans ?_
    unfold nbS
    rw [tv4]
    by_cases e : lo ≤ vlS z tx t ∧ vlS z tx t ≤ hi
    · rw [if_pos e, if_pos (show kdS z tx t = 4 ∧ lo ≤ vlS z tx t ∧ vlS z tx t ≤ hi from ⟨e4, e⟩)]
      exact (ck_pos (by decide)).trans (if_neg (by decide))
    · rw [if_neg e, if_neg (show ¬ (kdS z tx t = 4 ∧ lo ≤ vlS z tx t ∧ vlS z tx t ≤ hi) from fun q => e q.2)]
      exact (ck_pos (by decide)).trans (if_pos rfl)
  · refine (if_neg (show ¬ kmS (kdS z tx t) = 1 by omega)).trans ?_
    unfold nbS
    rw [if_neg (show ¬ (kdS z tx t = 4 ∧ lo ≤ vlS z tx t ∧ vlS z tx t ≤ hi) from fun q => e4 q.1)]
/-- a plan that is read: the component's and the model's -/
def rdI (k : Nat) (le of_ se ch : Nat → Int) (sl li : Int) (rd : Nat → Int) : Prop := rd 0 = (k : Int) ∧ (∀ r, r < k → leM rd r = le r ∧ ofM rd r = of_ r ∧ seM rd r = se r) ∧ (∀ g, g < 5 → rd (10 + g) = ch g) ∧ rd 15 = sl ∧ rd 16 = li
theorem p_width {n : Nat} (hn : 1000 ≤ n) {k : Nat} (hk : k ≤ 3) {rd : Nat → Int} (h0 : rd 0 = (k : Int)) : F_X12_width n rd = some (wd_ (ofM rd) k) := by
  unfold F_X12_width
  refine (bd_of (lp_for (fun i => (wd_ (ofM rd) i, (i : Int))) k (r := wd_ (ofM rd) k) (by omega) (fun i hi => ?_) ?_)).trans rfl
  · have t1 : (1 + 3 * (i : Int) + 1).toNat = 2 + 3 * i := by omega
    show F_X12_width_L4 n rd (wd_ (ofM rd) i) (i : Int) = some (.inl (wd_ (ofM rd) (i + 1), ((i + 1 : Nat) : Int)))
    unfold F_X12_width_L4
    rw [h0, t1, show ((i + 1 : Nat) : Int) = (i : Int) + 1 by omega]
    exact (ck_pos (by omega)).trans ((if_pos (by omega)).trans (ck_pos (by omega)))
  · show F_X12_width_L4 n rd (wd_ (ofM rd) k) (k : Int) = _
    unfold F_X12_width_L4
    rw [h0]
    exact (ck_pos (by omega)).trans (if_neg (by omega))
