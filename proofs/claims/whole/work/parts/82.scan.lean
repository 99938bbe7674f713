/-! tokens -/
def tvS (z : Nat) (tx : Nat → Int) (s : Nat) : Int := if tx s = 48 ∧ s + 1 < rnS qF tx (z - s) s then 100 else nvS tx (z - s) s 0
/-- the token at s: where it ends, its kind, its value -/
def tkS (z : Nat) (tx : Nat → Int) (s : Nat) : Nat × Int × Int :=
  if qL (tx s) then (rnS qL tx (z - s) s, wkS tx s (rnS qL tx (z - s) s), 0)
  else if qF (tx s) then (rnS qF tx (z - s) s, if tvS z tx s < 100 then 4 else 6, tvS z tx s)
  else (s + 1, if tx s = 59 then 5 else 6, 0)
theorem rnS_go {q : Int → Bool} {tx : Nat → Int} {z s : Nat} (hs : s < z) (h : q (tx s) = true) : s + 1 ≤ rnS q tx (z - s) s ∧ rnS q tx (z - s) s ≤ z := by
  obtain ⟨d, hd⟩ : ∃ d, z - s = d + 1 := ⟨z - s - 1, by omega⟩
  rw [hd]
  show s + 1 ≤ (if q (tx s) then rnS q tx d (s + 1) else s) ∧ (if q (tx s) then rnS q tx d (s + 1) else s) ≤ z
  rw [if_pos h]
  have := rnS_b q tx d (s + 1)
  omega
theorem tvS_b (z : Nat) (tx : Nat → Int) (s : Nat) : 0 ≤ tvS z tx s ∧ tvS z tx s ≤ 100 := by
  have := nvS_b tx (z - s) s 0 (by omega)
  unfold tvS
  split <;> omega
theorem wkS_b (tx : Nat → Int) (s e : Nat) : wkS tx s e = 1 ∨ wkS tx s e = 2 ∨ wkS tx s e = 3 ∨ wkS tx s e = 6 := by
  unfold wkS
  by_cases e1 : e = s + 4 ∧ isR tx s
  · rw [if_pos e1]; omega
  · rw [if_neg e1]
    by_cases e2 : e = s + 6 ∧ isC tx s
    · rw [if_pos e2]; omega
    · rw [if_neg e2]
      by_cases e3 : e = s + 4 ∧ isU tx s
      · rw [if_pos e3]; omega
      · rw [if_neg e3]; omega
theorem tkS_b {z : Nat} {tx : Nat → Int} {s : Nat} (hs : s < z) : s + 1 ≤ (tkS z tx s).1 ∧ (tkS z tx s).1 ≤ z ∧ 1 ≤ (tkS z tx s).2.1 ∧ (tkS z tx s).2.1 ≤ 6 ∧ 0 ≤ (tkS z tx s).2.2 ∧ (tkS z tx s).2.2 ≤ 100 := by
  unfold tkS
  by_cases e1 : qL (tx s) = true
  · rw [if_pos e1]
    have := rnS_go hs e1
    have := wkS_b tx s (rnS qL tx (z - s) s)
    dsimp only
    omega
  · rw [if_neg e1]
    by_cases e2 : qF (tx s) = true
    · rw [if_pos e2]
      have := rnS_go hs e2
      have := tvS_b z tx s
      dsimp only
      split <;> omega
    · rw [if_neg e2]
      dsimp only
      split <;> omega
theorem p_passNumber {n : Nat} (hn : 1000 ≤ n) {z : Nat} {tx : Nat → Int} (h : okT z tx) {s : Nat} (hs : s < z) : F_X9_passNumber n z s tx = some (tvS z tx s, ((rnS qF tx (z - s) s : Nat) : Int)) := by
  have hz := h.1
  have l := p_passNumber1 (n := n) h (z - s) s 0 n 0 (by omega) (by omega) (by omega) (by omega)
  have b := rnS_b qF tx (z - s) s
  have a := p_letterAt (n := n) hz tx (i := s) (by omega)
  have la : la_ z tx s = tx s := if_pos hs
  have bx := h.2 s hs
  rw [la] at a
  unfold tvS
  generalize rnS qF tx (z - s) s = e at l b ⊢
  refine (bd_of l).trans ((bd_of a).trans ?_)
  by_cases c : tx s = 48 ∧ s + 1 < e
  · rw [if_pos c]
    exact (bd_of (a := (1 : Int)) ((ck_pos (by omega)).trans ((if_pos c.1).trans ((ck_pos (show r4 ((e : Int) - (s : Int)) by omega)).trans (if_pos (show (1 : Int) < (e : Int) - (s : Int) by omega)))))).trans ((bd_of (a := (100 : Int)) ((ck_pos (by decide)).trans (if_neg (by decide)))).trans rfl)
  · rw [if_neg c]
    refine (bd_of (a := (0 : Int)) ((ck_pos (by omega)).trans ?_)).trans ((bd_of (a := nvS tx (z - s) s 0) ((ck_pos (by decide)).trans (if_pos rfl))).trans rfl)
    by_cases c1 : tx s = 48
    · exact (if_pos c1).trans ((ck_pos (show r4 ((e : Int) - (s : Int)) by omega)).trans (if_neg (show ¬ (1 : Int) < (e : Int) - (s : Int) by omega)))
    · exact if_neg c1
theorem p_cutToken {n : Nat} (hn : 1000 ≤ n) {z : Nat} {tx : Nat → Int} (h : okT z tx) {s t : Nat} (hs : s < z) (ht : t < 120) (st va ki : Nat → Int) : ∃ va', F_X9_cutToken n z s tx st va ki t = some (((tkS z tx s).1 : Int), up_ st t s, va', up_ ki t (tkS z tx s).2.1) ∧ va' t = (tkS z tx s).2.2 ∧ ∀ u, u ≠ t → va' u = va u := by
  have hz := h.1
  have a := p_letterAt (n := n) hz tx (i := s) (by omega)
  have la : la_ z tx s = tx s := if_pos hs
  have bx := h.2 s hs
  rw [la] at a
  have tt : ((t : Int)).toNat = t := by omega
  have sm := p_isSmall (n := n) (x := tx s) (by omega)
  have fg := p_isFigure (n := n) (x := tx s) (by omega)
  unfold tkS F_X9_cutToken
  rw [tt]
  by_cases e1 : qL (tx s) = true
  · rw [if_pos e1] at sm
    rw [if_pos e1]
    refine ⟨up_ va t 0, ?_, up_at _ _ _, fun u hu => up_off hu⟩
    exact (bd_of a).trans ((ck_pos (by omega)).trans ((ck_pos (by omega)).trans ((bd_of sm).trans ((bd_of (a := (((rnS qL tx (z - s) s : Nat) : Int), up_ va t 0, up_ ki t (wkS tx s (rnS qL tx (z - s) s)))) ((ck_pos (by decide)).trans ((if_neg (by decide)).trans ((bd_of (p_passWordC hn h (by omega))).trans (ck_pos (by omega)))))).trans rfl))))
  · rw [if_neg e1] at sm
    rw [if_neg e1]
    by_cases e2 : qF (tx s) = true
    · rw [if_pos e2] at fg
      rw [if_pos e2]
      have tb := tvS_b z tx s
      refine ⟨up_ (up_ va t 0) t (tvS z tx s), ?_, up_at _ _ _, fun u hu => by rw [up_off hu, up_off hu]⟩
      refine (bd_of a).trans ((ck_pos (by omega)).trans ((ck_pos (by omega)).trans ((bd_of sm).trans ((bd_of (a := (((rnS qF tx (z - s) s : Nat) : Int), up_ (up_ va t 0) t (tvS z tx s), up_ ki t (if tvS z tx s < 100 then 4 else 6))) ?_).trans rfl))))
      refine (ck_pos (by decide)).trans ((if_pos rfl).trans ((bd_of fg).trans ((ck_pos (by decide)).trans ((if_neg (by decide)).trans ((bd_of (p_passNumber hn h hs)).trans ((ck_pos (by omega)).trans ((ck_pos (by omega)).trans ((bd_of (a := if tvS z tx s < 100 then (4 : Int) else 6) ?_).trans (ck_pos (by omega))))))))))
      rw [up_at]
      refine (ck_pos (by omega)).trans ?_
      by_cases c : tvS z tx s < 100
      · rw [if_pos c, if_pos c]
      · rw [if_neg c, if_neg c]
    · rw [if_neg e2] at fg
      rw [if_neg e2]
      refine ⟨up_ va t 0, ?_, up_at _ _ _, fun u hu => up_off hu⟩
      refine (bd_of a).trans ((ck_pos (by omega)).trans ((ck_pos (by omega)).trans ((bd_of sm).trans ((bd_of (a := ((s : Int) + 1, up_ va t 0, up_ ki t (if tx s = 59 then 5 else 6))) ?_).trans rfl))))
      refine (ck_pos (by decide)).trans ((if_pos rfl).trans ((bd_of fg).trans ((ck_pos (by decide)).trans ((if_pos rfl).trans ((bd_of (a := if tx s = 59 then (5 : Int) else 6) ?_).trans (ck_pos (by omega)))))))
      refine (ck_pos (by omega)).trans ?_
      by_cases c : tx s = 59
      · rw [if_pos c, if_pos c]
      · rw [if_neg c, if_neg c]
