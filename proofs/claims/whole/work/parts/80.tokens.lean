/-! letters -/
def la_ (z : Nat) (tx : Nat → Int) (i : Nat) : Int := if i < z then tx i else -1
def qS (x : Int) : Bool := decide (x = 32)
def qL (x : Int) : Bool := decide (97 ≤ x ∧ x ≤ 122)
def qF (x : Int) : Bool := decide (48 ≤ x ∧ x ≤ 57)
theorem p_letterAt {n z : Nat} (hz : z ≤ 120) (tx : Nat → Int) {i : Nat} (hi : i < 2000) : F_X9_letterAt n z tx i = some (la_ z tx i) := by
  have ti : ((i : Int)).toNat = i := by omega
  unfold F_X9_letterAt la_
  rw [ti]
  by_cases e : i < z
  · rw [if_pos e]
    exact (bd_of (a := tx i) ((ck_pos (by omega)).trans ((if_neg (by omega)).trans ((ck_pos (by omega)).trans ((if_pos (by omega)).trans ((ck_pos (by omega)).trans ((if_pos (by omega)).trans (ck_pos (by omega))))))))).trans rfl
  · rw [if_neg e]
    exact (bd_of (a := (-1 : Int)) ((ck_pos (by omega)).trans ((if_neg (by omega)).trans ((ck_pos (by omega)).trans (if_neg (by omega)))))).trans rfl
theorem p_isSmall {n : Nat} {x : Int} (h : r4 x) : F_X9_isSmall n x = some (if qL x then 1 else 0) := by
  by_cases e : 97 ≤ x ∧ x ≤ 122
  · have q : qL x = true := decide_eq_true e
    rw [q, if_pos rfl]
    exact (bd_of (a := (1 : Int)) ((ck_pos h).trans ((if_neg (by omega)).trans ((ck_pos h).trans (if_neg (by omega)))))).trans (ck_pos (by omega))
  · have q : qL x = false := decide_eq_false e
    rw [q, if_neg (by decide)]
    refine (bd_of (a := (0 : Int)) ((ck_pos h).trans ?_)).trans (ck_pos (by omega))
    by_cases e2 : x < 97
    · exact if_pos e2
    · exact (if_neg e2).trans ((ck_pos h).trans (if_pos (by omega)))
theorem p_isFigure {n : Nat} {x : Int} (h : r4 x) : F_X9_isFigure n x = some (if qF x then 1 else 0) := by
  by_cases e : 48 ≤ x ∧ x ≤ 57
  · have q : qF x = true := decide_eq_true e
    rw [q, if_pos rfl]
    exact (bd_of (a := (1 : Int)) ((ck_pos h).trans ((if_neg (by omega)).trans ((ck_pos h).trans (if_neg (by omega)))))).trans (ck_pos (by omega))
  · have q : qF x = false := decide_eq_false e
    rw [q, if_neg (by decide)]
    refine (bd_of (a := (0 : Int)) ((ck_pos h).trans ?_)).trans (ck_pos (by omega))
    by_cases e2 : x < 48
    · exact if_pos e2
    · exact (if_neg e2).trans ((ck_pos h).trans (if_pos (by omega)))
theorem p_in {n : Nat} {x a b : Int} (h : r4 x) (ha : r4 a) (hb : r4 b) : F_X12_in n x a b = some (if a ≤ x ∧ x ≤ b then 1 else 0) := by
  by_cases e : a ≤ x ∧ x ≤ b
  · rw [if_pos e]
    exact (bd_of (a := (1 : Int)) ((ck_pos ⟨h, ha⟩).trans ((if_neg (by omega)).trans ((ck_pos ⟨h, hb⟩).trans (if_neg (by omega)))))).trans (ck_pos (by omega))
  · rw [if_neg e]
    refine (bd_of (a := (0 : Int)) ((ck_pos ⟨h, ha⟩).trans ?_)).trans (ck_pos (by omega))
    by_cases e2 : x < a
    · exact if_pos e2
    · exact (if_neg e2).trans ((ck_pos ⟨h, hb⟩).trans (if_pos (by omega)))
theorem p_isLetterM {n : Nat} {x : Int} (h : r4 x) : F_X12_isLetter n x = some (if qL x then 1 else 0) := by
  have e : (if (97 : Int) ≤ x ∧ x ≤ 122 then (1 : Int) else 0) = if qL x then 1 else 0 := by
    by_cases e : 97 ≤ x ∧ x ≤ 122
    · rw [if_pos e, show qL x = true from decide_eq_true e, if_pos rfl]
    · rw [if_neg e, show qL x = false from decide_eq_false e, if_neg (by decide)]
  have := p_in (n := n) h (show r4 97 by decide) (show r4 122 by decide)
  rw [e] at this
  exact (bd_of this).trans (ck_pos (by split <;> omega))
theorem p_isFigureM {n : Nat} {x : Int} (h : r4 x) : F_X12_isFigure n x = some (if qF x then 1 else 0) := by
  have e : (if (48 : Int) ≤ x ∧ x ≤ 57 then (1 : Int) else 0) = if qF x then 1 else 0 := by
    by_cases e : 48 ≤ x ∧ x ≤ 57
    · rw [if_pos e, show qF x = true from decide_eq_true e, if_pos rfl]
    · rw [if_neg e, show qF x = false from decide_eq_false e, if_neg (by decide)]
  have := p_in (n := n) h (show r4 48 by decide) (show r4 57 by decide)
  rw [e] at this
  exact (bd_of this).trans (ck_pos (by split <;> omega))
/-- where a row of letters ends -/
def rnS (q : Int → Bool) (tx : Nat → Int) : Nat → Nat → Nat
  | 0, i => i
  | d + 1, i => if q (tx i) then rnS q tx d (i + 1) else i
theorem rnS_b (q : Int → Bool) (tx : Nat → Int) : ∀ d i, i ≤ rnS q tx d i ∧ rnS q tx d i ≤ i + d := by
  intro d
  induction d with
  | zero => intro i; exact ⟨Nat.le_refl i, Nat.le_refl i⟩
  | succ d ih =>
    intro i
    have := ih (i + 1)
    show i ≤ (if q (tx i) then rnS q tx d (i + 1) else i) ∧ (if q (tx i) then rnS q tx d (i + 1) else i) ≤ i + (d + 1)
    split <;> omega
theorem lp_rn {f : Int → Option (Int ⊕ Int)} {q : Int → Bool} {tx : Nat → Int} {z : Nat} (h1 : ∀ i : Nat, i < z → f (i : Int) = some (if q (tx i) then .inl ((i : Int) + 1) else .inr (i : Int))) (h2 : f (z : Int) = some (.inr (z : Int))) : ∀ d i n, i + d = z → d < n → lp_ f n (i : Int) = some ((rnS q tx d i : Nat) : Int) := by
  intro d
  induction d with
  | zero =>
    intro i n h3 h4
    obtain ⟨n, rfl⟩ : ∃ k, n = k + 1 := ⟨n - 1, by omega⟩
    have : i = z := by omega
    subst this
    exact lp_end h2
  | succ d ih =>
    intro i n h3 h4
    obtain ⟨n, rfl⟩ : ∃ k, n = k + 1 := ⟨n - 1, by omega⟩
    have a := h1 i (by omega)
    show lp_ f (n + 1) (i : Int) = some ((if q (tx i) then rnS q tx d (i + 1) else i : Nat) : Int)
    by_cases e : q (tx i) = true
    · rw [if_pos e] at a ⊢
      rw [lp_go a]
      have := ih (i + 1) n (by omega) (by omega)
      rw [show ((i + 1 : Nat) : Int) = (i : Int) + 1 by omega] at this
      exact this
    · rw [if_neg e] at a ⊢
      exact lp_end a
/-- a number's value, 100 if it is too large -/
def nvS (tx : Nat → Int) : Nat → Nat → Int → Int
  | 0, _, v => v
  | d + 1, i, v => if qF (tx i) then nvS tx d (i + 1) (min 100 (v * 10 + tx i - 48)) else v
theorem qF_b {x : Int} (h : qF x = true) : 48 ≤ x ∧ x ≤ 57 := of_decide_eq_true h
theorem nvS_b (tx : Nat → Int) : ∀ d i v, 0 ≤ v ∧ v ≤ 100 → 0 ≤ nvS tx d i v ∧ nvS tx d i v ≤ 100 := by
  intro d
  induction d with
  | zero => intro i v h; exact h
  | succ d ih =>
    intro i v h
    show 0 ≤ (if qF (tx i) then nvS tx d (i + 1) (min 100 (v * 10 + tx i - 48)) else v) ∧ (if qF (tx i) then nvS tx d (i + 1) (min 100 (v * 10 + tx i - 48)) else v) ≤ 100
    by_cases e : qF (tx i) = true
    · have := qF_b e
      rw [if_pos e]
      exact ih (i + 1) _ (by omega)
    · rw [if_neg e]; exact h
def okT (z : Nat) (tx : Nat → Int) : Prop := z ≤ 120 ∧ ∀ i, i < z → 0 ≤ tx i ∧ tx i ≤ 255
theorem la_r {z : Nat} {tx : Nat → Int} (h : okT z tx) (i : Nat) : r4 (la_ z tx i) := by
  unfold la_
  split
  · rename_i e
    have := h.2 i e
    omega
  · omega
/-! the component's rows of letters -/
theorem p_passWord {n : Nat} {z : Nat} {tx : Nat → Int} (h : okT z tx) : ∀ d i c m, i + d = z → c ≤ i → d < m → lp_ (fun (q : Int × Int) => F_X9_passWord_L7 n z tx q.1 q.2) m ((c : Int), (i : Int)) = some ((rnS qL tx d i : Nat) : Int) := by
  have hz := h.1
  intro d
  induction d with
  | zero =>
    intro i c m h1 h2 h3
    obtain ⟨m, rfl⟩ : ∃ k, m = k + 1 := ⟨m - 1, by omega⟩
    have st : F_X9_passWord_L7 n z tx (c : Int) (i : Int) = some (.inr (i : Int)) := by
      refine (ck_pos (by omega)).trans ?_
      by_cases e : (c : Int) < 120
      · have l : la_ z tx i = -1 := if_neg (by omega)
        have s := p_isSmall (n := n) (x := -1) (by decide)
        rw [show qL (-1) = false from rfl, if_neg (by decide)] at s
        refine (if_pos e).trans ((bd_of (p_letterAt hz tx (by omega))).trans ?_)
        rw [l]
        exact (bd_of s).trans ((ck_pos (by decide)).trans (if_pos rfl))
      · exact if_neg e
    exact lp_end st
  | succ d ih =>
    intro i c m h1 h2 h3
    obtain ⟨m, rfl⟩ : ∃ k, m = k + 1 := ⟨m - 1, by omega⟩
    have l : la_ z tx i = tx i := if_pos (by omega)
    have b := h.2 i (by omega)
    have s := p_isSmall (n := n) (x := tx i) (by omega)
    show _ = some ((if qL (tx i) then rnS qL tx d (i + 1) else i : Nat) : Int)
    by_cases e : qL (tx i) = true
    · rw [if_pos e] at s ⊢
      have st : F_X9_passWord_L7 n z tx (c : Int) (i : Int) = some (.inl ((c : Int) + 1, (i : Int) + 1)) := by
        refine (ck_pos (by omega)).trans ((if_pos (by omega)).trans ((bd_of (p_letterAt hz tx (by omega))).trans ?_))
        rw [l]
        exact (bd_of s).trans ((ck_pos (by decide)).trans (if_neg (by decide)))
      have g : lp_ (fun (q : Int × Int) => F_X9_passWord_L7 n z tx q.1 q.2) (m + 1) ((c : Int), (i : Int)) = lp_ (fun (q : Int × Int) => F_X9_passWord_L7 n z tx q.1 q.2) m ((c : Int) + 1, (i : Int) + 1) := lp_go st
      rw [g]
      exact ih (i + 1) (c + 1) m (by omega) (by omega) (by omega)
    · rw [if_neg e] at s ⊢
      have st : F_X9_passWord_L7 n z tx (c : Int) (i : Int) = some (.inr (i : Int)) := by
        refine (ck_pos (by omega)).trans ((if_pos (by omega)).trans ((bd_of (p_letterAt hz tx (by omega))).trans ?_))
        rw [l]
        exact (bd_of s).trans ((ck_pos (by decide)).trans (if_pos rfl))
      exact lp_end st
theorem p_passNumber1 {n : Nat} {z : Nat} {tx : Nat → Int} (h : okT z tx) : ∀ d i c m v, i + d = z → c ≤ i → d < m → 0 ≤ v ∧ v ≤ 100 → lp_ (fun (q : Int × Int × Int) => F_X9_passNumber_L9 n z tx q.1 q.2.1 q.2.2) m (v, (c : Int), (i : Int)) = some (nvS tx d i v, ((rnS qF tx d i : Nat) : Int)) := by
  have hz := h.1
  intro d
  induction d with
  | zero =>
    intro i c m v h1 h2 h3 hv
    obtain ⟨m, rfl⟩ : ∃ k, m = k + 1 := ⟨m - 1, by omega⟩
    have st : F_X9_passNumber_L9 n z tx v (c : Int) (i : Int) = some (.inr (v, (i : Int))) := by
      refine (ck_pos (by omega)).trans ?_
      by_cases e : (c : Int) < 120
      · have l : la_ z tx i = -1 := if_neg (by omega)
        have s := p_isFigure (n := n) (x := -1) (by decide)
        rw [show qF (-1) = false from rfl, if_neg (by decide)] at s
        refine (if_pos e).trans ((bd_of (p_letterAt hz tx (by omega))).trans ?_)
        rw [l]
        exact (bd_of s).trans ((ck_pos (by decide)).trans (if_pos rfl))
      · exact if_neg e
    exact lp_end st
  | succ d ih =>
    intro i c m v h1 h2 h3 hv
    obtain ⟨m, rfl⟩ : ∃ k, m = k + 1 := ⟨m - 1, by omega⟩
    have l : la_ z tx i = tx i := if_pos (by omega)
    have b := h.2 i (by omega)
    have s := p_isFigure (n := n) (x := tx i) (by omega)
    show _ = some ((if qF (tx i) then nvS tx d (i + 1) (min 100 (v * 10 + tx i - 48)) else v), ((if qF (tx i) then rnS qF tx d (i + 1) else i : Nat) : Int))
    by_cases e : qF (tx i) = true
    · have fb := qF_b e
      rw [if_pos e] at s
      rw [if_pos e, if_pos e]
      have st : F_X9_passNumber_L9 n z tx v (c : Int) (i : Int) = some (.inl (min 100 (v * 10 + tx i - 48), (c : Int) + 1, (i : Int) + 1)) := by
        refine (ck_pos (by omega)).trans ((if_pos (by omega)).trans ((bd_of (p_letterAt hz tx (by omega))).trans ?_))
        rw [l]
        refine (bd_of s).trans ((ck_pos (by decide)).trans ((if_neg (by decide)).trans ((bd_of (p_letterAt hz tx (by omega))).trans ?_)))
        rw [l]
        exact ck_pos (by omega)
      have g : lp_ (fun (q : Int × Int × Int) => F_X9_passNumber_L9 n z tx q.1 q.2.1 q.2.2) (m + 1) (v, (c : Int), (i : Int)) = lp_ (fun (q : Int × Int × Int) => F_X9_passNumber_L9 n z tx q.1 q.2.1 q.2.2) m (min 100 (v * 10 + tx i - 48), (c : Int) + 1, (i : Int) + 1) := lp_go st
      rw [g]
      exact ih (i + 1) (c + 1) m _ (by omega) (by omega) (by omega) (by omega)
    · rw [if_neg e] at s
      rw [if_neg e, if_neg e]
      have st : F_X9_passNumber_L9 n z tx v (c : Int) (i : Int) = some (.inr (v, (i : Int))) := by
        refine (ck_pos (by omega)).trans ((if_pos (by omega)).trans ((bd_of (p_letterAt hz tx (by omega))).trans ?_))
        rw [l]
        exact (bd_of s).trans ((ck_pos (by decide)).trans (if_pos rfl))
      exact lp_end st
