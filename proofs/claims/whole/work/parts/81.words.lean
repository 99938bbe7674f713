/-! words -/
abbrev isR (tx : Nat → Int) (s : Nat) : Prop := tx s = 114 ∧ tx (s + 1) = 117 ∧ tx (s + 2) = 108 ∧ tx (s + 3) = 101
abbrev isU (tx : Nat → Int) (s : Nat) : Prop := tx s = 115 ∧ tx (s + 1) = 117 ∧ tx (s + 2) = 109 ∧ tx (s + 3) = 115
abbrev isC (tx : Nat → Int) (s : Nat) : Prop := tx s = 99 ∧ tx (s + 1) = 104 ∧ tx (s + 2) = 97 ∧ tx (s + 3) = 110 ∧ tx (s + 4) = 99 ∧ tx (s + 5) = 101
def wkS (tx : Nat → Int) (s e : Nat) : Int := if e = s + 4 ∧ isR tx s then 1 else if e = s + 6 ∧ isC tx s then 2 else if e = s + 4 ∧ isU tx s then 3 else 6
theorem p_isWordC {n : Nat} (hn : 1000 ≤ n) {z : Nat} {tx : Nat → Int} (h : okT z tx) {w : Nat} {len : Nat} (hl : lenJ.getD w 0 = len) (hlen : len ≤ 6) (hr : ∀ i, i < len → r4 (chI w i)) {s e : Nat} (he : e ≤ z) (hs : s ≤ e) : ∃ b : Int, F_X9_isWord n w z e tx s = some b ∧ (b = 0 ∨ b = 1) ∧ (b = 1 ↔ e = s + len ∧ ∀ i, i < len → tx (s + i) = chI w i) := by
  have hz := h.1
  unfold F_X9_isWord
  rw [hl]
  by_cases el : e = s + len
  · obtain ⟨o, h1, h2⟩ := lp_rule (f := fun (q : Int) => F_X9_isWord_L17 n w z tx s q) (fun i q => q = (i : Int) ∧ ∀ j, j < i → tx (s + j) = chI w j)
      (fun o => o = .inl () ∧ (∀ i, i < len → tx (s + i) = chI w i) ∨ o = .inr () ∧ ¬ ∀ i, i < len → tx (s + i) = chI w i) (N := len) (n := n) (s := 0) (by omega) ⟨rfl, fun j hj => by omega⟩ (fun i q hI hi => by
      obtain ⟨rfl, c1⟩ := hI
      unfold F_X9_isWord_L17
      rw [hl]
      by_cases hlt : i < len
      · have ti : ((i : Int)).toNat = i := by omega
        have l := p_letterAt (n := n) hz tx (i := s + i) (by omega)
        have l2 : la_ z tx (s + i) = tx (s + i) := if_pos (by omega)
        rw [l2, show ((s + i : Nat) : Int) = (s : Int) + (i : Int) by omega] at l
        have b := h.2 (s + i) (by omega)
        have cr := hr i hlt
        by_cases ec : tx (s + i) = chI w i
        · left
          refine ⟨(i : Int) + 1, ?_, ⟨by omega, fun j hj => ?_⟩, hlt⟩
          · refine (ck_pos (by omega)).trans ((if_pos (by omega)).trans ((bd_of l).trans ((ck_pos (by omega)).trans ?_)))
            rw [ti]
            exact (ck_pos ⟨by omega, cr⟩).trans (if_pos ec)
          · by_cases ej : j = i
            · rw [ej]; exact ec
            · exact c1 j (by omega)
        · right
          refine ⟨.inr (), ?_, Or.inr ⟨rfl, fun x => ec (x i hlt)⟩⟩
          refine (ck_pos (by omega)).trans ((if_pos (by omega)).trans ((bd_of l).trans ((ck_pos (by omega)).trans ?_)))
          rw [ti]
          exact (ck_pos ⟨by omega, cr⟩).trans (if_neg ec)
      · right
        have : i = len := by omega
        subst this
        exact ⟨.inl (), (ck_pos (by omega)).trans (if_neg (by omega)), Or.inl ⟨rfl, c1⟩⟩)
    rcases h2 with ⟨rfl, h2⟩ | ⟨rfl, h2⟩
    · exact ⟨1, (ck_pos (by omega)).trans ((if_pos (by omega)).trans ((bd_of h1).trans rfl)), by omega, fun _ => ⟨el, h2⟩, fun _ => rfl⟩
    · exact ⟨0, (ck_pos (by omega)).trans ((if_pos (by omega)).trans ((bd_of h1).trans rfl)), by omega, fun x => by omega, fun x => absurd x.2 h2⟩
  · exact ⟨0, (ck_pos (by omega)).trans (if_neg (by omega)), by omega, fun x => by omega, fun x => absurd x.1 el⟩
theorem w0 {tx : Nat → Int} {s : Nat} : (∀ i, i < 4 → tx (s + i) = chI 0 i) ↔ isR tx s := by
  constructor
  · intro h
    exact ⟨h 0 (by omega), h 1 (by omega), h 2 (by omega), h 3 (by omega)⟩
  · rintro ⟨a, b, c, d⟩ i hi
    rcases (show i = 0 ∨ i = 1 ∨ i = 2 ∨ i = 3 by omega) with rfl | rfl | rfl | rfl
    · exact a
    · exact b
    · exact c
    · exact d
theorem w2 {tx : Nat → Int} {s : Nat} : (∀ i, i < 4 → tx (s + i) = chI 2 i) ↔ isU tx s := by
  constructor
  · intro h
    exact ⟨h 0 (by omega), h 1 (by omega), h 2 (by omega), h 3 (by omega)⟩
  · rintro ⟨a, b, c, d⟩ i hi
    rcases (show i = 0 ∨ i = 1 ∨ i = 2 ∨ i = 3 by omega) with rfl | rfl | rfl | rfl
    · exact a
    · exact b
    · exact c
    · exact d
theorem w1 {tx : Nat → Int} {s : Nat} : (∀ i, i < 6 → tx (s + i) = chI 1 i) ↔ isC tx s := by
  constructor
  · intro h
    exact ⟨h 0 (by omega), h 1 (by omega), h 2 (by omega), h 3 (by omega), h 4 (by omega), h 5 (by omega)⟩
  · rintro ⟨a, b, c, d, e, f⟩ i hi
    rcases (show i = 0 ∨ i = 1 ∨ i = 2 ∨ i = 3 ∨ i = 4 ∨ i = 5 by omega) with rfl | rfl | rfl | rfl | rfl | rfl
    · exact a
    · exact b
    · exact c
    · exact d
    · exact e
    · exact f
theorem ch_r : ∀ w i, w < 3 → i < 6 → r4 (chI w i) := by
  intro w i hw hi
  rcases (show w = 0 ∨ w = 1 ∨ w = 2 by omega) with rfl | rfl | rfl <;> rcases (show i = 0 ∨ i = 1 ∨ i = 2 ∨ i = 3 ∨ i = 4 ∨ i = 5 by omega) with rfl | rfl | rfl | rfl | rfl | rfl <;> decide
theorem p_passWordC {n : Nat} (hn : 1000 ≤ n) {z : Nat} {tx : Nat → Int} (h : okT z tx) {s : Nat} (hs : s ≤ z) : F_X9_passWord n z s tx = some (wkS tx s (rnS qL tx (z - s) s), ((rnS qL tx (z - s) s : Nat) : Int)) := by
  have hz := h.1
  have l := p_passWord (n := n) h (z - s) s 0 n (by omega) (by omega) (by omega)
  have b := rnS_b qL tx (z - s) s
  generalize rnS qL tx (z - s) s = e at l b ⊢
  obtain ⟨b0, x1, x2, x3⟩ := p_isWordC hn h (w := 0) (len := 4) rfl (by omega) (fun i hi => ch_r 0 i (by omega) (by omega)) (s := s) (e := e) (by omega) (by omega)
  obtain ⟨b1, y1, y2, y3⟩ := p_isWordC hn h (w := 1) (len := 6) rfl (by omega) (fun i hi => ch_r 1 i (by omega) (by omega)) (s := s) (e := e) (by omega) (by omega)
  obtain ⟨b2, z1, z2, z3⟩ := p_isWordC hn h (w := 2) (len := 4) rfl (by omega) (fun i hi => ch_r 2 i (by omega) (by omega)) (s := s) (e := e) (by omega) (by omega)
  rw [w0] at x3
  rw [w1] at y3
  rw [w2] at z3
  unfold wkS
  refine (bd_of l).trans ((bd_of x1).trans ((ck_pos (by omega)).trans ?_))
  by_cases e0 : b0 = 0
  · rw [if_neg (c := e = s + 4 ∧ isR tx s) (fun x => by have := x3.mpr x; omega)]
    refine (if_pos e0).trans ((bd_of y1).trans ((ck_pos (by omega)).trans ?_))
    by_cases e1 : b1 = 0
    · rw [if_neg (c := e = s + 6 ∧ isC tx s) (fun x => by have := y3.mpr x; omega)]
      refine (if_pos e1).trans ((bd_of z1).trans ?_)
      by_cases e2 : b2 = 0
      · rw [if_neg (c := e = s + 4 ∧ isU tx s) (fun x => by have := z3.mpr x; omega)]
        exact (bd_of (a := (6 : Int)) ((ck_pos (by omega)).trans (if_pos e2))).trans rfl
      · rw [if_pos (c := e = s + 4 ∧ isU tx s) (z3.mp (by omega))]
        exact (bd_of (a := (3 : Int)) ((ck_pos (by omega)).trans (if_neg e2))).trans rfl
    · rw [if_pos (c := e = s + 6 ∧ isC tx s) (y3.mp (by omega))]
      exact if_neg e1
  · rw [if_pos (c := e = s + 4 ∧ isR tx s) (x3.mp (by omega))]
    exact if_neg e0
