/-! second guards of indexes -/
theorem p_past1 {n : Nat} {x : Int} (h : 0 ≤ x ∧ x < 64) : F_X11_isPast n x = some 1 := by
  unfold F_X11_isPast
  exact (bd_of (a := 1) ((ck_pos (by omega)).trans ((if_neg (by omega)).trans ((ck_pos (by omega)).trans (if_pos (by omega)))))).trans (ck_pos (by omega))
theorem p_past0 {n : Nat} {x : Int} (hr : r4 x) (h : x < 0 ∨ 64 ≤ x) : F_X11_isPast n x = some 0 := by
  unfold F_X11_isPast
  by_cases h0 : x < 0
  · exact (bd_of (a := 0) ((ck_pos hr).trans (if_pos h0))).trans (ck_pos (by omega))
  · exact (bd_of (a := 0) ((ck_pos hr).trans ((if_neg h0).trans ((ck_pos hr).trans (if_neg (by omega)))))).trans (ck_pos (by omega))
theorem p_sign1 {n : Nat} {x : Int} (h : 0 ≤ x ∧ x < 5) : F_X11_isSign n x = some 1 := by
  unfold F_X11_isSign
  exact (bd_of (a := 1) ((ck_pos (by omega)).trans ((if_neg (by omega)).trans ((ck_pos (by omega)).trans (if_pos (by omega)))))).trans (ck_pos (by omega))
/-- a guard that holds, that does not -/
theorem bdck1 {α : Type} {x : Option Int} {a b : Option α} (h : x = some 1) : (x.bind fun o => ck (r4 o) (if o = 0 then a else b)) = b := (bd_of h).trans ((ck_pos (by decide)).trans (if_neg (by decide)))
theorem bdck0 {α : Type} {x : Option Int} {a b : Option α} (h : x = some 0) : (x.bind fun o => ck (r4 o) (if o = 0 then a else b)) = a := (bd_of h).trans ((ck_pos (by decide)).trans (if_pos rfl))
theorem p_awayI {n : Nat} {aw : Nat → Int} {x : Int} (h : 0 ≤ x ∧ x < 64) : F_X1_awayFrom n aw x = some (aw x.toNat) := by
  unfold F_X1_awayFrom
  exact (bd_of (p_past1 h)).trans ((bd_of (a := aw x.toNat) ((ck_pos (by omega)).trans ((if_neg (by omega)).trans (ck_pos (by omega))))).trans rfl)
theorem p_awayN {n : Nat} {aw : Nat → Int} {t : Nat} (h : t < 64) : F_X1_awayFrom n aw (t : Int) = some (aw t) := by
  have := p_awayI (n := n) (aw := aw) (x := (t : Int)) (by omega)
  rw [Int.toNat_natCast] at this
  exact this
theorem e_stateOf {n : Nat} {S x : Int} {pt sp ps : Nat → Int} (hx : 0 ≤ x ∧ x < 64) (hp : 0 ≤ pt x.toNat ∧ pt x.toNat < 64) : F_X1_stateOf n S pt sp ps x =
    (Option.bind (α := Int × (Nat → Int) × (Nat → Int)) (
      ck (r4 (sp (pt x.toNat).toNat)) <|
      if sp (pt x.toNat).toNat < 0 then
        ck (r4 S) <|
        if S < 64 then
          ck (ix_ (pt x.toNat) 64) <|
          ck (ix_ S 64) <|
          some (S + 1, up_ sp (pt x.toNat).toNat S, up_ ps S.toNat x)
        else
          some (S, sp, ps)
      else
        some (S, sp, ps)) fun o8 =>
    ck (ix_ (pt x.toNat) 64) <|
    some (o8.2.1 (pt x.toNat).toNat, o8.1, o8.2.1, o8.2.2)) := by
  unfold F_X1_stateOf
  exact (bd_of (p_past1 hx)).trans ((bd_of (a := pt x.toNat) ((ck_pos (by omega)).trans ((if_neg (by omega)).trans (ck_pos (by omega))))).trans ((bd_of (p_past1 hp)).trans ((ck_pos (by omega)).trans ((if_neg (by omega)).trans (ck_pos (by omega))))))
