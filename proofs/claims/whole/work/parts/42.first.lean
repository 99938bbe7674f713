def F_X4_becomeFirst (n : Nat)  (t_chances : Nat → Int)  : Option (Int × Int × Int × (Nat → Int)) :=
  some (0, 1, 4, cp_ fc_ t_chances 0 0 5)
def rm_X4_becomeFirst : Room := { frames := 1, cells := 0, slots := 0, locals := 48 }
set_option maxHeartbeats 4000000 in
set_option maxRecDepth 100000 in
theorem k_X4_becomeFirst {l : Launch} {D : va_G} {E : Nat → ClassId} {B : Nat} {Z : ZT} (n : Nat) (a_t a_t_least a_t_of a_t_set a_t_chances : Nat) (t_rules : Int) (t_slack : Int) (t_limit : Int) (t_chances : Nat → Int) (res : Int × Int × Int × (Nat → Int)) (hf : F_X4_becomeFirst n t_chances = some res) : MWs l yX4_becomeFirst (.code yX4_becomeFirst cX4_becomeFirst 1 none) rm_X4_becomeFirst D E B Z [.ref a_t] [(a_t, .inr (4, [.int (z4 t_rules), .ref a_t_least, .ref a_t_of, .ref a_t_set, .ref a_t_chances, .int (z4 t_slack), .int (z4 t_limit)])), (a_t_chances, .inl (E 0, 5, .inl (A4 t_chances)))] none [(a_t, .inr (4, [.int (z4 res.1), .ref a_t_least, .ref a_t_of, .ref a_t_set, .ref a_t_chances, .int (z4 res.2.1), .int (z4 res.2.2.1)])), (a_t_chances, .inl (E 0, 5, .inl (A4 res.2.2.2)))] := by
  refine MWvs (by decide +kernel) (Nat.le_of_ble_eq_true rfl) ?_
  intro p e s m args below meth c A Q X hK hF hP hD hA hAB ret ls hl
  have hS : va_S A s.heap s.heap [] := va_S.rf
  have hx := X.1
  have hb := X.2.1
  have hl : lv_has ls 1 [(0, .ref a_t)] := hl
  unfold F_X4_becomeFirst at hf
  refine lv_aload_n hx hb dX4_becomeFirst_0 rfl (lv_at hl 0 rfl) ?_
  refine m_iconst X dX4_becomeFirst_1 ?_
  refine m_put X hK hP hD hS cl_X4 iT_X4 tyX4 tyX4_ok nmX4 0 (by decide) fl_X4_27 rfl 0 rfl rfl rfl (Nat.le_of_ble_eq_true rfl) [(a_t, .inr (4, [.int (z4 0), .ref a_t_least, .ref a_t_of, .ref a_t_set, .ref a_t_chances, .int (z4 t_slack), .int (z4 t_limit)])), (a_t_chances, .inl (E 0, 5, .inl (A4 t_chances)))] rfl dX4_becomeFirst_2 (fun H locs hP hD hS => ?_)
  refine m_getsN X hF hAB hS hF.2.2.2.2.2.2.2.2.1 dX4_becomeFirst_5 ?_
  refine m_iconst X dX4_becomeFirst_8 ?_
  refine lv_aload_n hx hb dX4_becomeFirst_9 rfl (lv_at hl 0 rfl) ?_
  refine m_get X hK hP cl_X4 iT_X4 4 (by decide) fl_X4_21 0 rfl rfl dX4_becomeFirst_10 ?_
  refine m_iconst X dX4_becomeFirst_13 ?_
  refine m_iconst X dX4_becomeFirst_14 ?_
  refine m_copyT X ml_X4_34 nv_arraycopy st_arraycopy in_System hl.1 hK hF hAB hP hD hS 1 rfl (Nat.le_of_ble_eq_true rfl) (by decide +kernel) [(a_t, .inr (4, [.int (z4 0), .ref a_t_least, .ref a_t_of, .ref a_t_set, .ref a_t_chances, .int (z4 t_slack), .int (z4 t_limit)])), (a_t_chances, .inl (E 0, 5, .inl (A4 (cp_ fc_ t_chances 0 0 5))))] rfl dX4_becomeFirst_15 (fun H locs hP hD hS => ?_)
  refine lv_aload_n hx hb dX4_becomeFirst_18 rfl (lv_at hl 0 rfl) ?_
  refine m_iconst X dX4_becomeFirst_19 ?_
  refine m_put X hK hP hD hS cl_X4 iT_X4 tyX4 tyX4_ok nmX4 5 (by decide) fl_X4_40 rfl 0 rfl rfl rfl (Nat.le_of_ble_eq_true rfl) [(a_t, .inr (4, [.int (z4 0), .ref a_t_least, .ref a_t_of, .ref a_t_set, .ref a_t_chances, .int (z4 1), .int (z4 t_limit)])), (a_t_chances, .inl (E 0, 5, .inl (A4 (cp_ fc_ t_chances 0 0 5))))] rfl dX4_becomeFirst_20 (fun H locs hP hD hS => ?_)
  refine lv_aload_n hx hb dX4_becomeFirst_23 rfl (lv_at hl 0 rfl) ?_
  refine m_iconst X dX4_becomeFirst_24 ?_
  refine m_put X hK hP hD hS cl_X4 iT_X4 tyX4 tyX4_ok nmX4 6 (by decide) fl_X4_43 rfl 0 rfl rfl rfl (Nat.le_of_ble_eq_true rfl) [(a_t, .inr (4, [.int (z4 0), .ref a_t_least, .ref a_t_of, .ref a_t_set, .ref a_t_chances, .int (z4 1), .int (z4 4)])), (a_t_chances, .inl (E 0, 5, .inl (A4 (cp_ fc_ t_chances 0 0 5))))] rfl dX4_becomeFirst_25 (fun H locs hP hD hS => ?_)
  obtain rfl := Option.some.inj hf
  exact ret _ _ _ _ hP hD hS dX4_becomeFirst_28
