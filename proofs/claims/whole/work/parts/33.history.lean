def F_X0_note (n : Nat)  (t_next : Int) (t_size : Int) (t_sheets_hs : Nat → TSh) (p1_plan_rules : Int) (p1_plan_slack : Int) (p1_plan_limit : Int) (p1_plan_least : Nat → Int) (p1_plan_of : Nat → Int) (p1_plan_set : Nat → Int) (p1_plan_chances : Nat → Int) (p1_rows_size : Int) (p1_rows_times : Nat → Int) (p1_rows_signs : Nat → Int)  : Option (Int × Int × (Nat → TSh)) :=
  (F_J9_floorMod_7cf53 n t_next 6).bind fun o1 =>
  ck (ix_ o1 6) <|
  ck (r4 (t_size + 1)) <|
  some (t_next + 1, min (t_size + 1) 6, up_ t_sheets_hs (o1).toNat (tk_ (t_sheets_hs (o1).toNat) ((p1_plan_rules, p1_plan_least, p1_plan_of, p1_plan_set, p1_plan_chances, p1_plan_slack, p1_plan_limit), (p1_rows_size, p1_rows_times, p1_rows_signs))))
def rm_X0_note : Room := { frames := 3, cells := 0, slots := 0, locals := 90 }
set_option maxHeartbeats 4000000 in
set_option maxRecDepth 100000 in
theorem k_X0_note {l : Launch} {D : va_G} {E : Nat → ClassId} (n : Nat) (a_t a_t_sheets a_p1 a_p1_plan a_p1_rows a_p1_plan_least a_p1_plan_of a_p1_plan_set a_p1_plan_chances a_p1_rows_times a_p1_rows_signs : Nat) (ad_ : Nat → Nat → Nat) (t_next : Int) (t_size : Int) (t_sheets_hs : Nat → TSh) (p1_plan_rules : Int) (p1_plan_slack : Int) (p1_plan_limit : Int) (p1_plan_least : Nat → Int) (p1_plan_of : Nat → Int) (p1_plan_set : Nat → Int) (p1_plan_chances : Nat → Int) (p1_rows_size : Int) (p1_rows_times : Nat → Int) (p1_rows_signs : Nat → Int) (res : Int × Int × (Nat → TSh)) (hf : F_X0_note n t_next t_size t_sheets_hs p1_plan_rules p1_plan_slack p1_plan_limit p1_plan_least p1_plan_of p1_plan_set p1_plan_chances p1_rows_size p1_rows_times p1_rows_signs = some res) : MW l yX0_note (.code yX0_note cX0_note 2 none) rm_X0_note D E [.ref a_t, .ref a_p1] ([(a_t, .inr (0, [.ref a_t_sheets, .int (z4 t_next), .int (z4 t_size)])), (a_t_sheets, .inl (E 3, 6, .inr (.inr (.inr (.inr (OS ad_)))))), (a_p1, .inr (7, [.ref a_p1_plan, .ref a_p1_rows])), (a_p1_plan, .inr (4, [.int (z4 p1_plan_rules), .ref a_p1_plan_least, .ref a_p1_plan_of, .ref a_p1_plan_set, .ref a_p1_plan_chances, .int (z4 p1_plan_slack), .int (z4 p1_plan_limit)])), (a_p1_plan_least, .inl (E 0, 3, .inl (A4 p1_plan_least))), (a_p1_plan_of, .inl (E 0, 3, .inl (A4 p1_plan_of))), (a_p1_plan_set, .inl (E 0, 3, .inl (A4 p1_plan_set))), (a_p1_plan_chances, .inl (E 0, 5, .inl (A4 p1_plan_chances))), (a_p1_rows, .inr (6, [.int (z4 p1_rows_size), .ref a_p1_rows_times, .ref a_p1_rows_signs])), (a_p1_rows_times, .inl (E 0, 40, .inl (A4 p1_rows_times))), (a_p1_rows_signs, .inl (E 0, 40, .inl (A4 p1_rows_signs)))] ++ wShs E ad_ 6 t_sheets_hs) none ([(a_t, .inr (0, [.ref a_t_sheets, .int (z4 res.1), .int (z4 res.2.1)])), (a_t_sheets, .inl (E 3, 6, .inr (.inr (.inr (.inr (OS ad_)))))), (a_p1, .inr (7, [.ref a_p1_plan, .ref a_p1_rows])), (a_p1_plan, .inr (4, [.int (z4 p1_plan_rules), .ref a_p1_plan_least, .ref a_p1_plan_of, .ref a_p1_plan_set, .ref a_p1_plan_chances, .int (z4 p1_plan_slack), .int (z4 p1_plan_limit)])), (a_p1_plan_least, .inl (E 0, 3, .inl (A4 p1_plan_least))), (a_p1_plan_of, .inl (E 0, 3, .inl (A4 p1_plan_of))), (a_p1_plan_set, .inl (E 0, 3, .inl (A4 p1_plan_set))), (a_p1_plan_chances, .inl (E 0, 5, .inl (A4 p1_plan_chances))), (a_p1_rows, .inr (6, [.int (z4 p1_rows_size), .ref a_p1_rows_times, .ref a_p1_rows_signs])), (a_p1_rows_times, .inl (E 0, 40, .inl (A4 p1_rows_times))), (a_p1_rows_signs, .inl (E 0, 40, .inl (A4 p1_rows_signs)))] ++ wShs E ad_ 6 res.2.2) := by
  refine MWv (by decide) (Nat.le_of_ble_eq_true rfl) ?_
  intro p e s m args below meth c A Q X hK hP hD hA ret ls hl
  have hS : va_S A s.heap s.heap [] := va_S.rf
  have hx := X.1
  have hb := X.2.1
  have hl : lv_has ls 2 [(0, .ref a_t), (1, .ref a_p1)] := hl
  unfold F_X0_note at hf
  refine lv_aload_n hx hb dX0_note_0 rfl (lv_at hl 0 rfl) ?_
  refine m_get X hK hP cl_X0 iT_X0 0 (by decide) fl_X0_11 0 rfl rfl dX0_note_1 ?_
  refine lv_aload_n hx hb dX0_note_4 rfl (lv_at hl 0 rfl) ?_
  refine m_get X hK hP cl_X0 iT_X0 1 (by decide) fl_X0_17 0 rfl rfl dX0_note_5 ?_
  refine m_bipush X dX0_note_8 (by decide) ?_
  obtain ⟨o1, ho, hf⟩ := bd_some hf
  refine m_cSR X hK (k_J9_floorMod_7cf53 n t_next 6 o1 ho) (hP.sub (ws' := []) [] rfl) lk_X0_25 co_J9_floorMod_7cf53 dy_J9_floorMod_7cf53 rfl rfl ⟨Nat.le_of_ble_eq_true rfl, Nat.le_of_ble_eq_true rfl⟩ hl.1 rfl (Nat.le_of_ble_eq_true rfl) dX0_note_10 (Nat.zero_le _) (Nat.zero_le _) ?_
  obtain ⟨h2, hf⟩ := ck_some hf
  refine m_aaldS X hK hP 1 rfl (by decide) h2 dX0_note_13 ?_
  refine lv_aload_n hx hb dX0_note_14 rfl (lv_at hl 1 rfl) ?_
  refine m_takeTo (wr := [(a_t, .inr (0, [.ref a_t_sheets, .int (z4 t_next), .int (z4 t_size)])), (a_t_sheets, .inl (E 3, 6, .inr (.inr (.inr (.inr (OS ad_))))))]) X hK hP hD hS hA (ix_nat (n := 6) h2) (fun j => [a_p1, a_p1_plan, a_p1_plan_least, a_p1_plan_of, a_p1_plan_set, a_p1_plan_chances, a_p1_rows, a_p1_rows_times, a_p1_rows_signs].getD j 0) ((p1_plan_rules, p1_plan_least, p1_plan_of, p1_plan_set, p1_plan_chances, p1_plan_slack, p1_plan_limit), (p1_rows_size, p1_rows_times, p1_rows_signs)) [2, 3, 4, 5, 6, 7, 8, 9, 10, 0, 1] rfl (show List.Perm [2, 3, 4, 5, 6, 7, 8, 9, 10, 0, 1] (List.range 11) from List.isPerm_iff.mp (by decide +kernel)) lk_X0_31 ⟨Nat.le_of_ble_eq_true rfl, Nat.le_of_ble_eq_true rfl⟩ hl.1 (Nat.le_of_ble_eq_true rfl) dX0_note_15 (Nat.zero_le _) (Nat.zero_le _) (fun H locs hP hD hS => ?_)
  refine lv_aload_n hx hb dX0_note_18 rfl (lv_at hl 0 rfl) ?_
  refine lv_dup hx hb dX0_note_19 rfl ?_
  refine m_get X hK hP cl_X0 iT_X0 1 (by decide) fl_X0_17 0 rfl rfl dX0_note_20 ?_
  refine m_iconst X dX0_note_23 ?_
  refine m_iadd X dX0_note_24 ?_
  refine m_put X hK hP hD hS cl_X0 iT_X0 tyX0 tyX0_ok nmX0 1 (by decide) fl_X0_17 rfl 0 rfl rfl rfl (Nat.le_of_ble_eq_true rfl) ([(a_t, .inr (0, [.ref a_t_sheets, .int (z4 (t_next + 1)), .int (z4 t_size)])), (a_t_sheets, .inl (E 3, 6, .inr (.inr (.inr (.inr (OS ad_)))))), (a_p1, .inr (7, [.ref a_p1_plan, .ref a_p1_rows])), (a_p1_plan, .inr (4, [.int (z4 p1_plan_rules), .ref a_p1_plan_least, .ref a_p1_plan_of, .ref a_p1_plan_set, .ref a_p1_plan_chances, .int (z4 p1_plan_slack), .int (z4 p1_plan_limit)])), (a_p1_plan_least, .inl (E 0, 3, .inl (A4 p1_plan_least))), (a_p1_plan_of, .inl (E 0, 3, .inl (A4 p1_plan_of))), (a_p1_plan_set, .inl (E 0, 3, .inl (A4 p1_plan_set))), (a_p1_plan_chances, .inl (E 0, 5, .inl (A4 p1_plan_chances))), (a_p1_rows, .inr (6, [.int (z4 p1_rows_size), .ref a_p1_rows_times, .ref a_p1_rows_signs])), (a_p1_rows_times, .inl (E 0, 40, .inl (A4 p1_rows_times))), (a_p1_rows_signs, .inl (E 0, 40, .inl (A4 p1_rows_signs)))] ++ wShs E ad_ 6 (up_ t_sheets_hs (o1).toNat (tk_ (t_sheets_hs (o1).toNat) ((p1_plan_rules, p1_plan_least, p1_plan_of, p1_plan_set, p1_plan_chances, p1_plan_slack, p1_plan_limit), (p1_rows_size, p1_rows_times, p1_rows_signs))))) rfl dX0_note_25 (fun H locs hP hD hS => ?_)
  refine lv_aload_n hx hb dX0_note_28 rfl (lv_at hl 0 rfl) ?_
  refine lv_aload_n hx hb dX0_note_29 rfl (lv_at hl 0 rfl) ?_
  refine m_get X hK hP cl_X0 iT_X0 2 (by decide) fl_X0_21 0 rfl rfl dX0_note_30 ?_
  refine m_iconst X dX0_note_33 ?_
  refine m_iadd X dX0_note_34 ?_
  refine m_bipush X dX0_note_35 (by decide) ?_
  obtain ⟨h3, hf⟩ := ck_some hf
  refine m_min X ml_X0_35 st_min in_Math cd_min hl.1 (Nat.le_of_ble_eq_true rfl) (Nat.le_of_ble_eq_true rfl) (Nat.zero_le _) (Nat.zero_le _) ⟨h3, ⟨by decide, by decide⟩⟩ dX0_note_37 ?_
  refine m_put X hK hP hD hS cl_X0 iT_X0 tyX0 tyX0_ok nmX0 2 (by decide) fl_X0_21 rfl 0 rfl rfl rfl (Nat.le_of_ble_eq_true rfl) ([(a_t, .inr (0, [.ref a_t_sheets, .int (z4 (t_next + 1)), .int (z4 (min (t_size + 1) 6))])), (a_t_sheets, .inl (E 3, 6, .inr (.inr (.inr (.inr (OS ad_)))))), (a_p1, .inr (7, [.ref a_p1_plan, .ref a_p1_rows])), (a_p1_plan, .inr (4, [.int (z4 p1_plan_rules), .ref a_p1_plan_least, .ref a_p1_plan_of, .ref a_p1_plan_set, .ref a_p1_plan_chances, .int (z4 p1_plan_slack), .int (z4 p1_plan_limit)])), (a_p1_plan_least, .inl (E 0, 3, .inl (A4 p1_plan_least))), (a_p1_plan_of, .inl (E 0, 3, .inl (A4 p1_plan_of))), (a_p1_plan_set, .inl (E 0, 3, .inl (A4 p1_plan_set))), (a_p1_plan_chances, .inl (E 0, 5, .inl (A4 p1_plan_chances))), (a_p1_rows, .inr (6, [.int (z4 p1_rows_size), .ref a_p1_rows_times, .ref a_p1_rows_signs])), (a_p1_rows_times, .inl (E 0, 40, .inl (A4 p1_rows_times))), (a_p1_rows_signs, .inl (E 0, 40, .inl (A4 p1_rows_signs)))] ++ wShs E ad_ 6 (up_ t_sheets_hs (o1).toNat (tk_ (t_sheets_hs (o1).toNat) ((p1_plan_rules, p1_plan_least, p1_plan_of, p1_plan_set, p1_plan_chances, p1_plan_slack, p1_plan_limit), (p1_rows_size, p1_rows_times, p1_rows_signs))))) rfl dX0_note_40 (fun H locs hP hD hS => ?_)
  obtain rfl := Option.some.inj hf
  exact ret _ _ _ _ hP hD hS dX0_note_43
def F_X0_giveLatest (n : Nat)  (t_next : Int) (t_size : Int) (t_sheets_hs : Nat → TSh) (p1_plan_rules : Int) (p1_plan_slack : Int) (p1_plan_limit : Int) (p1_plan_least : Nat → Int) (p1_plan_of : Nat → Int) (p1_plan_set : Nat → Int) (p1_plan_chances : Nat → Int) (p1_rows_size : Int) (p1_rows_times : Nat → Int) (p1_rows_signs : Nat → Int)  : Option (Int × Int × Int × Int × Int × (Nat → Int) × (Nat → Int) × (Nat → Int) × (Nat → Int) × Int × (Nat → Int) × (Nat → Int)) :=
  ck (r4 t_size) <|
  if 0 < t_size then
    (F_J9_floorMod_7cf53 n (t_next - 1) 6).bind fun o2 =>
    ck (ix_ o2 6) <|
    some (t_next - 1, t_size - 1, (t_sheets_hs (o2).toNat).1.1, (t_sheets_hs (o2).toNat).1.2.2.2.2.2.1, (t_sheets_hs (o2).toNat).1.2.2.2.2.2.2, cp_ (t_sheets_hs (o2).toNat).1.2.1 p1_plan_least 0 0 3, cp_ (t_sheets_hs (o2).toNat).1.2.2.1 p1_plan_of 0 0 3, cp_ (t_sheets_hs (o2).toNat).1.2.2.2.1 p1_plan_set 0 0 3, cp_ (t_sheets_hs (o2).toNat).1.2.2.2.2.1 p1_plan_chances 0 0 5, (t_sheets_hs (o2).toNat).2.1, cp_ (t_sheets_hs (o2).toNat).2.2.1 p1_rows_times 0 0 40, cp_ (t_sheets_hs (o2).toNat).2.2.2 p1_rows_signs 0 0 40)
  else
    some (t_next, t_size, p1_plan_rules, p1_plan_slack, p1_plan_limit, p1_plan_least, p1_plan_of, p1_plan_set, p1_plan_chances, p1_rows_size, p1_rows_times, p1_rows_signs)
def rm_X0_giveLatest : Room := { frames := 3, cells := 0, slots := 0, locals := 90 }
set_option maxHeartbeats 4000000 in
set_option maxRecDepth 100000 in
theorem k_X0_giveLatest {l : Launch} {D : va_G} {E : Nat → ClassId} (n : Nat) (a_t a_t_sheets a_p1 a_p1_plan a_p1_rows a_p1_plan_least a_p1_plan_of a_p1_plan_set a_p1_plan_chances a_p1_rows_times a_p1_rows_signs : Nat) (ad_ : Nat → Nat → Nat) (t_next : Int) (t_size : Int) (t_sheets_hs : Nat → TSh) (p1_plan_rules : Int) (p1_plan_slack : Int) (p1_plan_limit : Int) (p1_plan_least : Nat → Int) (p1_plan_of : Nat → Int) (p1_plan_set : Nat → Int) (p1_plan_chances : Nat → Int) (p1_rows_size : Int) (p1_rows_times : Nat → Int) (p1_rows_signs : Nat → Int) (res : Int × Int × Int × Int × Int × (Nat → Int) × (Nat → Int) × (Nat → Int) × (Nat → Int) × Int × (Nat → Int) × (Nat → Int)) (hf : F_X0_giveLatest n t_next t_size t_sheets_hs p1_plan_rules p1_plan_slack p1_plan_limit p1_plan_least p1_plan_of p1_plan_set p1_plan_chances p1_rows_size p1_rows_times p1_rows_signs = some res) : MW l yX0_giveLatest (.code yX0_giveLatest cX0_giveLatest 2 none) rm_X0_giveLatest D E [.ref a_t, .ref a_p1] ([(a_t, .inr (0, [.ref a_t_sheets, .int (z4 t_next), .int (z4 t_size)])), (a_t_sheets, .inl (E 3, 6, .inr (.inr (.inr (.inr (OS ad_)))))), (a_p1, .inr (7, [.ref a_p1_plan, .ref a_p1_rows])), (a_p1_plan, .inr (4, [.int (z4 p1_plan_rules), .ref a_p1_plan_least, .ref a_p1_plan_of, .ref a_p1_plan_set, .ref a_p1_plan_chances, .int (z4 p1_plan_slack), .int (z4 p1_plan_limit)])), (a_p1_plan_least, .inl (E 0, 3, .inl (A4 p1_plan_least))), (a_p1_plan_of, .inl (E 0, 3, .inl (A4 p1_plan_of))), (a_p1_plan_set, .inl (E 0, 3, .inl (A4 p1_plan_set))), (a_p1_plan_chances, .inl (E 0, 5, .inl (A4 p1_plan_chances))), (a_p1_rows, .inr (6, [.int (z4 p1_rows_size), .ref a_p1_rows_times, .ref a_p1_rows_signs])), (a_p1_rows_times, .inl (E 0, 40, .inl (A4 p1_rows_times))), (a_p1_rows_signs, .inl (E 0, 40, .inl (A4 p1_rows_signs)))] ++ wShs E ad_ 6 t_sheets_hs) none ([(a_t, .inr (0, [.ref a_t_sheets, .int (z4 res.1), .int (z4 res.2.1)])), (a_t_sheets, .inl (E 3, 6, .inr (.inr (.inr (.inr (OS ad_)))))), (a_p1, .inr (7, [.ref a_p1_plan, .ref a_p1_rows])), (a_p1_plan, .inr (4, [.int (z4 res.2.2.1), .ref a_p1_plan_least, .ref a_p1_plan_of, .ref a_p1_plan_set, .ref a_p1_plan_chances, .int (z4 res.2.2.2.1), .int (z4 res.2.2.2.2.1)])), (a_p1_plan_least, .inl (E 0, 3, .inl (A4 res.2.2.2.2.2.1))), (a_p1_plan_of, .inl (E 0, 3, .inl (A4 res.2.2.2.2.2.2.1))), (a_p1_plan_set, .inl (E 0, 3, .inl (A4 res.2.2.2.2.2.2.2.1))), (a_p1_plan_chances, .inl (E 0, 5, .inl (A4 res.2.2.2.2.2.2.2.2.1))), (a_p1_rows, .inr (6, [.int (z4 res.2.2.2.2.2.2.2.2.2.1), .ref a_p1_rows_times, .ref a_p1_rows_signs])), (a_p1_rows_times, .inl (E 0, 40, .inl (A4 res.2.2.2.2.2.2.2.2.2.2.1))), (a_p1_rows_signs, .inl (E 0, 40, .inl (A4 res.2.2.2.2.2.2.2.2.2.2.2)))] ++ wShs E ad_ 6 t_sheets_hs) := by
  refine MWv (by decide) (Nat.le_of_ble_eq_true rfl) ?_
  intro p e s m args below meth c A Q X hK hP hD hA ret ls hl
  have hS : va_S A s.heap s.heap [] := va_S.rf
  have hx := X.1
  have hb := X.2.1
  have hl : lv_has ls 2 [(0, .ref a_t), (1, .ref a_p1)] := hl
  unfold F_X0_giveLatest at hf
  refine lv_aload_n hx hb dX0_giveLatest_0 rfl (lv_at hl 0 rfl) ?_
  refine m_get X hK hP cl_X0 iT_X0 2 (by decide) fl_X0_21 0 rfl rfl dX0_giveLatest_1 ?_
  obtain ⟨h1, hf⟩ := ck_some hf
  refine m_if_gt X h1 dX0_giveLatest_4 (tgt := 8) (by decide) (fun (hc_ : 0 < t_size) => ?_) (fun (hc_ : ¬ (0 < t_size)) => ?_)
  · rw [if_pos hc_] at hf
    refine lv_aload_n hx hb dX0_giveLatest_8 rfl (lv_at hl 0 rfl) ?_
    refine lv_dup hx hb dX0_giveLatest_9 rfl ?_
    refine m_get X hK hP cl_X0 iT_X0 1 (by decide) fl_X0_17 0 rfl rfl dX0_giveLatest_10 ?_
    refine m_iconst X dX0_giveLatest_13 ?_
    refine m_isub X dX0_giveLatest_14 ?_
    refine m_put X hK hP hD hS cl_X0 iT_X0 tyX0 tyX0_ok nmX0 1 (by decide) fl_X0_17 rfl 0 rfl rfl rfl (Nat.le_of_ble_eq_true rfl) ([(a_t, .inr (0, [.ref a_t_sheets, .int (z4 (t_next - 1)), .int (z4 t_size)])), (a_t_sheets, .inl (E 3, 6, .inr (.inr (.inr (.inr (OS ad_)))))), (a_p1, .inr (7, [.ref a_p1_plan, .ref a_p1_rows])), (a_p1_plan, .inr (4, [.int (z4 p1_plan_rules), .ref a_p1_plan_least, .ref a_p1_plan_of, .ref a_p1_plan_set, .ref a_p1_plan_chances, .int (z4 p1_plan_slack), .int (z4 p1_plan_limit)])), (a_p1_plan_least, .inl (E 0, 3, .inl (A4 p1_plan_least))), (a_p1_plan_of, .inl (E 0, 3, .inl (A4 p1_plan_of))), (a_p1_plan_set, .inl (E 0, 3, .inl (A4 p1_plan_set))), (a_p1_plan_chances, .inl (E 0, 5, .inl (A4 p1_plan_chances))), (a_p1_rows, .inr (6, [.int (z4 p1_rows_size), .ref a_p1_rows_times, .ref a_p1_rows_signs])), (a_p1_rows_times, .inl (E 0, 40, .inl (A4 p1_rows_times))), (a_p1_rows_signs, .inl (E 0, 40, .inl (A4 p1_rows_signs)))] ++ wShs E ad_ 6 t_sheets_hs) rfl dX0_giveLatest_15 (fun H locs hP hD hS => ?_)
    refine lv_aload_n hx hb dX0_giveLatest_18 rfl (lv_at hl 0 rfl) ?_
    refine lv_dup hx hb dX0_giveLatest_19 rfl ?_
    refine m_get X hK hP cl_X0 iT_X0 2 (by decide) fl_X0_21 0 rfl rfl dX0_giveLatest_20 ?_
    refine m_iconst X dX0_giveLatest_23 ?_
    refine m_isub X dX0_giveLatest_24 ?_
    refine m_put X hK hP hD hS cl_X0 iT_X0 tyX0 tyX0_ok nmX0 2 (by decide) fl_X0_21 rfl 0 rfl rfl rfl (Nat.le_of_ble_eq_true rfl) ([(a_t, .inr (0, [.ref a_t_sheets, .int (z4 (t_next - 1)), .int (z4 (t_size - 1))])), (a_t_sheets, .inl (E 3, 6, .inr (.inr (.inr (.inr (OS ad_)))))), (a_p1, .inr (7, [.ref a_p1_plan, .ref a_p1_rows])), (a_p1_plan, .inr (4, [.int (z4 p1_plan_rules), .ref a_p1_plan_least, .ref a_p1_plan_of, .ref a_p1_plan_set, .ref a_p1_plan_chances, .int (z4 p1_plan_slack), .int (z4 p1_plan_limit)])), (a_p1_plan_least, .inl (E 0, 3, .inl (A4 p1_plan_least))), (a_p1_plan_of, .inl (E 0, 3, .inl (A4 p1_plan_of))), (a_p1_plan_set, .inl (E 0, 3, .inl (A4 p1_plan_set))), (a_p1_plan_chances, .inl (E 0, 5, .inl (A4 p1_plan_chances))), (a_p1_rows, .inr (6, [.int (z4 p1_rows_size), .ref a_p1_rows_times, .ref a_p1_rows_signs])), (a_p1_rows_times, .inl (E 0, 40, .inl (A4 p1_rows_times))), (a_p1_rows_signs, .inl (E 0, 40, .inl (A4 p1_rows_signs)))] ++ wShs E ad_ 6 t_sheets_hs) rfl dX0_giveLatest_25 (fun H locs hP hD hS => ?_)
    refine lv_aload_n hx hb dX0_giveLatest_28 rfl (lv_at hl 1 rfl) ?_
    refine lv_aload_n hx hb dX0_giveLatest_29 rfl (lv_at hl 0 rfl) ?_
    refine m_get X hK hP cl_X0 iT_X0 0 (by decide) fl_X0_11 0 rfl rfl dX0_giveLatest_30 ?_
    refine lv_aload_n hx hb dX0_giveLatest_33 rfl (lv_at hl 0 rfl) ?_
    refine m_get X hK hP cl_X0 iT_X0 1 (by decide) fl_X0_17 0 rfl rfl dX0_giveLatest_34 ?_
    refine m_bipush X dX0_giveLatest_37 (by decide) ?_
    obtain ⟨o2, ho, hf⟩ := bd_some hf
    refine m_cSR X hK (k_J9_floorMod_7cf53 n (t_next - 1) 6 o2 ho) (hP.sub (ws' := []) [] rfl) lk_X0_25 co_J9_floorMod_7cf53 dy_J9_floorMod_7cf53 rfl rfl ⟨Nat.le_of_ble_eq_true rfl, Nat.le_of_ble_eq_true rfl⟩ hl.1 rfl (Nat.le_of_ble_eq_true rfl) dX0_giveLatest_39 (Nat.zero_le _) (Nat.zero_le _) ?_
    obtain ⟨h3, hf⟩ := ck_some hf
    refine m_aaldS X hK hP 1 rfl (by decide) h3 dX0_giveLatest_42 ?_
    refine m_takeFrom (wr := [(a_t, .inr (0, [.ref a_t_sheets, .int (z4 (t_next - 1)), .int (z4 (t_size - 1))])), (a_t_sheets, .inl (E 3, 6, .inr (.inr (.inr (.inr (OS ad_))))))]) (Xw' := [(a_t, .inr (0, [.ref a_t_sheets, .int (z4 (t_next - 1)), .int (z4 (t_size - 1))])), (a_t_sheets, .inl (E 3, 6, .inr (.inr (.inr (.inr (OS ad_)))))), (a_p1, .inr (7, [.ref a_p1_plan, .ref a_p1_rows])), (a_p1_plan, .inr (4, [.int (z4 ((t_sheets_hs (o2).toNat).1.1)), .ref a_p1_plan_least, .ref a_p1_plan_of, .ref a_p1_plan_set, .ref a_p1_plan_chances, .int (z4 ((t_sheets_hs (o2).toNat).1.2.2.2.2.2.1)), .int (z4 ((t_sheets_hs (o2).toNat).1.2.2.2.2.2.2))])), (a_p1_plan_least, .inl (E 0, 3, .inl (A4 (cp_ (t_sheets_hs (o2).toNat).1.2.1 p1_plan_least 0 0 3)))), (a_p1_plan_of, .inl (E 0, 3, .inl (A4 (cp_ (t_sheets_hs (o2).toNat).1.2.2.1 p1_plan_of 0 0 3)))), (a_p1_plan_set, .inl (E 0, 3, .inl (A4 (cp_ (t_sheets_hs (o2).toNat).1.2.2.2.1 p1_plan_set 0 0 3)))), (a_p1_plan_chances, .inl (E 0, 5, .inl (A4 (cp_ (t_sheets_hs (o2).toNat).1.2.2.2.2.1 p1_plan_chances 0 0 5)))), (a_p1_rows, .inr (6, [.int (z4 ((t_sheets_hs (o2).toNat).2.1)), .ref a_p1_rows_times, .ref a_p1_rows_signs])), (a_p1_rows_times, .inl (E 0, 40, .inl (A4 (cp_ (t_sheets_hs (o2).toNat).2.2.1 p1_rows_times 0 0 40)))), (a_p1_rows_signs, .inl (E 0, 40, .inl (A4 (cp_ (t_sheets_hs (o2).toNat).2.2.2 p1_rows_signs 0 0 40))))]) X hK hP hD hS hA (ix_nat (n := 6) h3) (fun j => [a_p1, a_p1_plan, a_p1_plan_least, a_p1_plan_of, a_p1_plan_set, a_p1_plan_chances, a_p1_rows, a_p1_rows_times, a_p1_rows_signs].getD j 0) ((p1_plan_rules, p1_plan_least, p1_plan_of, p1_plan_set, p1_plan_chances, p1_plan_slack, p1_plan_limit), (p1_rows_size, p1_rows_times, p1_rows_signs)) [2, 3, 4, 5, 6, 7, 8, 9, 10, 0, 1] rfl (show List.Perm [2, 3, 4, 5, 6, 7, 8, 9, 10, 0, 1] (List.range 11) from List.isPerm_iff.mp (by decide +kernel)) rfl rfl lk_X0_31 ⟨Nat.le_of_ble_eq_true rfl, Nat.le_of_ble_eq_true rfl⟩ hl.1 (Nat.le_of_ble_eq_true rfl) dX0_giveLatest_43 (Nat.zero_le _) (Nat.zero_le _) (fun H locs hP hD hS => ?_)
    obtain rfl := Option.some.inj hf
    exact ret _ _ _ _ hP hD hS dX0_giveLatest_46
  · rw [if_neg hc_] at hf
    obtain rfl := Option.some.inj hf
    exact ret _ _ _ _ hP hD hS dX0_giveLatest_7
def F_X0_forget (n : Nat)    : Option (Int) :=
  some 0
def rm_X0_forget : Room := { frames := 0, cells := 0, slots := 0, locals := 0 }
set_option maxHeartbeats 4000000 in
set_option maxRecDepth 100000 in
theorem k_X0_forget {l : Launch} {D : va_G} {E : Nat → ClassId} (n : Nat) (a_t a_t_sheets : Nat) (t_next : Int) (t_size : Int) (res : Int) (hf : F_X0_forget n = some res) : MW l yX0_forget (.code yX0_forget cX0_forget 1 none) rm_X0_forget D E [.ref a_t] [(a_t, .inr (0, [.ref a_t_sheets, .int (z4 t_next), .int (z4 t_size)]))] none [(a_t, .inr (0, [.ref a_t_sheets, .int (z4 t_next), .int (z4 res)]))] := by
  refine MWv (by decide) (Nat.le_of_ble_eq_true rfl) ?_
  intro p e s m args below meth c A Q X hK hP hD hA ret ls hl
  have hS : va_S A s.heap s.heap [] := va_S.rf
  have hx := X.1
  have hb := X.2.1
  have hl : lv_has ls 1 [(0, .ref a_t)] := hl
  unfold F_X0_forget at hf
  refine lv_aload_n hx hb dX0_forget_0 rfl (lv_at hl 0 rfl) ?_
  refine m_iconst X dX0_forget_1 ?_
  refine m_put X hK hP hD hS cl_X0 iT_X0 tyX0 tyX0_ok nmX0 2 (by decide) fl_X0_21 rfl 0 rfl rfl rfl (Nat.le_of_ble_eq_true rfl) [(a_t, .inr (0, [.ref a_t_sheets, .int (z4 t_next), .int (z4 0)]))] rfl dX0_forget_2 (fun H locs hP hD hS => ?_)
  obtain rfl := Option.some.inj hf
  exact ret _ _ _ _ hP hD hS dX0_forget_5
