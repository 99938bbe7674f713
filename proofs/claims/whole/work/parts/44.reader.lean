def F_X5_nextKind (n : Nat)  (t_token : Int) (t_text_tokens : Int) (t_text_kinds : Nat → Int)  : Option (Int × Int) :=
  (F_X9_kindOf n t_text_tokens t_text_kinds (t_token + 1)).bind fun o1 =>
  some (o1, t_token + 1)
def rm_X5_nextKind : Room := { frames := 2, cells := 0, slots := 0, locals := 42 }
set_option maxHeartbeats 4000000 in
set_option maxRecDepth 100000 in
theorem k_X5_nextKind {l : Launch} {D : va_G} {E : Nat → ClassId} (n : Nat) (a_t a_t_text a_t_plan a_t_text_letters a_t_text_kinds a_t_text_starts a_t_text_values : Nat) (t_token : Int) (t_chanceTold : Int) (t_sumsTold : Int) (t_text_size : Int) (t_text_place : Int) (t_text_tokens : Int) (t_text_kinds : Nat → Int) (res : Int × Int) (hf : F_X5_nextKind n t_token t_text_tokens t_text_kinds = some res) : MW l yX5_nextKind (.code yX5_nextKind cX5_nextKind 1 (some .int)) rm_X5_nextKind D E [.ref a_t] [(a_t, .inr (5, [.ref a_t_text, .ref a_t_plan, .int (z4 t_token), .int (z4 t_chanceTold), .int (z4 t_sumsTold)])), (a_t_text, .inr (9, [.ref a_t_text_letters, .int (z4 t_text_size), .int (z4 t_text_place), .int (z4 t_text_tokens), .ref a_t_text_kinds, .ref a_t_text_starts, .ref a_t_text_values])), (a_t_text_kinds, .inl (E 0, 120, .inl (A4 t_text_kinds)))] (some (.int (z4 res.1))) [(a_t, .inr (5, [.ref a_t_text, .ref a_t_plan, .int (z4 res.2), .int (z4 t_chanceTold), .int (z4 t_sumsTold)])), (a_t_text, .inr (9, [.ref a_t_text_letters, .int (z4 t_text_size), .int (z4 t_text_place), .int (z4 t_text_tokens), .ref a_t_text_kinds, .ref a_t_text_starts, .ref a_t_text_values])), (a_t_text_kinds, .inl (E 0, 120, .inl (A4 t_text_kinds)))] := by
  refine MWi (by decide) (Nat.le_of_ble_eq_true rfl) ?_
  intro p e s m args below meth c A Q X hK hP hD hA ret ls hl
  have hS : va_S A s.heap s.heap [] := va_S.rf
  have hx := X.1
  have hb := X.2.1
  have hl : lv_has ls 1 [(0, .ref a_t)] := hl
  unfold F_X5_nextKind at hf
  refine lv_aload_n hx hb dX5_nextKind_0 rfl (lv_at hl 0 rfl) ?_
  refine lv_dup hx hb dX5_nextKind_1 rfl ?_
  refine m_get X hK hP cl_X5 iT_X5 2 (by decide) fl_X5_31 0 rfl rfl dX5_nextKind_2 ?_
  refine m_iconst X dX5_nextKind_5 ?_
  refine m_iadd X dX5_nextKind_6 ?_
  refine m_put X hK hP hD hS cl_X5 iT_X5 tyX5 tyX5_ok nmX5 2 (by decide) fl_X5_31 rfl 0 rfl rfl rfl (Nat.le_of_ble_eq_true rfl) [(a_t, .inr (5, [.ref a_t_text, .ref a_t_plan, .int (z4 (t_token + 1)), .int (z4 t_chanceTold), .int (z4 t_sumsTold)])), (a_t_text, .inr (9, [.ref a_t_text_letters, .int (z4 t_text_size), .int (z4 t_text_place), .int (z4 t_text_tokens), .ref a_t_text_kinds, .ref a_t_text_starts, .ref a_t_text_values])), (a_t_text_kinds, .inl (E 0, 120, .inl (A4 t_text_kinds)))] rfl dX5_nextKind_7 (fun H locs hP hD hS => ?_)
  refine lv_aload_n hx hb dX5_nextKind_10 rfl (lv_at hl 0 rfl) ?_
  refine m_get X hK hP cl_X5 iT_X5 0 (by decide) fl_X5_12 0 rfl rfl dX5_nextKind_11 ?_
  refine lv_aload_n hx hb dX5_nextKind_14 rfl (lv_at hl 0 rfl) ?_
  refine m_get X hK hP cl_X5 iT_X5 2 (by decide) fl_X5_31 0 rfl rfl dX5_nextKind_15 ?_
  obtain ⟨o1, ho, hf⟩ := bd_some hf
  refine m_cVR X hK (k_X9_kindOf n a_t_text a_t_text_letters a_t_text_kinds a_t_text_starts a_t_text_values t_text_size t_text_place t_text_tokens t_text_kinds (t_token + 1) o1 ho) (hP.sub [1, 2] rfl) rfl cl_X9 lk_X5_97 co_X9_kindOf dy_X9_kindOf rfl rfl ⟨Nat.le_of_ble_eq_true rfl, Nat.le_of_ble_eq_true rfl⟩ hl.1 rfl (Nat.le_of_ble_eq_true rfl) dX5_nextKind_18 (Nat.zero_le _) (Nat.zero_le _) ?_
  obtain rfl := Option.some.inj hf
  exact ret _ _ _ _ hP hD hS dX5_nextKind_21
def F_X5_isNumber (n : Nat)  (t_token : Int) (t_text_tokens : Int) (t_text_kinds : Nat → Int) (t_text_values : Nat → Int) (x1 : Int) (x2 : Int) : Option (Int × Int) :=
  (F_X5_nextKind n t_token t_text_tokens t_text_kinds).bind fun o1 =>
  (F_X9_valueOf n t_text_tokens t_text_values o1.2).bind fun o2 =>
  Option.bind (α := Int) (
    ck (r4 o1.1) <|
    if o1.1 = 4 then
      ck (r4 o2 ∧ r4 x1) <|
      if o2 < x1 then
        some 0
      else
        ck (r4 o2 ∧ r4 x2) <|
        if x2 < o2 then
          some 0
        else
          some 1
    else
      some 0) fun o3 =>
  ck (o3 = 0 ∨ o3 = 1) <|
  some (o3, o1.2)
def rm_X5_isNumber : Room := { frames := 3, cells := 0, slots := 0, locals := 62 }
set_option maxHeartbeats 4000000 in
set_option maxRecDepth 100000 in
theorem k_X5_isNumber {l : Launch} {D : va_G} {E : Nat → ClassId} (n : Nat) (a_t a_t_text a_t_plan a_t_text_letters a_t_text_kinds a_t_text_starts a_t_text_values : Nat) (t_token : Int) (t_chanceTold : Int) (t_sumsTold : Int) (t_text_size : Int) (t_text_place : Int) (t_text_tokens : Int) (t_text_kinds : Nat → Int) (t_text_values : Nat → Int) (x1 : Int) (x2 : Int) (res : Int × Int) (hf : F_X5_isNumber n t_token t_text_tokens t_text_kinds t_text_values x1 x2 = some res) : MW l yX5_isNumber (.code yX5_isNumber cX5_isNumber 5 (some .boolean)) rm_X5_isNumber D E [.ref a_t, .int (z4 x1), .int (z4 x2)] [(a_t, .inr (5, [.ref a_t_text, .ref a_t_plan, .int (z4 t_token), .int (z4 t_chanceTold), .int (z4 t_sumsTold)])), (a_t_text, .inr (9, [.ref a_t_text_letters, .int (z4 t_text_size), .int (z4 t_text_place), .int (z4 t_text_tokens), .ref a_t_text_kinds, .ref a_t_text_starts, .ref a_t_text_values])), (a_t_text_kinds, .inl (E 0, 120, .inl (A4 t_text_kinds))), (a_t_text_values, .inl (E 0, 120, .inl (A4 t_text_values)))] (some (.int (z4 res.1))) [(a_t, .inr (5, [.ref a_t_text, .ref a_t_plan, .int (z4 res.2), .int (z4 t_chanceTold), .int (z4 t_sumsTold)])), (a_t_text, .inr (9, [.ref a_t_text_letters, .int (z4 t_text_size), .int (z4 t_text_place), .int (z4 t_text_tokens), .ref a_t_text_kinds, .ref a_t_text_starts, .ref a_t_text_values])), (a_t_text_kinds, .inl (E 0, 120, .inl (A4 t_text_kinds))), (a_t_text_values, .inl (E 0, 120, .inl (A4 t_text_values)))] := by
  refine MWz (by decide) (Nat.le_of_ble_eq_true rfl) ?_
  intro p e s m args below meth c A Q X hK hP hD hA ret ls hl
  have hS : va_S A s.heap s.heap [] := va_S.rf
  have hx := X.1
  have hb := X.2.1
  have hl : lv_has ls 5 [(0, .ref a_t), (1, .int (z4 x1)), (2, .int (z4 x2))] := hl
  unfold F_X5_isNumber at hf
  refine lv_aload_n hx hb dX5_isNumber_0 rfl (lv_at hl 0 rfl) ?_
  obtain ⟨o1, ho, hf⟩ := bd_some hf
  refine m_cVW X hK hP hD hS hA (wr := [(a_t_text_values, .inl (E 0, 120, .inl (A4 t_text_values)))]) (k_X5_nextKind n a_t a_t_text a_t_plan a_t_text_letters a_t_text_kinds a_t_text_starts a_t_text_values t_token t_chanceTold t_sumsTold t_text_size t_text_place t_text_tokens t_text_kinds o1 ho) [0, 1, 2] [3] [1, 2, 3, 0] [(a_t, .inr (5, [.ref a_t_text, .ref a_t_plan, .int (z4 o1.2), .int (z4 t_chanceTold), .int (z4 t_sumsTold)])), (a_t_text, .inr (9, [.ref a_t_text_letters, .int (z4 t_text_size), .int (z4 t_text_place), .int (z4 t_text_tokens), .ref a_t_text_kinds, .ref a_t_text_starts, .ref a_t_text_values])), (a_t_text_kinds, .inl (E 0, 120, .inl (A4 t_text_kinds))), (a_t_text_values, .inl (E 0, 120, .inl (A4 t_text_values)))] rfl rfl rfl rfl (by decide) rfl rfl rfl cl_X5 lk_X5_42 co_X5_nextKind dy_X5_nextKind rfl rfl ⟨Nat.le_of_ble_eq_true rfl, Nat.le_of_ble_eq_true rfl⟩ hl.1 rfl (Nat.le_of_ble_eq_true rfl) dX5_isNumber_1 (Nat.zero_le _) (Nat.zero_le _) (fun H locs hP hD hS => ?_)
  refine lv_istore_n (lv' := [(3, .int (z4 o1.1)), (0, .ref a_t), (1, .int (z4 x1)), (2, .int (z4 x2))]) hx hb dX5_isNumber_4 rfl hl (by decide) rfl (fun ls hl => ?_)
  refine lv_aload_n hx hb dX5_isNumber_5 rfl (lv_at hl 1 rfl) ?_
  refine m_get X hK hP cl_X5 iT_X5 0 (by decide) fl_X5_12 0 rfl rfl dX5_isNumber_6 ?_
  refine lv_aload_n hx hb dX5_isNumber_9 rfl (lv_at hl 1 rfl) ?_
  refine m_get X hK hP cl_X5 iT_X5 2 (by decide) fl_X5_31 0 rfl rfl dX5_isNumber_10 ?_
  obtain ⟨o2, ho, hf⟩ := bd_some hf
  refine m_cVR X hK (k_X9_valueOf n a_t_text a_t_text_letters a_t_text_kinds a_t_text_starts a_t_text_values t_text_size t_text_place t_text_tokens t_text_values o1.2 o2 ho) (hP.sub [1, 3] rfl) rfl cl_X9 lk_X5_71 co_X9_valueOf dy_X9_valueOf rfl rfl ⟨Nat.le_of_ble_eq_true rfl, Nat.le_of_ble_eq_true rfl⟩ hl.1 rfl (Nat.le_of_ble_eq_true rfl) dX5_isNumber_13 (Nat.zero_le _) (Nat.zero_le _) ?_
  refine lv_istore (lv' := [(4, .int (z4 o2)), (3, .int (z4 o1.1)), (0, .ref a_t), (1, .int (z4 x1)), (2, .int (z4 x2))]) hx hb dX5_isNumber_16 hl (by decide) rfl (fun ls hl => ?_)
  refine lv_iload_n hx hb dX5_isNumber_18 rfl (lv_at hl 1 rfl) ?_
  refine m_iconst X dX5_isNumber_19 ?_
  obtain ⟨o3, hj3, hr3⟩ := bd_some hf
  have J3 : ∀ (o_ : Int), o3 = o_ → ∀ (H : Heap) (locs : List Loc) (ls : Array Slot), lv_has ls 5 [] → va_P D vwCl [(a_t, .inr (5, [.ref a_t_text, .ref a_t_plan, .int (z4 o1.2), .int (z4 t_chanceTold), .int (z4 t_sumsTold)])), (a_t_text, .inr (9, [.ref a_t_text_letters, .int (z4 t_text_size), .int (z4 t_text_place), .int (z4 t_text_tokens), .ref a_t_text_kinds, .ref a_t_text_starts, .ref a_t_text_values])), (a_t_text_kinds, .inl (E 0, 120, .inl (A4 t_text_kinds))), (a_t_text_values, .inl (E 0, 120, .inl (A4 t_text_values)))] H → va_D A [(a_t, .inr (5, [.ref a_t_text, .ref a_t_plan, .int (z4 o1.2), .int (z4 t_chanceTold), .int (z4 t_sumsTold)])), (a_t_text, .inr (9, [.ref a_t_text_letters, .int (z4 t_text_size), .int (z4 t_text_place), .int (z4 t_text_tokens), .ref a_t_text_kinds, .ref a_t_text_starts, .ref a_t_text_values])), (a_t_text_kinds, .inl (E 0, 120, .inl (A4 t_text_kinds))), (a_t_text_values, .inl (E 0, 120, .inl (A4 t_text_values)))] → va_S A s.heap H locs → W p l e rm_X5_isNumber s m args below meth c H locs 0 0 Q (F0 m 40 ls [.int (z4 o_)]) := by
    intro o_ ho_ H locs ls hl hP hD hS
    subst ho_
    obtain ⟨h7, hr3⟩ := ck_some hr3
    obtain rfl := Option.some.inj hr3
    exact ret _ _ _ _ h7 hP hD hS dX5_isNumber_40
  obtain ⟨h4, hj3⟩ := ck_some hj3
  refine m_icmp_ne X ⟨h4, ⟨by decide, by decide⟩⟩ dX5_isNumber_20 (tgt := 39) (by decide) (fun (hc_ : ¬ (o1.1 = 4)) => ?_) (fun (hc_ : o1.1 = 4) => ?_)
  · rw [if_neg hc_] at hj3
    refine m_iconst X dX5_isNumber_39 ?_
    exact J3 _ (Option.some.inj hj3).symm _ _ _ (lv_sub hl [] rfl) hP hD hS
  · rw [if_pos hc_] at hj3
    refine lv_iload hx hb dX5_isNumber_23 (lv_at hl 0 rfl) ?_
    refine lv_iload_n hx hb dX5_isNumber_25 rfl (lv_at hl 3 rfl) ?_
    obtain ⟨h5, hj3⟩ := ck_some hj3
    refine m_icmp_lt X h5 dX5_isNumber_26 (tgt := 39) (by decide) (fun (hc_ : o2 < x1) => ?_) (fun (hc_ : ¬ (o2 < x1)) => ?_)
    · rw [if_pos hc_] at hj3
      refine m_iconst X dX5_isNumber_39 ?_
      exact J3 _ (Option.some.inj hj3).symm _ _ _ (lv_sub hl [] rfl) hP hD hS
    · rw [if_neg hc_] at hj3
      refine lv_iload hx hb dX5_isNumber_29 (lv_at hl 0 rfl) ?_
      refine lv_iload_n hx hb dX5_isNumber_31 rfl (lv_at hl 4 rfl) ?_
      obtain ⟨h6, hj3⟩ := ck_some hj3
      refine m_icmp_gt X h6 dX5_isNumber_32 (tgt := 39) (by decide) (fun (hc_ : x2 < o2) => ?_) (fun (hc_ : ¬ (x2 < o2)) => ?_)
      · rw [if_pos hc_] at hj3
        refine m_iconst X dX5_isNumber_39 ?_
        exact J3 _ (Option.some.inj hj3).symm _ _ _ (lv_sub hl [] rfl) hP hD hS
      · rw [if_neg hc_] at hj3
        refine m_iconst X dX5_isNumber_35 ?_
        refine lv_goto (tgt := 40) hx hb dX5_isNumber_36 (by decide) ?_
        exact J3 _ (Option.some.inj hj3).symm _ _ _ (lv_sub hl [] rfl) hP hD hS
def F_X5_isRule (n : Nat)  (t_token : Int) (t_plan_rules : Int) (t_text_tokens : Int) (t_text_kinds : Nat → Int) (t_text_values : Nat → Int) (t_plan_of : Nat → Int) (t_plan_least : Nat → Int) (t_plan_set : Nat → Int)  : Option (Int × Int × Int × (Nat → Int) × (Nat → Int) × (Nat → Int)) :=
  ck (r4 t_plan_rules) <|
  if t_plan_rules < 3 then
    (F_X5_isNumber n t_token t_text_tokens t_text_kinds t_text_values 1 4).bind fun o2 =>
    ck (r4 o2.1) <|
    if o2.1 = 0 then
      some (0, o2.2, t_plan_rules, t_plan_of, t_plan_least, t_plan_set)
    else
      (F_X9_valueOf n t_text_tokens t_text_values o2.2).bind fun o4 =>
      (F_X4_pastWidth n t_plan_rules t_plan_of).bind fun o5 =>
      ck (r4 ((6 - o5) + 1)) <|
      (F_X5_isNumber n o2.2 t_text_tokens t_text_kinds t_text_values o4 (min 4 ((6 - o5) + 1))).bind fun o7 =>
      ck (r4 o7.1) <|
      if o7.1 = 0 then
        some (0, o7.2, t_plan_rules, t_plan_of, t_plan_least, t_plan_set)
      else
        (F_X9_valueOf n t_text_tokens t_text_values o7.2).bind fun o9 =>
        (F_X5_isNumber n o7.2 t_text_tokens t_text_kinds t_text_values 1 31).bind fun o10 =>
        ck (r4 o10.1) <|
        if o10.1 = 0 then
          some (0, o10.2, t_plan_rules, t_plan_of, t_plan_least, t_plan_set)
        else
          (F_X9_valueOf n t_text_tokens t_text_values o10.2).bind fun o12 =>
          (F_X4_addRule n t_plan_rules t_plan_least t_plan_of t_plan_set o4 o9 o12).bind fun o13 =>
          some (1, o10.2, o13.1, o13.2.2.1, o13.2.1, o13.2.2.2)
  else
    some (0, t_token, t_plan_rules, t_plan_of, t_plan_least, t_plan_set)
def rm_X5_isRule : Room := { frames := 4, cells := 0, slots := 0, locals := 86 }
set_option maxHeartbeats 4000000 in
set_option maxRecDepth 100000 in
theorem k_X5_isRule {l : Launch} {D : va_G} {E : Nat → ClassId} (n : Nat) (a_t a_t_text a_t_plan a_t_plan_least a_t_plan_of a_t_plan_set a_t_plan_chances a_t_text_letters a_t_text_kinds a_t_text_starts a_t_text_values : Nat) (t_token : Int) (t_chanceTold : Int) (t_sumsTold : Int) (t_plan_rules : Int) (t_plan_slack : Int) (t_plan_limit : Int) (t_text_size : Int) (t_text_place : Int) (t_text_tokens : Int) (t_text_kinds : Nat → Int) (t_text_values : Nat → Int) (t_plan_of : Nat → Int) (t_plan_least : Nat → Int) (t_plan_set : Nat → Int) (res : Int × Int × Int × (Nat → Int) × (Nat → Int) × (Nat → Int)) (hf : F_X5_isRule n t_token t_plan_rules t_text_tokens t_text_kinds t_text_values t_plan_of t_plan_least t_plan_set = some res) : MW l yX5_isRule (.code yX5_isRule cX5_isRule 4 (some .boolean)) rm_X5_isRule D E [.ref a_t] [(a_t, .inr (5, [.ref a_t_text, .ref a_t_plan, .int (z4 t_token), .int (z4 t_chanceTold), .int (z4 t_sumsTold)])), (a_t_plan, .inr (4, [.int (z4 t_plan_rules), .ref a_t_plan_least, .ref a_t_plan_of, .ref a_t_plan_set, .ref a_t_plan_chances, .int (z4 t_plan_slack), .int (z4 t_plan_limit)])), (a_t_text, .inr (9, [.ref a_t_text_letters, .int (z4 t_text_size), .int (z4 t_text_place), .int (z4 t_text_tokens), .ref a_t_text_kinds, .ref a_t_text_starts, .ref a_t_text_values])), (a_t_text_kinds, .inl (E 0, 120, .inl (A4 t_text_kinds))), (a_t_text_values, .inl (E 0, 120, .inl (A4 t_text_values))), (a_t_plan_of, .inl (E 0, 3, .inl (A4 t_plan_of))), (a_t_plan_least, .inl (E 0, 3, .inl (A4 t_plan_least))), (a_t_plan_set, .inl (E 0, 3, .inl (A4 t_plan_set)))] (some (.int (z4 res.1))) [(a_t, .inr (5, [.ref a_t_text, .ref a_t_plan, .int (z4 res.2.1), .int (z4 t_chanceTold), .int (z4 t_sumsTold)])), (a_t_plan, .inr (4, [.int (z4 res.2.2.1), .ref a_t_plan_least, .ref a_t_plan_of, .ref a_t_plan_set, .ref a_t_plan_chances, .int (z4 t_plan_slack), .int (z4 t_plan_limit)])), (a_t_text, .inr (9, [.ref a_t_text_letters, .int (z4 t_text_size), .int (z4 t_text_place), .int (z4 t_text_tokens), .ref a_t_text_kinds, .ref a_t_text_starts, .ref a_t_text_values])), (a_t_text_kinds, .inl (E 0, 120, .inl (A4 t_text_kinds))), (a_t_text_values, .inl (E 0, 120, .inl (A4 t_text_values))), (a_t_plan_of, .inl (E 0, 3, .inl (A4 res.2.2.2.1))), (a_t_plan_least, .inl (E 0, 3, .inl (A4 res.2.2.2.2.1))), (a_t_plan_set, .inl (E 0, 3, .inl (A4 res.2.2.2.2.2)))] := by
  refine MWz (by decide) (Nat.le_of_ble_eq_true rfl) ?_
  intro p e s m args below meth c A Q X hK hP hD hA ret ls hl
  have hS : va_S A s.heap s.heap [] := va_S.rf
  have hx := X.1
  have hb := X.2.1
  have hl : lv_has ls 4 [(0, .ref a_t)] := hl
  unfold F_X5_isRule at hf
  refine lv_aload_n hx hb dX5_isRule_0 rfl (lv_at hl 0 rfl) ?_
  refine m_get X hK hP cl_X5 iT_X5 1 (by decide) fl_X5_21 0 rfl rfl dX5_isRule_1 ?_
  refine m_get X hK hP cl_X4 iT_X4 0 (by decide) fl_X5_64 1 rfl rfl dX5_isRule_4 ?_
  refine m_iconst X dX5_isRule_7 ?_
  obtain ⟨h1, hf⟩ := ck_some hf
  refine m_icmp_ge X ⟨h1, ⟨by decide, by decide⟩⟩ dX5_isRule_8 (tgt := 20) (by decide) (fun (hc_ : ¬ (t_plan_rules < 3)) => ?_) (fun (hc_ : t_plan_rules < 3) => ?_)
  · rw [if_neg hc_] at hf
    refine m_iconst X dX5_isRule_20 ?_
    obtain rfl := Option.some.inj hf
    exact ret _ _ _ _ (Or.inl rfl) hP hD hS dX5_isRule_21
  · rw [if_pos hc_] at hf
    refine lv_aload_n hx hb dX5_isRule_11 rfl (lv_at hl 0 rfl) ?_
    refine m_iconst X dX5_isRule_12 ?_
    refine m_iconst X dX5_isRule_13 ?_
    obtain ⟨o2, ho, hf⟩ := bd_some hf
    refine m_cVW X hK hP hD hS hA (wr := [(a_t_plan, .inr (4, [.int (z4 t_plan_rules), .ref a_t_plan_least, .ref a_t_plan_of, .ref a_t_plan_set, .ref a_t_plan_chances, .int (z4 t_plan_slack), .int (z4 t_plan_limit)])), (a_t_plan_of, .inl (E 0, 3, .inl (A4 t_plan_of))), (a_t_plan_least, .inl (E 0, 3, .inl (A4 t_plan_least))), (a_t_plan_set, .inl (E 0, 3, .inl (A4 t_plan_set)))]) (k_X5_isNumber n a_t a_t_text a_t_plan a_t_text_letters a_t_text_kinds a_t_text_starts a_t_text_values t_token t_chanceTold t_sumsTold t_text_size t_text_place t_text_tokens t_text_kinds t_text_values 1 4 o2 ho) [0, 2, 3, 4] [1, 5, 6, 7] [4, 0, 5, 6, 7, 1, 2, 3] [(a_t, .inr (5, [.ref a_t_text, .ref a_t_plan, .int (z4 o2.2), .int (z4 t_chanceTold), .int (z4 t_sumsTold)])), (a_t_plan, .inr (4, [.int (z4 t_plan_rules), .ref a_t_plan_least, .ref a_t_plan_of, .ref a_t_plan_set, .ref a_t_plan_chances, .int (z4 t_plan_slack), .int (z4 t_plan_limit)])), (a_t_text, .inr (9, [.ref a_t_text_letters, .int (z4 t_text_size), .int (z4 t_text_place), .int (z4 t_text_tokens), .ref a_t_text_kinds, .ref a_t_text_starts, .ref a_t_text_values])), (a_t_text_kinds, .inl (E 0, 120, .inl (A4 t_text_kinds))), (a_t_text_values, .inl (E 0, 120, .inl (A4 t_text_values))), (a_t_plan_of, .inl (E 0, 3, .inl (A4 t_plan_of))), (a_t_plan_least, .inl (E 0, 3, .inl (A4 t_plan_least))), (a_t_plan_set, .inl (E 0, 3, .inl (A4 t_plan_set)))] rfl rfl rfl rfl (by decide) rfl rfl rfl cl_X5 lk_X5_67 co_X5_isNumber dy_X5_isNumber rfl rfl ⟨Nat.le_of_ble_eq_true rfl, Nat.le_of_ble_eq_true rfl⟩ hl.1 rfl (Nat.le_of_ble_eq_true rfl) dX5_isRule_14 (Nat.zero_le _) (Nat.zero_le _) (fun H locs hP hD hS => ?_)
    obtain ⟨h3, hf⟩ := ck_some hf
    refine m_if_ne X h3 dX5_isRule_17 (tgt := 22) (by decide) (fun (hc_ : ¬ (o2.1 = 0)) => ?_) (fun (hc_ : o2.1 = 0) => ?_)
    · rw [if_neg hc_] at hf
      refine lv_aload_n hx hb dX5_isRule_22 rfl (lv_at hl 0 rfl) ?_
      refine m_get X hK hP cl_X5 iT_X5 0 (by decide) fl_X5_12 0 rfl rfl dX5_isRule_23 ?_
      refine lv_aload_n hx hb dX5_isRule_26 rfl (lv_at hl 0 rfl) ?_
      refine m_get X hK hP cl_X5 iT_X5 2 (by decide) fl_X5_31 0 rfl rfl dX5_isRule_27 ?_
      obtain ⟨o4, ho, hf⟩ := bd_some hf
      refine m_cVR X hK (k_X9_valueOf n a_t_text a_t_text_letters a_t_text_kinds a_t_text_starts a_t_text_values t_text_size t_text_place t_text_tokens t_text_values o2.2 o4 ho) (hP.sub [2, 4] rfl) rfl cl_X9 lk_X5_71 co_X9_valueOf dy_X9_valueOf rfl rfl ⟨Nat.le_of_ble_eq_true rfl, Nat.le_of_ble_eq_true rfl⟩ hl.1 rfl (Nat.le_of_ble_eq_true rfl) dX5_isRule_30 (Nat.zero_le _) (Nat.zero_le _) ?_
      refine lv_istore_n (lv' := [(1, .int (z4 o4)), (0, .ref a_t)]) hx hb dX5_isRule_33 rfl hl (by decide) rfl (fun ls hl => ?_)
      refine m_bipush X dX5_isRule_34 (by decide) ?_
      refine lv_aload_n hx hb dX5_isRule_36 rfl (lv_at hl 1 rfl) ?_
      refine m_get X hK hP cl_X5 iT_X5 1 (by decide) fl_X5_21 0 rfl rfl dX5_isRule_37 ?_
      obtain ⟨o5, ho, hf⟩ := bd_some hf
      refine m_cVR X hK (k_X4_pastWidth n a_t_plan a_t_plan_least a_t_plan_of a_t_plan_set a_t_plan_chances t_plan_rules t_plan_slack t_plan_limit t_plan_of o5 ho) (hP.sub [1, 5] rfl) rfl cl_X4 lk_X5_74 co_X4_pastWidth dy_X4_pastWidth rfl rfl ⟨Nat.le_of_ble_eq_true rfl, Nat.le_of_ble_eq_true rfl⟩ hl.1 rfl (Nat.le_of_ble_eq_true rfl) dX5_isRule_40 (Nat.zero_le _) (Nat.zero_le _) ?_
      refine m_isub X dX5_isRule_43 ?_
      refine lv_istore_n (lv' := [(2, .int (z4 (6 - o5))), (1, .int (z4 o4)), (0, .ref a_t)]) hx hb dX5_isRule_44 rfl hl (by decide) rfl (fun ls hl => ?_)
      refine lv_aload_n hx hb dX5_isRule_45 rfl (lv_at hl 2 rfl) ?_
      refine lv_iload_n hx hb dX5_isRule_46 rfl (lv_at hl 1 rfl) ?_
      refine m_iconst X dX5_isRule_47 ?_
      refine lv_iload_n hx hb dX5_isRule_48 rfl (lv_at hl 0 rfl) ?_
      refine m_iconst X dX5_isRule_49 ?_
      refine m_iadd X dX5_isRule_50 ?_
      obtain ⟨h6, hf⟩ := ck_some hf
      refine m_min X ml_X5_77 st_min in_Math cd_min hl.1 (Nat.le_of_ble_eq_true rfl) (Nat.le_of_ble_eq_true rfl) (Nat.zero_le _) (Nat.zero_le _) ⟨⟨by decide, by decide⟩, h6⟩ dX5_isRule_51 ?_
      obtain ⟨o7, ho, hf⟩ := bd_some hf
      refine m_cVW X hK hP hD hS hA (wr := [(a_t_plan, .inr (4, [.int (z4 t_plan_rules), .ref a_t_plan_least, .ref a_t_plan_of, .ref a_t_plan_set, .ref a_t_plan_chances, .int (z4 t_plan_slack), .int (z4 t_plan_limit)])), (a_t_plan_of, .inl (E 0, 3, .inl (A4 t_plan_of))), (a_t_plan_least, .inl (E 0, 3, .inl (A4 t_plan_least))), (a_t_plan_set, .inl (E 0, 3, .inl (A4 t_plan_set)))]) (k_X5_isNumber n a_t a_t_text a_t_plan a_t_text_letters a_t_text_kinds a_t_text_starts a_t_text_values o2.2 t_chanceTold t_sumsTold t_text_size t_text_place t_text_tokens t_text_kinds t_text_values o4 (min 4 ((6 - o5) + 1)) o7 ho) [0, 2, 3, 4] [1, 5, 6, 7] [4, 0, 5, 6, 7, 1, 2, 3] [(a_t, .inr (5, [.ref a_t_text, .ref a_t_plan, .int (z4 o7.2), .int (z4 t_chanceTold), .int (z4 t_sumsTold)])), (a_t_plan, .inr (4, [.int (z4 t_plan_rules), .ref a_t_plan_least, .ref a_t_plan_of, .ref a_t_plan_set, .ref a_t_plan_chances, .int (z4 t_plan_slack), .int (z4 t_plan_limit)])), (a_t_text, .inr (9, [.ref a_t_text_letters, .int (z4 t_text_size), .int (z4 t_text_place), .int (z4 t_text_tokens), .ref a_t_text_kinds, .ref a_t_text_starts, .ref a_t_text_values])), (a_t_text_kinds, .inl (E 0, 120, .inl (A4 t_text_kinds))), (a_t_text_values, .inl (E 0, 120, .inl (A4 t_text_values))), (a_t_plan_of, .inl (E 0, 3, .inl (A4 t_plan_of))), (a_t_plan_least, .inl (E 0, 3, .inl (A4 t_plan_least))), (a_t_plan_set, .inl (E 0, 3, .inl (A4 t_plan_set)))] rfl rfl rfl rfl (by decide) rfl rfl rfl cl_X5 lk_X5_67 co_X5_isNumber dy_X5_isNumber rfl rfl ⟨Nat.le_of_ble_eq_true rfl, Nat.le_of_ble_eq_true rfl⟩ hl.1 rfl (Nat.le_of_ble_eq_true rfl) dX5_isRule_54 (Nat.zero_le _) (Nat.zero_le _) (fun H locs hP hD hS => ?_)
      obtain ⟨h8, hf⟩ := ck_some hf
      refine m_if_ne X h8 dX5_isRule_57 (tgt := 62) (by decide) (fun (hc_ : ¬ (o7.1 = 0)) => ?_) (fun (hc_ : o7.1 = 0) => ?_)
      · rw [if_neg hc_] at hf
        refine lv_aload_n hx hb dX5_isRule_62 rfl (lv_at hl 2 rfl) ?_
        refine m_get X hK hP cl_X5 iT_X5 0 (by decide) fl_X5_12 0 rfl rfl dX5_isRule_63 ?_
        refine lv_aload_n hx hb dX5_isRule_66 rfl (lv_at hl 2 rfl) ?_
        refine m_get X hK hP cl_X5 iT_X5 2 (by decide) fl_X5_31 0 rfl rfl dX5_isRule_67 ?_
        obtain ⟨o9, ho, hf⟩ := bd_some hf
        refine m_cVR X hK (k_X9_valueOf n a_t_text a_t_text_letters a_t_text_kinds a_t_text_starts a_t_text_values t_text_size t_text_place t_text_tokens t_text_values o7.2 o9 ho) (hP.sub [2, 4] rfl) rfl cl_X9 lk_X5_71 co_X9_valueOf dy_X9_valueOf rfl rfl ⟨Nat.le_of_ble_eq_true rfl, Nat.le_of_ble_eq_true rfl⟩ hl.1 rfl (Nat.le_of_ble_eq_true rfl) dX5_isRule_70 (Nat.zero_le _) (Nat.zero_le _) ?_
        refine lv_istore_n (lv' := [(3, .int (z4 o9)), (2, .int (z4 (6 - o5))), (1, .int (z4 o4)), (0, .ref a_t)]) hx hb dX5_isRule_73 rfl hl (by decide) rfl (fun ls hl => ?_)
        refine lv_aload_n hx hb dX5_isRule_74 rfl (lv_at hl 3 rfl) ?_
        refine m_iconst X dX5_isRule_75 ?_
        refine m_bipush X dX5_isRule_76 (by decide) ?_
        obtain ⟨o10, ho, hf⟩ := bd_some hf
        refine m_cVW X hK hP hD hS hA (wr := [(a_t_plan, .inr (4, [.int (z4 t_plan_rules), .ref a_t_plan_least, .ref a_t_plan_of, .ref a_t_plan_set, .ref a_t_plan_chances, .int (z4 t_plan_slack), .int (z4 t_plan_limit)])), (a_t_plan_of, .inl (E 0, 3, .inl (A4 t_plan_of))), (a_t_plan_least, .inl (E 0, 3, .inl (A4 t_plan_least))), (a_t_plan_set, .inl (E 0, 3, .inl (A4 t_plan_set)))]) (k_X5_isNumber n a_t a_t_text a_t_plan a_t_text_letters a_t_text_kinds a_t_text_starts a_t_text_values o7.2 t_chanceTold t_sumsTold t_text_size t_text_place t_text_tokens t_text_kinds t_text_values 1 31 o10 ho) [0, 2, 3, 4] [1, 5, 6, 7] [4, 0, 5, 6, 7, 1, 2, 3] [(a_t, .inr (5, [.ref a_t_text, .ref a_t_plan, .int (z4 o10.2), .int (z4 t_chanceTold), .int (z4 t_sumsTold)])), (a_t_plan, .inr (4, [.int (z4 t_plan_rules), .ref a_t_plan_least, .ref a_t_plan_of, .ref a_t_plan_set, .ref a_t_plan_chances, .int (z4 t_plan_slack), .int (z4 t_plan_limit)])), (a_t_text, .inr (9, [.ref a_t_text_letters, .int (z4 t_text_size), .int (z4 t_text_place), .int (z4 t_text_tokens), .ref a_t_text_kinds, .ref a_t_text_starts, .ref a_t_text_values])), (a_t_text_kinds, .inl (E 0, 120, .inl (A4 t_text_kinds))), (a_t_text_values, .inl (E 0, 120, .inl (A4 t_text_values))), (a_t_plan_of, .inl (E 0, 3, .inl (A4 t_plan_of))), (a_t_plan_least, .inl (E 0, 3, .inl (A4 t_plan_least))), (a_t_plan_set, .inl (E 0, 3, .inl (A4 t_plan_set)))] rfl rfl rfl rfl (by decide) rfl rfl rfl cl_X5 lk_X5_67 co_X5_isNumber dy_X5_isNumber rfl rfl ⟨Nat.le_of_ble_eq_true rfl, Nat.le_of_ble_eq_true rfl⟩ hl.1 rfl (Nat.le_of_ble_eq_true rfl) dX5_isRule_78 (Nat.zero_le _) (Nat.zero_le _) (fun H locs hP hD hS => ?_)
        obtain ⟨h11, hf⟩ := ck_some hf
        refine m_if_ne X h11 dX5_isRule_81 (tgt := 86) (by decide) (fun (hc_ : ¬ (o10.1 = 0)) => ?_) (fun (hc_ : o10.1 = 0) => ?_)
        · rw [if_neg hc_] at hf
          refine lv_aload_n hx hb dX5_isRule_86 rfl (lv_at hl 3 rfl) ?_
          refine m_get X hK hP cl_X5 iT_X5 1 (by decide) fl_X5_21 0 rfl rfl dX5_isRule_87 ?_
          refine lv_iload_n hx hb dX5_isRule_90 rfl (lv_at hl 2 rfl) ?_
          refine lv_iload_n hx hb dX5_isRule_91 rfl (lv_at hl 0 rfl) ?_
          refine lv_aload_n hx hb dX5_isRule_92 rfl (lv_at hl 3 rfl) ?_
          refine m_get X hK hP cl_X5 iT_X5 0 (by decide) fl_X5_12 0 rfl rfl dX5_isRule_93 ?_
          refine lv_aload_n hx hb dX5_isRule_96 rfl (lv_at hl 3 rfl) ?_
          refine m_get X hK hP cl_X5 iT_X5 2 (by decide) fl_X5_31 0 rfl rfl dX5_isRule_97 ?_
          obtain ⟨o12, ho, hf⟩ := bd_some hf
          refine m_cVR X hK (k_X9_valueOf n a_t_text a_t_text_letters a_t_text_kinds a_t_text_starts a_t_text_values t_text_size t_text_place t_text_tokens t_text_values o10.2 o12 ho) (hP.sub [2, 4] rfl) rfl cl_X9 lk_X5_71 co_X9_valueOf dy_X9_valueOf rfl rfl ⟨Nat.le_of_ble_eq_true rfl, Nat.le_of_ble_eq_true rfl⟩ hl.1 rfl (Nat.le_of_ble_eq_true rfl) dX5_isRule_100 (Nat.zero_le _) (Nat.zero_le _) ?_
          obtain ⟨o13, ho, hf⟩ := bd_some hf
          refine m_cVW X hK hP hD hS hA (wr := [(a_t, .inr (5, [.ref a_t_text, .ref a_t_plan, .int (z4 o10.2), .int (z4 t_chanceTold), .int (z4 t_sumsTold)])), (a_t_text, .inr (9, [.ref a_t_text_letters, .int (z4 t_text_size), .int (z4 t_text_place), .int (z4 t_text_tokens), .ref a_t_text_kinds, .ref a_t_text_starts, .ref a_t_text_values])), (a_t_text_kinds, .inl (E 0, 120, .inl (A4 t_text_kinds))), (a_t_text_values, .inl (E 0, 120, .inl (A4 t_text_values)))]) (k_X4_addRule n a_t_plan a_t_plan_least a_t_plan_of a_t_plan_set a_t_plan_chances t_plan_rules t_plan_slack t_plan_limit t_plan_least t_plan_of t_plan_set o4 o9 o12 o13 ho) [1, 6, 5, 7] [0, 2, 3, 4] [0, 4, 1, 2, 3, 6, 5, 7] [(a_t, .inr (5, [.ref a_t_text, .ref a_t_plan, .int (z4 o10.2), .int (z4 t_chanceTold), .int (z4 t_sumsTold)])), (a_t_plan, .inr (4, [.int (z4 o13.1), .ref a_t_plan_least, .ref a_t_plan_of, .ref a_t_plan_set, .ref a_t_plan_chances, .int (z4 t_plan_slack), .int (z4 t_plan_limit)])), (a_t_text, .inr (9, [.ref a_t_text_letters, .int (z4 t_text_size), .int (z4 t_text_place), .int (z4 t_text_tokens), .ref a_t_text_kinds, .ref a_t_text_starts, .ref a_t_text_values])), (a_t_text_kinds, .inl (E 0, 120, .inl (A4 t_text_kinds))), (a_t_text_values, .inl (E 0, 120, .inl (A4 t_text_values))), (a_t_plan_of, .inl (E 0, 3, .inl (A4 o13.2.2.1))), (a_t_plan_least, .inl (E 0, 3, .inl (A4 o13.2.1))), (a_t_plan_set, .inl (E 0, 3, .inl (A4 o13.2.2.2)))] rfl rfl rfl rfl (by decide) rfl rfl rfl cl_X4 lk_X5_83 co_X4_addRule dy_X4_addRule rfl rfl ⟨Nat.le_of_ble_eq_true rfl, Nat.le_of_ble_eq_true rfl⟩ hl.1 rfl (Nat.le_of_ble_eq_true rfl) dX5_isRule_103 (Nat.zero_le _) (Nat.zero_le _) (fun H locs hP hD hS => ?_)
          refine m_iconst X dX5_isRule_106 ?_
          obtain rfl := Option.some.inj hf
          exact ret _ _ _ _ (Or.inr rfl) hP hD hS dX5_isRule_107
        · rw [if_pos hc_] at hf
          refine m_iconst X dX5_isRule_84 ?_
          obtain rfl := Option.some.inj hf
          exact ret _ _ _ _ (Or.inl rfl) hP hD hS dX5_isRule_85
      · rw [if_pos hc_] at hf
        refine m_iconst X dX5_isRule_60 ?_
        obtain rfl := Option.some.inj hf
        exact ret _ _ _ _ (Or.inl rfl) hP hD hS dX5_isRule_61
    · rw [if_pos hc_] at hf
      refine m_iconst X dX5_isRule_20 ?_
      obtain rfl := Option.some.inj hf
      exact ret _ _ _ _ (Or.inl rfl) hP hD hS dX5_isRule_21
def F_X5_areChances_L19 (n : Nat) (t_text_tokens : Int) (t_text_kinds : Nat → Int) (t_text_values : Nat → Int) (v19_1 : Int) (v19_2 : Int) (t_token_l19 : Int) (t_plan_chances_l19 : Nat → Int) : Option ((Int × Int × Int × (Nat → Int)) ⊕ ((Int × Int × (Nat → Int)) ⊕ (Int × (Nat → Int)))) :=
  ck (r4 v19_2) <|
  if v19_2 < 5 then
    (F_X5_isNumber n t_token_l19 t_text_tokens t_text_kinds t_text_values 0 10).bind fun o4 =>
    ck (r4 o4.1) <|
    if o4.1 = 0 then
      some (.inr (.inr (o4.2, t_plan_chances_l19)))
    else
      (F_X9_valueOf n t_text_tokens t_text_values o4.2).bind fun o6 =>
      ck (ix_ v19_2 5) <|
      ck (ix_ v19_2 5) <|
      some (.inl (v19_1 - ((up_ t_plan_chances_l19 (v19_2).toNat o6) (v19_2).toNat), v19_2 + 1, o4.2, up_ t_plan_chances_l19 (v19_2).toNat o6))
  else
    some (.inr (.inl (v19_1, t_token_l19, t_plan_chances_l19)))
def F_X5_areChances (n : Nat)  (t_token : Int) (t_chanceTold : Int) (t_text_tokens : Int) (t_text_kinds : Nat → Int) (t_text_values : Nat → Int) (t_plan_chances : Nat → Int)  : Option (Int × Int × Int × (Nat → Int)) :=
  ck (r4 t_chanceTold) <|
  if t_chanceTold = 0 then
    (lp_ (fun (q : Int × Int × Int × (Nat → Int)) => F_X5_areChances_L19 n t_text_tokens t_text_kinds t_text_values q.1 q.2.1 q.2.2.1 q.2.2.2) n (10, 0, t_token, t_plan_chances)).bind fun o2 => match o2 with
    | .inl o2_0 =>
      Option.bind (α := Int) (
        ck (r4 o2_0.1) <|
        if o2_0.1 = 0 then
          some 1
        else
          some 0) fun o9 =>
      ck (o9 = 0 ∨ o9 = 1) <|
      some (o9, o2_0.2.1, 1, o2_0.2.2)
    | .inr o2_1 =>
      some (0, o2_1.1, 1, o2_1.2)
  else
    some (0, t_token, t_chanceTold, t_plan_chances)
def rm_X5_areChances : Room := { frames := 4, cells := 0, slots := 0, locals := 86 }
set_option maxHeartbeats 4000000 in
set_option maxRecDepth 100000 in
theorem k_X5_areChances {l : Launch} {D : va_G} {E : Nat → ClassId} (n : Nat) (a_t a_t_text a_t_plan a_t_text_letters a_t_text_kinds a_t_text_starts a_t_text_values a_t_plan_least a_t_plan_of a_t_plan_set a_t_plan_chances : Nat) (t_token : Int) (t_chanceTold : Int) (t_sumsTold : Int) (t_text_size : Int) (t_text_place : Int) (t_text_tokens : Int) (t_text_kinds : Nat → Int) (t_text_values : Nat → Int) (t_plan_rules : Int) (t_plan_slack : Int) (t_plan_limit : Int) (t_plan_chances : Nat → Int) (res : Int × Int × Int × (Nat → Int)) (hf : F_X5_areChances n t_token t_chanceTold t_text_tokens t_text_kinds t_text_values t_plan_chances = some res) : MW l yX5_areChances (.code yX5_areChances cX5_areChances 3 (some .boolean)) rm_X5_areChances D E [.ref a_t] [(a_t, .inr (5, [.ref a_t_text, .ref a_t_plan, .int (z4 t_token), .int (z4 t_chanceTold), .int (z4 t_sumsTold)])), (a_t_text, .inr (9, [.ref a_t_text_letters, .int (z4 t_text_size), .int (z4 t_text_place), .int (z4 t_text_tokens), .ref a_t_text_kinds, .ref a_t_text_starts, .ref a_t_text_values])), (a_t_text_kinds, .inl (E 0, 120, .inl (A4 t_text_kinds))), (a_t_text_values, .inl (E 0, 120, .inl (A4 t_text_values))), (a_t_plan, .inr (4, [.int (z4 t_plan_rules), .ref a_t_plan_least, .ref a_t_plan_of, .ref a_t_plan_set, .ref a_t_plan_chances, .int (z4 t_plan_slack), .int (z4 t_plan_limit)])), (a_t_plan_chances, .inl (E 0, 5, .inl (A4 t_plan_chances)))] (some (.int (z4 res.1))) [(a_t, .inr (5, [.ref a_t_text, .ref a_t_plan, .int (z4 res.2.1), .int (z4 res.2.2.1), .int (z4 t_sumsTold)])), (a_t_text, .inr (9, [.ref a_t_text_letters, .int (z4 t_text_size), .int (z4 t_text_place), .int (z4 t_text_tokens), .ref a_t_text_kinds, .ref a_t_text_starts, .ref a_t_text_values])), (a_t_text_kinds, .inl (E 0, 120, .inl (A4 t_text_kinds))), (a_t_text_values, .inl (E 0, 120, .inl (A4 t_text_values))), (a_t_plan, .inr (4, [.int (z4 t_plan_rules), .ref a_t_plan_least, .ref a_t_plan_of, .ref a_t_plan_set, .ref a_t_plan_chances, .int (z4 t_plan_slack), .int (z4 t_plan_limit)])), (a_t_plan_chances, .inl (E 0, 5, .inl (A4 res.2.2.2)))] := by
  refine MWz (by decide) (Nat.le_of_ble_eq_true rfl) ?_
  intro p e s m args below meth c A Q X hK hP hD hA ret ls hl
  have hS : va_S A s.heap s.heap [] := va_S.rf
  have hx := X.1
  have hb := X.2.1
  have hl : lv_has ls 3 [(0, .ref a_t)] := hl
  unfold F_X5_areChances at hf
  refine lv_aload_n hx hb dX5_areChances_0 rfl (lv_at hl 0 rfl) ?_
  refine m_get X hK hP cl_X5 iT_X5 3 (by decide) fl_X5_35 0 rfl rfl dX5_areChances_1 ?_
  obtain ⟨h1, hf⟩ := ck_some hf
  refine m_if_eq X h1 dX5_areChances_4 (tgt := 9) (by decide) (fun (hc_ : t_chanceTold = 0) => ?_) (fun (hc_ : ¬ (t_chanceTold = 0)) => ?_)
  · rw [if_pos hc_] at hf
    refine lv_aload_n hx hb dX5_areChances_9 rfl (lv_at hl 0 rfl) ?_
    refine m_iconst X dX5_areChances_10 ?_
    refine m_put X hK hP hD hS cl_X5 iT_X5 tyX5 tyX5_ok nmX5 3 (by decide) fl_X5_35 rfl 0 rfl rfl rfl (Nat.le_of_ble_eq_true rfl) [(a_t, .inr (5, [.ref a_t_text, .ref a_t_plan, .int (z4 t_token), .int (z4 1), .int (z4 t_sumsTold)])), (a_t_text, .inr (9, [.ref a_t_text_letters, .int (z4 t_text_size), .int (z4 t_text_place), .int (z4 t_text_tokens), .ref a_t_text_kinds, .ref a_t_text_starts, .ref a_t_text_values])), (a_t_text_kinds, .inl (E 0, 120, .inl (A4 t_text_kinds))), (a_t_text_values, .inl (E 0, 120, .inl (A4 t_text_values))), (a_t_plan, .inr (4, [.int (z4 t_plan_rules), .ref a_t_plan_least, .ref a_t_plan_of, .ref a_t_plan_set, .ref a_t_plan_chances, .int (z4 t_plan_slack), .int (z4 t_plan_limit)])), (a_t_plan_chances, .inl (E 0, 5, .inl (A4 t_plan_chances)))] rfl dX5_areChances_11 (fun H locs hP hD hS => ?_)
    refine m_bipush X dX5_areChances_14 (by decide) ?_
    refine lv_istore_n (lv' := [(1, .int (z4 10)), (0, .ref a_t)]) hx hb dX5_areChances_16 rfl hl (by decide) rfl (fun ls hl => ?_)
    refine m_iconst X dX5_areChances_17 ?_
    refine lv_istore_n (lv' := [(2, .int (z4 0)), (1, .int (z4 10)), (0, .ref a_t)]) hx hb dX5_areChances_18 rfl hl (by decide) rfl (fun ls hl => ?_)
    obtain ⟨o2, hj2, hr2⟩ := bd_some hf
    have E2_0 : ∀ (o_ : Int × Int × (Nat → Int)), o2 = (.inl o_) → ∀ (H : Heap) (locs : List Loc) (ls : Array Slot), lv_has ls 3 [(1, .int (z4 o_.1))] → va_P D vwCl [(a_t, .inr (5, [.ref a_t_text, .ref a_t_plan, .int (z4 o_.2.1), .int (z4 1), .int (z4 t_sumsTold)])), (a_t_text, .inr (9, [.ref a_t_text_letters, .int (z4 t_text_size), .int (z4 t_text_place), .int (z4 t_text_tokens), .ref a_t_text_kinds, .ref a_t_text_starts, .ref a_t_text_values])), (a_t_text_kinds, .inl (E 0, 120, .inl (A4 t_text_kinds))), (a_t_text_values, .inl (E 0, 120, .inl (A4 t_text_values))), (a_t_plan, .inr (4, [.int (z4 t_plan_rules), .ref a_t_plan_least, .ref a_t_plan_of, .ref a_t_plan_set, .ref a_t_plan_chances, .int (z4 t_plan_slack), .int (z4 t_plan_limit)])), (a_t_plan_chances, .inl (E 0, 5, .inl (A4 o_.2.2)))] H → va_D A [(a_t, .inr (5, [.ref a_t_text, .ref a_t_plan, .int (z4 o_.2.1), .int (z4 1), .int (z4 t_sumsTold)])), (a_t_text, .inr (9, [.ref a_t_text_letters, .int (z4 t_text_size), .int (z4 t_text_place), .int (z4 t_text_tokens), .ref a_t_text_kinds, .ref a_t_text_starts, .ref a_t_text_values])), (a_t_text_kinds, .inl (E 0, 120, .inl (A4 t_text_kinds))), (a_t_text_values, .inl (E 0, 120, .inl (A4 t_text_values))), (a_t_plan, .inr (4, [.int (z4 t_plan_rules), .ref a_t_plan_least, .ref a_t_plan_of, .ref a_t_plan_set, .ref a_t_plan_chances, .int (z4 t_plan_slack), .int (z4 t_plan_limit)])), (a_t_plan_chances, .inl (E 0, 5, .inl (A4 o_.2.2)))] → va_S A s.heap H locs → W p l e rm_X5_areChances s m args below meth c H locs 0 0 Q (F0 m 74 ls []) := by
      intro o2_0 ho_ H locs ls hl hP hD hS
      subst ho_
      refine lv_iload_n hx hb dX5_areChances_74 rfl (lv_at hl 0 rfl) ?_
      obtain ⟨o9, hj9, hr9⟩ := bd_some hr2
      have J9 : ∀ (o_ : Int), o9 = o_ → ∀ (H : Heap) (locs : List Loc) (ls : Array Slot), lv_has ls 3 [] → va_P D vwCl [(a_t, .inr (5, [.ref a_t_text, .ref a_t_plan, .int (z4 o2_0.2.1), .int (z4 1), .int (z4 t_sumsTold)])), (a_t_text, .inr (9, [.ref a_t_text_letters, .int (z4 t_text_size), .int (z4 t_text_place), .int (z4 t_text_tokens), .ref a_t_text_kinds, .ref a_t_text_starts, .ref a_t_text_values])), (a_t_text_kinds, .inl (E 0, 120, .inl (A4 t_text_kinds))), (a_t_text_values, .inl (E 0, 120, .inl (A4 t_text_values))), (a_t_plan, .inr (4, [.int (z4 t_plan_rules), .ref a_t_plan_least, .ref a_t_plan_of, .ref a_t_plan_set, .ref a_t_plan_chances, .int (z4 t_plan_slack), .int (z4 t_plan_limit)])), (a_t_plan_chances, .inl (E 0, 5, .inl (A4 o2_0.2.2)))] H → va_D A [(a_t, .inr (5, [.ref a_t_text, .ref a_t_plan, .int (z4 o2_0.2.1), .int (z4 1), .int (z4 t_sumsTold)])), (a_t_text, .inr (9, [.ref a_t_text_letters, .int (z4 t_text_size), .int (z4 t_text_place), .int (z4 t_text_tokens), .ref a_t_text_kinds, .ref a_t_text_starts, .ref a_t_text_values])), (a_t_text_kinds, .inl (E 0, 120, .inl (A4 t_text_kinds))), (a_t_text_values, .inl (E 0, 120, .inl (A4 t_text_values))), (a_t_plan, .inr (4, [.int (z4 t_plan_rules), .ref a_t_plan_least, .ref a_t_plan_of, .ref a_t_plan_set, .ref a_t_plan_chances, .int (z4 t_plan_slack), .int (z4 t_plan_limit)])), (a_t_plan_chances, .inl (E 0, 5, .inl (A4 o2_0.2.2)))] → va_S A s.heap H locs → W p l e rm_X5_areChances s m args below meth c H locs 0 0 Q (F0 m 83 ls [.int (z4 o_)]) := by
        intro o_ ho_ H locs ls hl hP hD hS
        subst ho_
        obtain ⟨h11, hr9⟩ := ck_some hr9
        obtain rfl := Option.some.inj hr9
        exact ret _ _ _ _ h11 hP hD hS dX5_areChances_83
      obtain ⟨h10, hj9⟩ := ck_some hj9
      refine m_if_ne X h10 dX5_areChances_75 (tgt := 82) (by decide) (fun (hc_ : ¬ (o2_0.1 = 0)) => ?_) (fun (hc_ : o2_0.1 = 0) => ?_)
      · rw [if_neg hc_] at hj9
        refine m_iconst X dX5_areChances_82 ?_
        exact J9 _ (Option.some.inj hj9).symm _ _ _ (lv_sub hl [] rfl) hP hD hS
      · rw [if_pos hc_] at hj9
        refine m_iconst X dX5_areChances_78 ?_
        refine lv_goto (tgt := 83) hx hb dX5_areChances_79 (by decide) ?_
        exact J9 _ (Option.some.inj hj9).symm _ _ _ (lv_sub hl [] rfl) hP hD hS
    have E2_1 : ∀ (o_ : Int × (Nat → Int)), o2 = (.inr o_) → ∀ (H : Heap) (locs : List Loc) (ls : Array Slot), lv_has ls 3 [] → va_P D vwCl [(a_t, .inr (5, [.ref a_t_text, .ref a_t_plan, .int (z4 o_.1), .int (z4 1), .int (z4 t_sumsTold)])), (a_t_text, .inr (9, [.ref a_t_text_letters, .int (z4 t_text_size), .int (z4 t_text_place), .int (z4 t_text_tokens), .ref a_t_text_kinds, .ref a_t_text_starts, .ref a_t_text_values])), (a_t_text_kinds, .inl (E 0, 120, .inl (A4 t_text_kinds))), (a_t_text_values, .inl (E 0, 120, .inl (A4 t_text_values))), (a_t_plan, .inr (4, [.int (z4 t_plan_rules), .ref a_t_plan_least, .ref a_t_plan_of, .ref a_t_plan_set, .ref a_t_plan_chances, .int (z4 t_plan_slack), .int (z4 t_plan_limit)])), (a_t_plan_chances, .inl (E 0, 5, .inl (A4 o_.2)))] H → va_D A [(a_t, .inr (5, [.ref a_t_text, .ref a_t_plan, .int (z4 o_.1), .int (z4 1), .int (z4 t_sumsTold)])), (a_t_text, .inr (9, [.ref a_t_text_letters, .int (z4 t_text_size), .int (z4 t_text_place), .int (z4 t_text_tokens), .ref a_t_text_kinds, .ref a_t_text_starts, .ref a_t_text_values])), (a_t_text_kinds, .inl (E 0, 120, .inl (A4 t_text_kinds))), (a_t_text_values, .inl (E 0, 120, .inl (A4 t_text_values))), (a_t_plan, .inr (4, [.int (z4 t_plan_rules), .ref a_t_plan_least, .ref a_t_plan_of, .ref a_t_plan_set, .ref a_t_plan_chances, .int (z4 t_plan_slack), .int (z4 t_plan_limit)])), (a_t_plan_chances, .inl (E 0, 5, .inl (A4 o_.2)))] → va_S A s.heap H locs → W p l e rm_X5_areChances s m args below meth c H locs 0 0 Q (F0 m 34 ls []) := by
      intro o2_1 ho_ H locs ls hl hP hD hS
      subst ho_
      refine m_iconst X dX5_areChances_34 ?_
      obtain rfl := Option.some.inj hr2
      exact ret _ _ _ _ (Or.inl rfl) hP hD hS dX5_areChances_35
    have L2 : ∀ (k_ : Nat) (v19_1 : Int) (v19_2 : Int) (t_token_l19 : Int) (t_plan_chances_l19 : Nat → Int), ∀ (H : Heap) (locs : List Loc) (ls : Array Slot), lv_has ls 3 [(0, .ref a_t), (1, .int (z4 v19_1)), (2, .int (z4 v19_2))] → va_P D vwCl [(a_t, .inr (5, [.ref a_t_text, .ref a_t_plan, .int (z4 t_token_l19), .int (z4 1), .int (z4 t_sumsTold)])), (a_t_text, .inr (9, [.ref a_t_text_letters, .int (z4 t_text_size), .int (z4 t_text_place), .int (z4 t_text_tokens), .ref a_t_text_kinds, .ref a_t_text_starts, .ref a_t_text_values])), (a_t_text_kinds, .inl (E 0, 120, .inl (A4 t_text_kinds))), (a_t_text_values, .inl (E 0, 120, .inl (A4 t_text_values))), (a_t_plan, .inr (4, [.int (z4 t_plan_rules), .ref a_t_plan_least, .ref a_t_plan_of, .ref a_t_plan_set, .ref a_t_plan_chances, .int (z4 t_plan_slack), .int (z4 t_plan_limit)])), (a_t_plan_chances, .inl (E 0, 5, .inl (A4 t_plan_chances_l19)))] H → va_D A [(a_t, .inr (5, [.ref a_t_text, .ref a_t_plan, .int (z4 t_token_l19), .int (z4 1), .int (z4 t_sumsTold)])), (a_t_text, .inr (9, [.ref a_t_text_letters, .int (z4 t_text_size), .int (z4 t_text_place), .int (z4 t_text_tokens), .ref a_t_text_kinds, .ref a_t_text_starts, .ref a_t_text_values])), (a_t_text_kinds, .inl (E 0, 120, .inl (A4 t_text_kinds))), (a_t_text_values, .inl (E 0, 120, .inl (A4 t_text_values))), (a_t_plan, .inr (4, [.int (z4 t_plan_rules), .ref a_t_plan_least, .ref a_t_plan_of, .ref a_t_plan_set, .ref a_t_plan_chances, .int (z4 t_plan_slack), .int (z4 t_plan_limit)])), (a_t_plan_chances, .inl (E 0, 5, .inl (A4 t_plan_chances_l19)))] → va_S A s.heap H locs → lp_ (fun (q : Int × Int × Int × (Nat → Int)) => F_X5_areChances_L19 n t_text_tokens t_text_kinds t_text_values q.1 q.2.1 q.2.2.1 q.2.2.2) k_ (v19_1, v19_2, t_token_l19, t_plan_chances_l19) = some o2 → W p l e rm_X5_areChances s m args below meth c H locs 0 0 Q (F0 m 19 ls []) := by
      intro k_
      induction k_ with
      | zero =>
        intro v19_1 v19_2 t_token_l19 t_plan_chances_l19 H locs ls hl hP hD hS hq_; exact (lp_zero hq_).elim
      | succ k_ ih2 =>
        intro v19_1 v19_2 t_token_l19 t_plan_chances_l19 H locs ls hl hP hD hS hq_
        obtain ⟨t_2, hb2, hq2⟩ := lp_some hq_
        replace hb2 : F_X5_areChances_L19 n t_text_tokens t_text_kinds t_text_values v19_1 v19_2 t_token_l19 t_plan_chances_l19 = some t_2 := hb2
        unfold F_X5_areChances_L19 at hb2
        refine lv_iload_n hx hb dX5_areChances_19 rfl (lv_at hl 2 rfl) ?_
        refine m_iconst X dX5_areChances_20 ?_
        obtain ⟨h3, hb2⟩ := ck_some hb2
        refine m_icmp_ge X ⟨h3, ⟨by decide, by decide⟩⟩ dX5_areChances_21 (tgt := 74) (by decide) (fun (hc_ : ¬ (v19_2 < 5)) => ?_) (fun (hc_ : v19_2 < 5) => ?_)
        · rw [if_neg hc_] at hb2
          obtain rfl := Option.some.inj hb2
          exact E2_0 _ (Option.some.inj hq2).symm _ _ _ (lv_sub hl [1] rfl) hP hD hS
        · rw [if_pos hc_] at hb2
          refine lv_aload_n hx hb dX5_areChances_24 rfl (lv_at hl 0 rfl) ?_
          refine m_iconst X dX5_areChances_25 ?_
          refine m_bipush X dX5_areChances_26 (by decide) ?_
          obtain ⟨o4, ho, hb2⟩ := bd_some hb2
          refine m_cVW X hK hP hD hS hA (wr := [(a_t_plan, .inr (4, [.int (z4 t_plan_rules), .ref a_t_plan_least, .ref a_t_plan_of, .ref a_t_plan_set, .ref a_t_plan_chances, .int (z4 t_plan_slack), .int (z4 t_plan_limit)])), (a_t_plan_chances, .inl (E 0, 5, .inl (A4 t_plan_chances_l19)))]) (k_X5_isNumber n a_t a_t_text a_t_plan a_t_text_letters a_t_text_kinds a_t_text_starts a_t_text_values t_token_l19 1 t_sumsTold t_text_size t_text_place t_text_tokens t_text_kinds t_text_values 0 10 o4 ho) [0, 1, 2, 3] [4, 5] [2, 3, 4, 5, 0, 1] [(a_t, .inr (5, [.ref a_t_text, .ref a_t_plan, .int (z4 o4.2), .int (z4 1), .int (z4 t_sumsTold)])), (a_t_text, .inr (9, [.ref a_t_text_letters, .int (z4 t_text_size), .int (z4 t_text_place), .int (z4 t_text_tokens), .ref a_t_text_kinds, .ref a_t_text_starts, .ref a_t_text_values])), (a_t_text_kinds, .inl (E 0, 120, .inl (A4 t_text_kinds))), (a_t_text_values, .inl (E 0, 120, .inl (A4 t_text_values))), (a_t_plan, .inr (4, [.int (z4 t_plan_rules), .ref a_t_plan_least, .ref a_t_plan_of, .ref a_t_plan_set, .ref a_t_plan_chances, .int (z4 t_plan_slack), .int (z4 t_plan_limit)])), (a_t_plan_chances, .inl (E 0, 5, .inl (A4 t_plan_chances_l19)))] rfl rfl rfl rfl (by decide) rfl rfl rfl cl_X5 lk_X5_67 co_X5_isNumber dy_X5_isNumber rfl rfl ⟨Nat.le_of_ble_eq_true rfl, Nat.le_of_ble_eq_true rfl⟩ hl.1 rfl (Nat.le_of_ble_eq_true rfl) dX5_areChances_28 (Nat.zero_le _) (Nat.zero_le _) (fun H locs hP hD hS => ?_)
          obtain ⟨h5, hb2⟩ := ck_some hb2
          refine m_if_ne X h5 dX5_areChances_31 (tgt := 36) (by decide) (fun (hc_ : ¬ (o4.1 = 0)) => ?_) (fun (hc_ : o4.1 = 0) => ?_)
          · rw [if_neg hc_] at hb2
            refine lv_aload_n hx hb dX5_areChances_36 rfl (lv_at hl 0 rfl) ?_
            refine m_get X hK hP cl_X5 iT_X5 1 (by decide) fl_X5_21 0 rfl rfl dX5_areChances_37 ?_
            refine m_get X hK hP cl_X4 iT_X4 4 (by decide) fl_X5_87 4 rfl rfl dX5_areChances_40 ?_
            refine lv_iload_n hx hb dX5_areChances_43 rfl (lv_at hl 2 rfl) ?_
            refine lv_aload_n hx hb dX5_areChances_44 rfl (lv_at hl 0 rfl) ?_
            refine m_get X hK hP cl_X5 iT_X5 0 (by decide) fl_X5_12 0 rfl rfl dX5_areChances_45 ?_
            refine lv_aload_n hx hb dX5_areChances_48 rfl (lv_at hl 0 rfl) ?_
            refine m_get X hK hP cl_X5 iT_X5 2 (by decide) fl_X5_31 0 rfl rfl dX5_areChances_49 ?_
            obtain ⟨o6, ho, hb2⟩ := bd_some hb2
            refine m_cVR X hK (k_X9_valueOf n a_t_text a_t_text_letters a_t_text_kinds a_t_text_starts a_t_text_values t_text_size t_text_place t_text_tokens t_text_values o4.2 o6 ho) (hP.sub [1, 3] rfl) rfl cl_X9 lk_X5_71 co_X9_valueOf dy_X9_valueOf rfl rfl ⟨Nat.le_of_ble_eq_true rfl, Nat.le_of_ble_eq_true rfl⟩ hl.1 rfl (Nat.le_of_ble_eq_true rfl) dX5_areChances_52 (Nat.zero_le _) (Nat.zero_le _) ?_
            obtain ⟨h7, hb2⟩ := ck_some hb2
            refine m_iast X hK hP hD hS 5 rfl (by decide) h7 [(a_t, .inr (5, [.ref a_t_text, .ref a_t_plan, .int (z4 o4.2), .int (z4 1), .int (z4 t_sumsTold)])), (a_t_text, .inr (9, [.ref a_t_text_letters, .int (z4 t_text_size), .int (z4 t_text_place), .int (z4 t_text_tokens), .ref a_t_text_kinds, .ref a_t_text_starts, .ref a_t_text_values])), (a_t_text_kinds, .inl (E 0, 120, .inl (A4 t_text_kinds))), (a_t_text_values, .inl (E 0, 120, .inl (A4 t_text_values))), (a_t_plan, .inr (4, [.int (z4 t_plan_rules), .ref a_t_plan_least, .ref a_t_plan_of, .ref a_t_plan_set, .ref a_t_plan_chances, .int (z4 t_plan_slack), .int (z4 t_plan_limit)])), (a_t_plan_chances, .inl (E 0, 5, .inl (A4 (up_ t_plan_chances_l19 (v19_2).toNat o6))))] rfl dX5_areChances_55 (fun H locs hP hD hS => ?_)
            refine lv_iload_n hx hb dX5_areChances_56 rfl (lv_at hl 1 rfl) ?_
            refine lv_aload_n hx hb dX5_areChances_57 rfl (lv_at hl 0 rfl) ?_
            refine m_get X hK hP cl_X5 iT_X5 1 (by decide) fl_X5_21 0 rfl rfl dX5_areChances_58 ?_
            refine m_get X hK hP cl_X4 iT_X4 4 (by decide) fl_X5_87 4 rfl rfl dX5_areChances_61 ?_
            refine lv_iload_n hx hb dX5_areChances_64 rfl (lv_at hl 2 rfl) ?_
            obtain ⟨h8, hb2⟩ := ck_some hb2
            refine m_iald X hK hP 5 rfl (by decide) h8 dX5_areChances_65 ?_
            refine m_isub X dX5_areChances_66 ?_
            refine lv_istore_n (lv' := [(1, .int (z4 (v19_1 - ((up_ t_plan_chances_l19 (v19_2).toNat o6) (v19_2).toNat)))), (0, .ref a_t), (2, .int (z4 v19_2))]) hx hb dX5_areChances_67 rfl hl (by decide) rfl (fun ls hl => ?_)
            refine m_iinc X 2 [(2, .int (z4 (v19_2 + 1))), (1, .int (z4 (v19_1 - ((up_ t_plan_chances_l19 (v19_2).toNat o6) (v19_2).toNat)))), (0, .ref a_t)] dX5_areChances_68 hl rfl (by decide) rfl (fun ls hl => ?_)
            refine lv_goto (tgt := 19) hx hb dX5_areChances_71 (by decide) ?_
            obtain rfl := Option.some.inj hb2
            exact ih2 _ _ _ _ _ _ _ (lv_sub hl [2, 1, 0] rfl) hP hD hS hq2
          · rw [if_pos hc_] at hb2
            obtain rfl := Option.some.inj hb2
            exact E2_1 _ (Option.some.inj hq2).symm _ _ _ (lv_sub hl [] rfl) hP hD hS
    exact L2 n _ _ _ _ _ _ _ (lv_sub hl [2, 1, 0] rfl) hP hD hS hj2
  · rw [if_neg hc_] at hf
    refine m_iconst X dX5_areChances_7 ?_
    obtain rfl := Option.some.inj hf
    exact ret _ _ _ _ (Or.inl rfl) hP hD hS dX5_areChances_8
def F_X5_areSums (n : Nat)  (t_token : Int) (t_sumsTold : Int) (t_text_tokens : Int) (t_text_kinds : Nat → Int) (t_text_values : Nat → Int) (t_plan_slack : Int) (t_plan_limit : Int)  : Option (Int × Int × Int × Int × Int) :=
  ck (r4 t_sumsTold) <|
  if t_sumsTold = 0 then
    (F_X5_isNumber n t_token t_text_tokens t_text_kinds t_text_values 0 2).bind fun o2 =>
    ck (r4 o2.1) <|
    if o2.1 = 0 then
      some (0, o2.2, 1, t_plan_slack, t_plan_limit)
    else
      (F_X9_valueOf n t_text_tokens t_text_values o2.2).bind fun o4 =>
      (F_X5_isNumber n o2.2 t_text_tokens t_text_kinds t_text_values 1 9).bind fun o5 =>
      ck (r4 o5.1) <|
      if o5.1 = 0 then
        some (0, o5.2, 1, o4, t_plan_limit)
      else
        (F_X9_valueOf n t_text_tokens t_text_values o5.2).bind fun o7 =>
        some (1, o5.2, 1, o4, o7)
  else
    some (0, t_token, t_sumsTold, t_plan_slack, t_plan_limit)
def rm_X5_areSums : Room := { frames := 4, cells := 0, slots := 0, locals := 86 }
set_option maxHeartbeats 4000000 in
set_option maxRecDepth 100000 in
theorem k_X5_areSums {l : Launch} {D : va_G} {E : Nat → ClassId} (n : Nat) (a_t a_t_text a_t_plan a_t_text_letters a_t_text_kinds a_t_text_starts a_t_text_values a_t_plan_least a_t_plan_of a_t_plan_set a_t_plan_chances : Nat) (t_token : Int) (t_chanceTold : Int) (t_sumsTold : Int) (t_text_size : Int) (t_text_place : Int) (t_text_tokens : Int) (t_text_kinds : Nat → Int) (t_text_values : Nat → Int) (t_plan_rules : Int) (t_plan_slack : Int) (t_plan_limit : Int) (res : Int × Int × Int × Int × Int) (hf : F_X5_areSums n t_token t_sumsTold t_text_tokens t_text_kinds t_text_values t_plan_slack t_plan_limit = some res) : MW l yX5_areSums (.code yX5_areSums cX5_areSums 1 (some .boolean)) rm_X5_areSums D E [.ref a_t] [(a_t, .inr (5, [.ref a_t_text, .ref a_t_plan, .int (z4 t_token), .int (z4 t_chanceTold), .int (z4 t_sumsTold)])), (a_t_text, .inr (9, [.ref a_t_text_letters, .int (z4 t_text_size), .int (z4 t_text_place), .int (z4 t_text_tokens), .ref a_t_text_kinds, .ref a_t_text_starts, .ref a_t_text_values])), (a_t_text_kinds, .inl (E 0, 120, .inl (A4 t_text_kinds))), (a_t_text_values, .inl (E 0, 120, .inl (A4 t_text_values))), (a_t_plan, .inr (4, [.int (z4 t_plan_rules), .ref a_t_plan_least, .ref a_t_plan_of, .ref a_t_plan_set, .ref a_t_plan_chances, .int (z4 t_plan_slack), .int (z4 t_plan_limit)]))] (some (.int (z4 res.1))) [(a_t, .inr (5, [.ref a_t_text, .ref a_t_plan, .int (z4 res.2.1), .int (z4 t_chanceTold), .int (z4 res.2.2.1)])), (a_t_text, .inr (9, [.ref a_t_text_letters, .int (z4 t_text_size), .int (z4 t_text_place), .int (z4 t_text_tokens), .ref a_t_text_kinds, .ref a_t_text_starts, .ref a_t_text_values])), (a_t_text_kinds, .inl (E 0, 120, .inl (A4 t_text_kinds))), (a_t_text_values, .inl (E 0, 120, .inl (A4 t_text_values))), (a_t_plan, .inr (4, [.int (z4 t_plan_rules), .ref a_t_plan_least, .ref a_t_plan_of, .ref a_t_plan_set, .ref a_t_plan_chances, .int (z4 res.2.2.2.1), .int (z4 res.2.2.2.2)]))] := by
  refine MWz (by decide) (Nat.le_of_ble_eq_true rfl) ?_
  intro p e s m args below meth c A Q X hK hP hD hA ret ls hl
  have hS : va_S A s.heap s.heap [] := va_S.rf
  have hx := X.1
  have hb := X.2.1
  have hl : lv_has ls 1 [(0, .ref a_t)] := hl
  unfold F_X5_areSums at hf
  refine lv_aload_n hx hb dX5_areSums_0 rfl (lv_at hl 0 rfl) ?_
  refine m_get X hK hP cl_X5 iT_X5 4 (by decide) fl_X5_39 0 rfl rfl dX5_areSums_1 ?_
  obtain ⟨h1, hf⟩ := ck_some hf
  refine m_if_eq X h1 dX5_areSums_4 (tgt := 9) (by decide) (fun (hc_ : t_sumsTold = 0) => ?_) (fun (hc_ : ¬ (t_sumsTold = 0)) => ?_)
  · rw [if_pos hc_] at hf
    refine lv_aload_n hx hb dX5_areSums_9 rfl (lv_at hl 0 rfl) ?_
    refine m_iconst X dX5_areSums_10 ?_
    refine m_put X hK hP hD hS cl_X5 iT_X5 tyX5 tyX5_ok nmX5 4 (by decide) fl_X5_39 rfl 0 rfl rfl rfl (Nat.le_of_ble_eq_true rfl) [(a_t, .inr (5, [.ref a_t_text, .ref a_t_plan, .int (z4 t_token), .int (z4 t_chanceTold), .int (z4 1)])), (a_t_text, .inr (9, [.ref a_t_text_letters, .int (z4 t_text_size), .int (z4 t_text_place), .int (z4 t_text_tokens), .ref a_t_text_kinds, .ref a_t_text_starts, .ref a_t_text_values])), (a_t_text_kinds, .inl (E 0, 120, .inl (A4 t_text_kinds))), (a_t_text_values, .inl (E 0, 120, .inl (A4 t_text_values))), (a_t_plan, .inr (4, [.int (z4 t_plan_rules), .ref a_t_plan_least, .ref a_t_plan_of, .ref a_t_plan_set, .ref a_t_plan_chances, .int (z4 t_plan_slack), .int (z4 t_plan_limit)]))] rfl dX5_areSums_11 (fun H locs hP hD hS => ?_)
    refine lv_aload_n hx hb dX5_areSums_14 rfl (lv_at hl 0 rfl) ?_
    refine m_iconst X dX5_areSums_15 ?_
    refine m_iconst X dX5_areSums_16 ?_
    obtain ⟨o2, ho, hf⟩ := bd_some hf
    refine m_cVW X hK hP hD hS hA (wr := [(a_t_plan, .inr (4, [.int (z4 t_plan_rules), .ref a_t_plan_least, .ref a_t_plan_of, .ref a_t_plan_set, .ref a_t_plan_chances, .int (z4 t_plan_slack), .int (z4 t_plan_limit)]))]) (k_X5_isNumber n a_t a_t_text a_t_plan a_t_text_letters a_t_text_kinds a_t_text_starts a_t_text_values t_token t_chanceTold 1 t_text_size t_text_place t_text_tokens t_text_kinds t_text_values 0 2 o2 ho) [0, 1, 2, 3] [4] [1, 2, 3, 4, 0] [(a_t, .inr (5, [.ref a_t_text, .ref a_t_plan, .int (z4 o2.2), .int (z4 t_chanceTold), .int (z4 1)])), (a_t_text, .inr (9, [.ref a_t_text_letters, .int (z4 t_text_size), .int (z4 t_text_place), .int (z4 t_text_tokens), .ref a_t_text_kinds, .ref a_t_text_starts, .ref a_t_text_values])), (a_t_text_kinds, .inl (E 0, 120, .inl (A4 t_text_kinds))), (a_t_text_values, .inl (E 0, 120, .inl (A4 t_text_values))), (a_t_plan, .inr (4, [.int (z4 t_plan_rules), .ref a_t_plan_least, .ref a_t_plan_of, .ref a_t_plan_set, .ref a_t_plan_chances, .int (z4 t_plan_slack), .int (z4 t_plan_limit)]))] rfl rfl rfl rfl (by decide) rfl rfl rfl cl_X5 lk_X5_67 co_X5_isNumber dy_X5_isNumber rfl rfl ⟨Nat.le_of_ble_eq_true rfl, Nat.le_of_ble_eq_true rfl⟩ hl.1 rfl (Nat.le_of_ble_eq_true rfl) dX5_areSums_17 (Nat.zero_le _) (Nat.zero_le _) (fun H locs hP hD hS => ?_)
    obtain ⟨h3, hf⟩ := ck_some hf
    refine m_if_ne X h3 dX5_areSums_20 (tgt := 25) (by decide) (fun (hc_ : ¬ (o2.1 = 0)) => ?_) (fun (hc_ : o2.1 = 0) => ?_)
    · rw [if_neg hc_] at hf
      refine lv_aload_n hx hb dX5_areSums_25 rfl (lv_at hl 0 rfl) ?_
      refine m_get X hK hP cl_X5 iT_X5 1 (by decide) fl_X5_21 0 rfl rfl dX5_areSums_26 ?_
      refine lv_aload_n hx hb dX5_areSums_29 rfl (lv_at hl 0 rfl) ?_
      refine m_get X hK hP cl_X5 iT_X5 0 (by decide) fl_X5_12 0 rfl rfl dX5_areSums_30 ?_
      refine lv_aload_n hx hb dX5_areSums_33 rfl (lv_at hl 0 rfl) ?_
      refine m_get X hK hP cl_X5 iT_X5 2 (by decide) fl_X5_31 0 rfl rfl dX5_areSums_34 ?_
      obtain ⟨o4, ho, hf⟩ := bd_some hf
      refine m_cVR X hK (k_X9_valueOf n a_t_text a_t_text_letters a_t_text_kinds a_t_text_starts a_t_text_values t_text_size t_text_place t_text_tokens t_text_values o2.2 o4 ho) (hP.sub [1, 3] rfl) rfl cl_X9 lk_X5_71 co_X9_valueOf dy_X9_valueOf rfl rfl ⟨Nat.le_of_ble_eq_true rfl, Nat.le_of_ble_eq_true rfl⟩ hl.1 rfl (Nat.le_of_ble_eq_true rfl) dX5_areSums_37 (Nat.zero_le _) (Nat.zero_le _) ?_
      refine m_put X hK hP hD hS cl_X4 iT_X4 tyX4 tyX4_ok nmX4 5 (by decide) fl_X5_91 rfl 4 rfl rfl rfl (Nat.le_of_ble_eq_true rfl) [(a_t, .inr (5, [.ref a_t_text, .ref a_t_plan, .int (z4 o2.2), .int (z4 t_chanceTold), .int (z4 1)])), (a_t_text, .inr (9, [.ref a_t_text_letters, .int (z4 t_text_size), .int (z4 t_text_place), .int (z4 t_text_tokens), .ref a_t_text_kinds, .ref a_t_text_starts, .ref a_t_text_values])), (a_t_text_kinds, .inl (E 0, 120, .inl (A4 t_text_kinds))), (a_t_text_values, .inl (E 0, 120, .inl (A4 t_text_values))), (a_t_plan, .inr (4, [.int (z4 t_plan_rules), .ref a_t_plan_least, .ref a_t_plan_of, .ref a_t_plan_set, .ref a_t_plan_chances, .int (z4 o4), .int (z4 t_plan_limit)]))] rfl dX5_areSums_40 (fun H locs hP hD hS => ?_)
      refine lv_aload_n hx hb dX5_areSums_43 rfl (lv_at hl 0 rfl) ?_
      refine m_iconst X dX5_areSums_44 ?_
      refine m_bipush X dX5_areSums_45 (by decide) ?_
      obtain ⟨o5, ho, hf⟩ := bd_some hf
      refine m_cVW X hK hP hD hS hA (wr := [(a_t_plan, .inr (4, [.int (z4 t_plan_rules), .ref a_t_plan_least, .ref a_t_plan_of, .ref a_t_plan_set, .ref a_t_plan_chances, .int (z4 o4), .int (z4 t_plan_limit)]))]) (k_X5_isNumber n a_t a_t_text a_t_plan a_t_text_letters a_t_text_kinds a_t_text_starts a_t_text_values o2.2 t_chanceTold 1 t_text_size t_text_place t_text_tokens t_text_kinds t_text_values 1 9 o5 ho) [0, 1, 2, 3] [4] [1, 2, 3, 4, 0] [(a_t, .inr (5, [.ref a_t_text, .ref a_t_plan, .int (z4 o5.2), .int (z4 t_chanceTold), .int (z4 1)])), (a_t_text, .inr (9, [.ref a_t_text_letters, .int (z4 t_text_size), .int (z4 t_text_place), .int (z4 t_text_tokens), .ref a_t_text_kinds, .ref a_t_text_starts, .ref a_t_text_values])), (a_t_text_kinds, .inl (E 0, 120, .inl (A4 t_text_kinds))), (a_t_text_values, .inl (E 0, 120, .inl (A4 t_text_values))), (a_t_plan, .inr (4, [.int (z4 t_plan_rules), .ref a_t_plan_least, .ref a_t_plan_of, .ref a_t_plan_set, .ref a_t_plan_chances, .int (z4 o4), .int (z4 t_plan_limit)]))] rfl rfl rfl rfl (by decide) rfl rfl rfl cl_X5 lk_X5_67 co_X5_isNumber dy_X5_isNumber rfl rfl ⟨Nat.le_of_ble_eq_true rfl, Nat.le_of_ble_eq_true rfl⟩ hl.1 rfl (Nat.le_of_ble_eq_true rfl) dX5_areSums_47 (Nat.zero_le _) (Nat.zero_le _) (fun H locs hP hD hS => ?_)
      obtain ⟨h6, hf⟩ := ck_some hf
      refine m_if_ne X h6 dX5_areSums_50 (tgt := 55) (by decide) (fun (hc_ : ¬ (o5.1 = 0)) => ?_) (fun (hc_ : o5.1 = 0) => ?_)
      · rw [if_neg hc_] at hf
        refine lv_aload_n hx hb dX5_areSums_55 rfl (lv_at hl 0 rfl) ?_
        refine m_get X hK hP cl_X5 iT_X5 1 (by decide) fl_X5_21 0 rfl rfl dX5_areSums_56 ?_
        refine lv_aload_n hx hb dX5_areSums_59 rfl (lv_at hl 0 rfl) ?_
        refine m_get X hK hP cl_X5 iT_X5 0 (by decide) fl_X5_12 0 rfl rfl dX5_areSums_60 ?_
        refine lv_aload_n hx hb dX5_areSums_63 rfl (lv_at hl 0 rfl) ?_
        refine m_get X hK hP cl_X5 iT_X5 2 (by decide) fl_X5_31 0 rfl rfl dX5_areSums_64 ?_
        obtain ⟨o7, ho, hf⟩ := bd_some hf
        refine m_cVR X hK (k_X9_valueOf n a_t_text a_t_text_letters a_t_text_kinds a_t_text_starts a_t_text_values t_text_size t_text_place t_text_tokens t_text_values o5.2 o7 ho) (hP.sub [1, 3] rfl) rfl cl_X9 lk_X5_71 co_X9_valueOf dy_X9_valueOf rfl rfl ⟨Nat.le_of_ble_eq_true rfl, Nat.le_of_ble_eq_true rfl⟩ hl.1 rfl (Nat.le_of_ble_eq_true rfl) dX5_areSums_67 (Nat.zero_le _) (Nat.zero_le _) ?_
        refine m_put X hK hP hD hS cl_X4 iT_X4 tyX4 tyX4_ok nmX4 6 (by decide) fl_X5_94 rfl 4 rfl rfl rfl (Nat.le_of_ble_eq_true rfl) [(a_t, .inr (5, [.ref a_t_text, .ref a_t_plan, .int (z4 o5.2), .int (z4 t_chanceTold), .int (z4 1)])), (a_t_text, .inr (9, [.ref a_t_text_letters, .int (z4 t_text_size), .int (z4 t_text_place), .int (z4 t_text_tokens), .ref a_t_text_kinds, .ref a_t_text_starts, .ref a_t_text_values])), (a_t_text_kinds, .inl (E 0, 120, .inl (A4 t_text_kinds))), (a_t_text_values, .inl (E 0, 120, .inl (A4 t_text_values))), (a_t_plan, .inr (4, [.int (z4 t_plan_rules), .ref a_t_plan_least, .ref a_t_plan_of, .ref a_t_plan_set, .ref a_t_plan_chances, .int (z4 o4), .int (z4 o7)]))] rfl dX5_areSums_70 (fun H locs hP hD hS => ?_)
        refine m_iconst X dX5_areSums_73 ?_
        obtain rfl := Option.some.inj hf
        exact ret _ _ _ _ (Or.inr rfl) hP hD hS dX5_areSums_74
      · rw [if_pos hc_] at hf
        refine m_iconst X dX5_areSums_53 ?_
        obtain rfl := Option.some.inj hf
        exact ret _ _ _ _ (Or.inl rfl) hP hD hS dX5_areSums_54
    · rw [if_pos hc_] at hf
      refine m_iconst X dX5_areSums_23 ?_
      obtain rfl := Option.some.inj hf
      exact ret _ _ _ _ (Or.inl rfl) hP hD hS dX5_areSums_24
  · rw [if_neg hc_] at hf
    refine m_iconst X dX5_areSums_7 ?_
    obtain rfl := Option.some.inj hf
    exact ret _ _ _ _ (Or.inl rfl) hP hD hS dX5_areSums_8
def F_X5_isItem (n : Nat)  (t_token : Int) (t_chanceTold : Int) (t_sumsTold : Int) (t_plan_rules : Int) (t_plan_slack : Int) (t_plan_limit : Int) (t_text_tokens : Int) (t_text_kinds : Nat → Int) (t_text_values : Nat → Int) (t_plan_of : Nat → Int) (t_plan_least : Nat → Int) (t_plan_set : Nat → Int) (t_plan_chances : Nat → Int) (x1 : Int) : Option (Int × Int × Int × Int × Int × Int × Int × (Nat → Int) × (Nat → Int) × (Nat → Int) × (Nat → Int)) :=
  ck (r4 x1) <|
  if x1 = 1 then
    (F_X5_isRule n t_token t_plan_rules t_text_tokens t_text_kinds t_text_values t_plan_of t_plan_least t_plan_set).bind fun o2 =>
    Option.bind (α := Int × Int) (
      ck (r4 o2.1) <|
      if o2.1 = 0 then
        some (0, o2.2.1)
      else
        (F_X5_nextKind n o2.2.1 t_text_tokens t_text_kinds).bind fun o5 =>
        ck (r4 o5.1) <|
        if o5.1 = 5 then
          some (1, o5.2)
        else
          some (0, o5.2)) fun o3 =>
    ck (o3.1 = 0 ∨ o3.1 = 1) <|
    some (o3.1, o3.2, t_chanceTold, t_sumsTold, o2.2.2.1, t_plan_slack, t_plan_limit, o2.2.2.2.1, o2.2.2.2.2.1, o2.2.2.2.2.2, t_plan_chances)
  else
    if x1 = 2 then
      (F_X5_areChances n t_token t_chanceTold t_text_tokens t_text_kinds t_text_values t_plan_chances).bind fun o8 =>
      Option.bind (α := Int × Int) (
        ck (r4 o8.1) <|
        if o8.1 = 0 then
          some (0, o8.2.1)
        else
          (F_X5_nextKind n o8.2.1 t_text_tokens t_text_kinds).bind fun o11 =>
          ck (r4 o11.1) <|
          if o11.1 = 5 then
            some (1, o11.2)
          else
            some (0, o11.2)) fun o9 =>
      ck (o9.1 = 0 ∨ o9.1 = 1) <|
      some (o9.1, o9.2, o8.2.2.1, t_sumsTold, t_plan_rules, t_plan_slack, t_plan_limit, t_plan_of, t_plan_least, t_plan_set, o8.2.2.2)
    else
      if x1 = 3 then
        (F_X5_areSums n t_token t_sumsTold t_text_tokens t_text_kinds t_text_values t_plan_slack t_plan_limit).bind fun o14 =>
        Option.bind (α := Int × Int) (
          ck (r4 o14.1) <|
          if o14.1 = 0 then
            some (0, o14.2.1)
          else
            (F_X5_nextKind n o14.2.1 t_text_tokens t_text_kinds).bind fun o17 =>
            ck (r4 o17.1) <|
            if o17.1 = 5 then
              some (1, o17.2)
            else
              some (0, o17.2)) fun o15 =>
        ck (o15.1 = 0 ∨ o15.1 = 1) <|
        some (o15.1, o15.2, t_chanceTold, o14.2.2.1, t_plan_rules, o14.2.2.2.1, o14.2.2.2.2, t_plan_of, t_plan_least, t_plan_set, t_plan_chances)
      else
        some (0, t_token, t_chanceTold, t_sumsTold, t_plan_rules, t_plan_slack, t_plan_limit, t_plan_of, t_plan_least, t_plan_set, t_plan_chances)
def rm_X5_isItem : Room := { frames := 5, cells := 0, slots := 0, locals := 109 }
set_option maxHeartbeats 4000000 in
set_option maxRecDepth 100000 in
theorem k_X5_isItem {l : Launch} {D : va_G} {E : Nat → ClassId} (n : Nat) (a_t a_t_text a_t_plan a_t_plan_least a_t_plan_of a_t_plan_set a_t_plan_chances a_t_text_letters a_t_text_kinds a_t_text_starts a_t_text_values : Nat) (t_token : Int) (t_chanceTold : Int) (t_sumsTold : Int) (t_plan_rules : Int) (t_plan_slack : Int) (t_plan_limit : Int) (t_text_size : Int) (t_text_place : Int) (t_text_tokens : Int) (t_text_kinds : Nat → Int) (t_text_values : Nat → Int) (t_plan_of : Nat → Int) (t_plan_least : Nat → Int) (t_plan_set : Nat → Int) (t_plan_chances : Nat → Int) (x1 : Int) (res : Int × Int × Int × Int × Int × Int × Int × (Nat → Int) × (Nat → Int) × (Nat → Int) × (Nat → Int)) (hf : F_X5_isItem n t_token t_chanceTold t_sumsTold t_plan_rules t_plan_slack t_plan_limit t_text_tokens t_text_kinds t_text_values t_plan_of t_plan_least t_plan_set t_plan_chances x1 = some res) : MW l yX5_isItem (.code yX5_isItem cX5_isItem 2 (some .boolean)) rm_X5_isItem D E [.ref a_t, .int (z4 x1)] [(a_t, .inr (5, [.ref a_t_text, .ref a_t_plan, .int (z4 t_token), .int (z4 t_chanceTold), .int (z4 t_sumsTold)])), (a_t_plan, .inr (4, [.int (z4 t_plan_rules), .ref a_t_plan_least, .ref a_t_plan_of, .ref a_t_plan_set, .ref a_t_plan_chances, .int (z4 t_plan_slack), .int (z4 t_plan_limit)])), (a_t_text, .inr (9, [.ref a_t_text_letters, .int (z4 t_text_size), .int (z4 t_text_place), .int (z4 t_text_tokens), .ref a_t_text_kinds, .ref a_t_text_starts, .ref a_t_text_values])), (a_t_text_kinds, .inl (E 0, 120, .inl (A4 t_text_kinds))), (a_t_text_values, .inl (E 0, 120, .inl (A4 t_text_values))), (a_t_plan_of, .inl (E 0, 3, .inl (A4 t_plan_of))), (a_t_plan_least, .inl (E 0, 3, .inl (A4 t_plan_least))), (a_t_plan_set, .inl (E 0, 3, .inl (A4 t_plan_set))), (a_t_plan_chances, .inl (E 0, 5, .inl (A4 t_plan_chances)))] (some (.int (z4 res.1))) [(a_t, .inr (5, [.ref a_t_text, .ref a_t_plan, .int (z4 res.2.1), .int (z4 res.2.2.1), .int (z4 res.2.2.2.1)])), (a_t_plan, .inr (4, [.int (z4 res.2.2.2.2.1), .ref a_t_plan_least, .ref a_t_plan_of, .ref a_t_plan_set, .ref a_t_plan_chances, .int (z4 res.2.2.2.2.2.1), .int (z4 res.2.2.2.2.2.2.1)])), (a_t_text, .inr (9, [.ref a_t_text_letters, .int (z4 t_text_size), .int (z4 t_text_place), .int (z4 t_text_tokens), .ref a_t_text_kinds, .ref a_t_text_starts, .ref a_t_text_values])), (a_t_text_kinds, .inl (E 0, 120, .inl (A4 t_text_kinds))), (a_t_text_values, .inl (E 0, 120, .inl (A4 t_text_values))), (a_t_plan_of, .inl (E 0, 3, .inl (A4 res.2.2.2.2.2.2.2.1))), (a_t_plan_least, .inl (E 0, 3, .inl (A4 res.2.2.2.2.2.2.2.2.1))), (a_t_plan_set, .inl (E 0, 3, .inl (A4 res.2.2.2.2.2.2.2.2.2.1))), (a_t_plan_chances, .inl (E 0, 5, .inl (A4 res.2.2.2.2.2.2.2.2.2.2)))] := by
  refine MWz (by decide) (Nat.le_of_ble_eq_true rfl) ?_
  intro p e s m args below meth c A Q X hK hP hD hA ret ls hl
  have hS : va_S A s.heap s.heap [] := va_S.rf
  have hx := X.1
  have hb := X.2.1
  have hl : lv_has ls 2 [(0, .ref a_t), (1, .int (z4 x1))] := hl
  unfold F_X5_isItem at hf
  refine lv_iload_n hx hb dX5_isItem_0 rfl (lv_at hl 1 rfl) ?_
  obtain ⟨h1, hf⟩ := ck_some hf
  by_cases hc1 : x1 = 1
  · rw [if_pos hc1] at hf
    refine m_swIn X h1 1 hc1 (by decide) dX5_isItem_1 rfl (tgt := 28) (by decide) ?_
    refine lv_aload_n hx hb dX5_isItem_28 rfl (lv_at hl 0 rfl) ?_
    obtain ⟨o2, ho, hf⟩ := bd_some hf
    refine m_cVW X hK hP hD hS hA (wr := [(a_t_plan_chances, .inl (E 0, 5, .inl (A4 t_plan_chances)))]) (k_X5_isRule n a_t a_t_text a_t_plan a_t_plan_least a_t_plan_of a_t_plan_set a_t_plan_chances a_t_text_letters a_t_text_kinds a_t_text_starts a_t_text_values t_token t_chanceTold t_sumsTold t_plan_rules t_plan_slack t_plan_limit t_text_size t_text_place t_text_tokens t_text_kinds t_text_values t_plan_of t_plan_least t_plan_set o2 ho) [0, 1, 2, 3, 4, 5, 6, 7] [8] [1, 2, 3, 4, 5, 6, 7, 8, 0] [(a_t, .inr (5, [.ref a_t_text, .ref a_t_plan, .int (z4 o2.2.1), .int (z4 t_chanceTold), .int (z4 t_sumsTold)])), (a_t_plan, .inr (4, [.int (z4 o2.2.2.1), .ref a_t_plan_least, .ref a_t_plan_of, .ref a_t_plan_set, .ref a_t_plan_chances, .int (z4 t_plan_slack), .int (z4 t_plan_limit)])), (a_t_text, .inr (9, [.ref a_t_text_letters, .int (z4 t_text_size), .int (z4 t_text_place), .int (z4 t_text_tokens), .ref a_t_text_kinds, .ref a_t_text_starts, .ref a_t_text_values])), (a_t_text_kinds, .inl (E 0, 120, .inl (A4 t_text_kinds))), (a_t_text_values, .inl (E 0, 120, .inl (A4 t_text_values))), (a_t_plan_of, .inl (E 0, 3, .inl (A4 o2.2.2.2.1))), (a_t_plan_least, .inl (E 0, 3, .inl (A4 o2.2.2.2.2.1))), (a_t_plan_set, .inl (E 0, 3, .inl (A4 o2.2.2.2.2.2))), (a_t_plan_chances, .inl (E 0, 5, .inl (A4 t_plan_chances)))] rfl rfl rfl rfl (by decide) rfl rfl rfl cl_X5 lk_X5_54 co_X5_isRule dy_X5_isRule rfl rfl ⟨Nat.le_of_ble_eq_true rfl, Nat.le_of_ble_eq_true rfl⟩ hl.1 rfl (Nat.le_of_ble_eq_true rfl) dX5_isItem_29 (Nat.zero_le _) (Nat.zero_le _) (fun H locs hP hD hS => ?_)
    obtain ⟨o3, hj3, hr3⟩ := bd_some hf
    have J3 : ∀ (o_ : Int × Int), o3 = o_ → ∀ (H : Heap) (locs : List Loc) (ls : Array Slot), lv_has ls 2 [] → va_P D vwCl [(a_t, .inr (5, [.ref a_t_text, .ref a_t_plan, .int (z4 o_.2), .int (z4 t_chanceTold), .int (z4 t_sumsTold)])), (a_t_plan, .inr (4, [.int (z4 o2.2.2.1), .ref a_t_plan_least, .ref a_t_plan_of, .ref a_t_plan_set, .ref a_t_plan_chances, .int (z4 t_plan_slack), .int (z4 t_plan_limit)])), (a_t_text, .inr (9, [.ref a_t_text_letters, .int (z4 t_text_size), .int (z4 t_text_place), .int (z4 t_text_tokens), .ref a_t_text_kinds, .ref a_t_text_starts, .ref a_t_text_values])), (a_t_text_kinds, .inl (E 0, 120, .inl (A4 t_text_kinds))), (a_t_text_values, .inl (E 0, 120, .inl (A4 t_text_values))), (a_t_plan_of, .inl (E 0, 3, .inl (A4 o2.2.2.2.1))), (a_t_plan_least, .inl (E 0, 3, .inl (A4 o2.2.2.2.2.1))), (a_t_plan_set, .inl (E 0, 3, .inl (A4 o2.2.2.2.2.2))), (a_t_plan_chances, .inl (E 0, 5, .inl (A4 t_plan_chances)))] H → va_D A [(a_t, .inr (5, [.ref a_t_text, .ref a_t_plan, .int (z4 o_.2), .int (z4 t_chanceTold), .int (z4 t_sumsTold)])), (a_t_plan, .inr (4, [.int (z4 o2.2.2.1), .ref a_t_plan_least, .ref a_t_plan_of, .ref a_t_plan_set, .ref a_t_plan_chances, .int (z4 t_plan_slack), .int (z4 t_plan_limit)])), (a_t_text, .inr (9, [.ref a_t_text_letters, .int (z4 t_text_size), .int (z4 t_text_place), .int (z4 t_text_tokens), .ref a_t_text_kinds, .ref a_t_text_starts, .ref a_t_text_values])), (a_t_text_kinds, .inl (E 0, 120, .inl (A4 t_text_kinds))), (a_t_text_values, .inl (E 0, 120, .inl (A4 t_text_values))), (a_t_plan_of, .inl (E 0, 3, .inl (A4 o2.2.2.2.1))), (a_t_plan_least, .inl (E 0, 3, .inl (A4 o2.2.2.2.2.1))), (a_t_plan_set, .inl (E 0, 3, .inl (A4 o2.2.2.2.2.2))), (a_t_plan_chances, .inl (E 0, 5, .inl (A4 t_plan_chances)))] → va_S A s.heap H locs → W p l e rm_X5_isItem s m args below meth c H locs 0 0 Q (F0 m 48 ls [.int (z4 o_.1)]) := by
      intro o_ ho_ H locs ls hl hP hD hS
      subst ho_
      obtain ⟨h7, hr3⟩ := ck_some hr3
      obtain rfl := Option.some.inj hr3
      exact ret _ _ _ _ h7 hP hD hS dX5_isItem_48
    obtain ⟨h4, hj3⟩ := ck_some hj3
    refine m_if_eq X h4 dX5_isItem_32 (tgt := 47) (by decide) (fun (hc_ : o2.1 = 0) => ?_) (fun (hc_ : ¬ (o2.1 = 0)) => ?_)
    · rw [if_pos hc_] at hj3
      refine m_iconst X dX5_isItem_47 ?_
      exact J3 _ (Option.some.inj hj3).symm _ _ _ (lv_sub hl [] rfl) hP hD hS
    · rw [if_neg hc_] at hj3
      refine lv_aload_n hx hb dX5_isItem_35 rfl (lv_at hl 0 rfl) ?_
      obtain ⟨o5, ho, hj3⟩ := bd_some hj3
      refine m_cVW X hK hP hD hS hA (wr := [(a_t_plan, .inr (4, [.int (z4 o2.2.2.1), .ref a_t_plan_least, .ref a_t_plan_of, .ref a_t_plan_set, .ref a_t_plan_chances, .int (z4 t_plan_slack), .int (z4 t_plan_limit)])), (a_t_text_values, .inl (E 0, 120, .inl (A4 t_text_values))), (a_t_plan_of, .inl (E 0, 3, .inl (A4 o2.2.2.2.1))), (a_t_plan_least, .inl (E 0, 3, .inl (A4 o2.2.2.2.2.1))), (a_t_plan_set, .inl (E 0, 3, .inl (A4 o2.2.2.2.2.2))), (a_t_plan_chances, .inl (E 0, 5, .inl (A4 t_plan_chances)))]) (k_X5_nextKind n a_t a_t_text a_t_plan a_t_text_letters a_t_text_kinds a_t_text_starts a_t_text_values o2.2.1 t_chanceTold t_sumsTold t_text_size t_text_place t_text_tokens t_text_kinds o5 ho) [0, 2, 3] [1, 4, 5, 6, 7, 8] [6, 0, 7, 8, 1, 2, 3, 4, 5] [(a_t, .inr (5, [.ref a_t_text, .ref a_t_plan, .int (z4 o5.2), .int (z4 t_chanceTold), .int (z4 t_sumsTold)])), (a_t_plan, .inr (4, [.int (z4 o2.2.2.1), .ref a_t_plan_least, .ref a_t_plan_of, .ref a_t_plan_set, .ref a_t_plan_chances, .int (z4 t_plan_slack), .int (z4 t_plan_limit)])), (a_t_text, .inr (9, [.ref a_t_text_letters, .int (z4 t_text_size), .int (z4 t_text_place), .int (z4 t_text_tokens), .ref a_t_text_kinds, .ref a_t_text_starts, .ref a_t_text_values])), (a_t_text_kinds, .inl (E 0, 120, .inl (A4 t_text_kinds))), (a_t_text_values, .inl (E 0, 120, .inl (A4 t_text_values))), (a_t_plan_of, .inl (E 0, 3, .inl (A4 o2.2.2.2.1))), (a_t_plan_least, .inl (E 0, 3, .inl (A4 o2.2.2.2.2.1))), (a_t_plan_set, .inl (E 0, 3, .inl (A4 o2.2.2.2.2.2))), (a_t_plan_chances, .inl (E 0, 5, .inl (A4 t_plan_chances)))] rfl rfl rfl rfl (by decide) rfl rfl rfl cl_X5 lk_X5_42 co_X5_nextKind dy_X5_nextKind rfl rfl ⟨Nat.le_of_ble_eq_true rfl, Nat.le_of_ble_eq_true rfl⟩ hl.1 rfl (Nat.le_of_ble_eq_true rfl) dX5_isItem_36 (Nat.zero_le _) (Nat.zero_le _) (fun H locs hP hD hS => ?_)
      refine m_iconst X dX5_isItem_39 ?_
      obtain ⟨h6, hj3⟩ := ck_some hj3
      refine m_icmp_ne X ⟨h6, ⟨by decide, by decide⟩⟩ dX5_isItem_40 (tgt := 47) (by decide) (fun (hc_ : ¬ (o5.1 = 5)) => ?_) (fun (hc_ : o5.1 = 5) => ?_)
      · rw [if_neg hc_] at hj3
        refine m_iconst X dX5_isItem_47 ?_
        exact J3 _ (Option.some.inj hj3).symm _ _ _ (lv_sub hl [] rfl) hP hD hS
      · rw [if_pos hc_] at hj3
        refine m_iconst X dX5_isItem_43 ?_
        refine lv_goto (tgt := 48) hx hb dX5_isItem_44 (by decide) ?_
        exact J3 _ (Option.some.inj hj3).symm _ _ _ (lv_sub hl [] rfl) hP hD hS
  · rw [if_neg hc1] at hf
    by_cases hc2 : x1 = 2
    · rw [if_pos hc2] at hf
      refine m_swIn X h1 2 hc2 (by decide) dX5_isItem_1 rfl (tgt := 49) (by decide) ?_
      refine lv_aload_n hx hb dX5_isItem_49 rfl (lv_at hl 0 rfl) ?_
      obtain ⟨o8, ho, hf⟩ := bd_some hf
      refine m_cVW X hK hP hD hS hA (wr := [(a_t_plan_of, .inl (E 0, 3, .inl (A4 t_plan_of))), (a_t_plan_least, .inl (E 0, 3, .inl (A4 t_plan_least))), (a_t_plan_set, .inl (E 0, 3, .inl (A4 t_plan_set)))]) (k_X5_areChances n a_t a_t_text a_t_plan a_t_text_letters a_t_text_kinds a_t_text_starts a_t_text_values a_t_plan_least a_t_plan_of a_t_plan_set a_t_plan_chances t_token t_chanceTold t_sumsTold t_text_size t_text_place t_text_tokens t_text_kinds t_text_values t_plan_rules t_plan_slack t_plan_limit t_plan_chances o8 ho) [0, 2, 3, 4, 1, 8] [5, 6, 7] [3, 7, 4, 5, 6, 0, 1, 2, 8] [(a_t, .inr (5, [.ref a_t_text, .ref a_t_plan, .int (z4 o8.2.1), .int (z4 o8.2.2.1), .int (z4 t_sumsTold)])), (a_t_plan, .inr (4, [.int (z4 t_plan_rules), .ref a_t_plan_least, .ref a_t_plan_of, .ref a_t_plan_set, .ref a_t_plan_chances, .int (z4 t_plan_slack), .int (z4 t_plan_limit)])), (a_t_text, .inr (9, [.ref a_t_text_letters, .int (z4 t_text_size), .int (z4 t_text_place), .int (z4 t_text_tokens), .ref a_t_text_kinds, .ref a_t_text_starts, .ref a_t_text_values])), (a_t_text_kinds, .inl (E 0, 120, .inl (A4 t_text_kinds))), (a_t_text_values, .inl (E 0, 120, .inl (A4 t_text_values))), (a_t_plan_of, .inl (E 0, 3, .inl (A4 t_plan_of))), (a_t_plan_least, .inl (E 0, 3, .inl (A4 t_plan_least))), (a_t_plan_set, .inl (E 0, 3, .inl (A4 t_plan_set))), (a_t_plan_chances, .inl (E 0, 5, .inl (A4 o8.2.2.2)))] rfl rfl rfl rfl (by decide) rfl rfl rfl cl_X5 lk_X5_58 co_X5_areChances dy_X5_areChances rfl rfl ⟨Nat.le_of_ble_eq_true rfl, Nat.le_of_ble_eq_true rfl⟩ hl.1 rfl (Nat.le_of_ble_eq_true rfl) dX5_isItem_50 (Nat.zero_le _) (Nat.zero_le _) (fun H locs hP hD hS => ?_)
      obtain ⟨o9, hj9, hr9⟩ := bd_some hf
      have J9 : ∀ (o_ : Int × Int), o9 = o_ → ∀ (H : Heap) (locs : List Loc) (ls : Array Slot), lv_has ls 2 [] → va_P D vwCl [(a_t, .inr (5, [.ref a_t_text, .ref a_t_plan, .int (z4 o_.2), .int (z4 o8.2.2.1), .int (z4 t_sumsTold)])), (a_t_plan, .inr (4, [.int (z4 t_plan_rules), .ref a_t_plan_least, .ref a_t_plan_of, .ref a_t_plan_set, .ref a_t_plan_chances, .int (z4 t_plan_slack), .int (z4 t_plan_limit)])), (a_t_text, .inr (9, [.ref a_t_text_letters, .int (z4 t_text_size), .int (z4 t_text_place), .int (z4 t_text_tokens), .ref a_t_text_kinds, .ref a_t_text_starts, .ref a_t_text_values])), (a_t_text_kinds, .inl (E 0, 120, .inl (A4 t_text_kinds))), (a_t_text_values, .inl (E 0, 120, .inl (A4 t_text_values))), (a_t_plan_of, .inl (E 0, 3, .inl (A4 t_plan_of))), (a_t_plan_least, .inl (E 0, 3, .inl (A4 t_plan_least))), (a_t_plan_set, .inl (E 0, 3, .inl (A4 t_plan_set))), (a_t_plan_chances, .inl (E 0, 5, .inl (A4 o8.2.2.2)))] H → va_D A [(a_t, .inr (5, [.ref a_t_text, .ref a_t_plan, .int (z4 o_.2), .int (z4 o8.2.2.1), .int (z4 t_sumsTold)])), (a_t_plan, .inr (4, [.int (z4 t_plan_rules), .ref a_t_plan_least, .ref a_t_plan_of, .ref a_t_plan_set, .ref a_t_plan_chances, .int (z4 t_plan_slack), .int (z4 t_plan_limit)])), (a_t_text, .inr (9, [.ref a_t_text_letters, .int (z4 t_text_size), .int (z4 t_text_place), .int (z4 t_text_tokens), .ref a_t_text_kinds, .ref a_t_text_starts, .ref a_t_text_values])), (a_t_text_kinds, .inl (E 0, 120, .inl (A4 t_text_kinds))), (a_t_text_values, .inl (E 0, 120, .inl (A4 t_text_values))), (a_t_plan_of, .inl (E 0, 3, .inl (A4 t_plan_of))), (a_t_plan_least, .inl (E 0, 3, .inl (A4 t_plan_least))), (a_t_plan_set, .inl (E 0, 3, .inl (A4 t_plan_set))), (a_t_plan_chances, .inl (E 0, 5, .inl (A4 o8.2.2.2)))] → va_S A s.heap H locs → W p l e rm_X5_isItem s m args below meth c H locs 0 0 Q (F0 m 69 ls [.int (z4 o_.1)]) := by
        intro o_ ho_ H locs ls hl hP hD hS
        subst ho_
        obtain ⟨h13, hr9⟩ := ck_some hr9
        obtain rfl := Option.some.inj hr9
        exact ret _ _ _ _ h13 hP hD hS dX5_isItem_69
      obtain ⟨h10, hj9⟩ := ck_some hj9
      refine m_if_eq X h10 dX5_isItem_53 (tgt := 68) (by decide) (fun (hc_ : o8.1 = 0) => ?_) (fun (hc_ : ¬ (o8.1 = 0)) => ?_)
      · rw [if_pos hc_] at hj9
        refine m_iconst X dX5_isItem_68 ?_
        exact J9 _ (Option.some.inj hj9).symm _ _ _ (lv_sub hl [] rfl) hP hD hS
      · rw [if_neg hc_] at hj9
        refine lv_aload_n hx hb dX5_isItem_56 rfl (lv_at hl 0 rfl) ?_
        obtain ⟨o11, ho, hj9⟩ := bd_some hj9
        refine m_cVW X hK hP hD hS hA (wr := [(a_t_plan, .inr (4, [.int (z4 t_plan_rules), .ref a_t_plan_least, .ref a_t_plan_of, .ref a_t_plan_set, .ref a_t_plan_chances, .int (z4 t_plan_slack), .int (z4 t_plan_limit)])), (a_t_text_values, .inl (E 0, 120, .inl (A4 t_text_values))), (a_t_plan_of, .inl (E 0, 3, .inl (A4 t_plan_of))), (a_t_plan_least, .inl (E 0, 3, .inl (A4 t_plan_least))), (a_t_plan_set, .inl (E 0, 3, .inl (A4 t_plan_set))), (a_t_plan_chances, .inl (E 0, 5, .inl (A4 o8.2.2.2)))]) (k_X5_nextKind n a_t a_t_text a_t_plan a_t_text_letters a_t_text_kinds a_t_text_starts a_t_text_values o8.2.1 o8.2.2.1 t_sumsTold t_text_size t_text_place t_text_tokens t_text_kinds o11 ho) [0, 2, 3] [1, 4, 5, 6, 7, 8] [6, 0, 7, 8, 1, 2, 3, 4, 5] [(a_t, .inr (5, [.ref a_t_text, .ref a_t_plan, .int (z4 o11.2), .int (z4 o8.2.2.1), .int (z4 t_sumsTold)])), (a_t_plan, .inr (4, [.int (z4 t_plan_rules), .ref a_t_plan_least, .ref a_t_plan_of, .ref a_t_plan_set, .ref a_t_plan_chances, .int (z4 t_plan_slack), .int (z4 t_plan_limit)])), (a_t_text, .inr (9, [.ref a_t_text_letters, .int (z4 t_text_size), .int (z4 t_text_place), .int (z4 t_text_tokens), .ref a_t_text_kinds, .ref a_t_text_starts, .ref a_t_text_values])), (a_t_text_kinds, .inl (E 0, 120, .inl (A4 t_text_kinds))), (a_t_text_values, .inl (E 0, 120, .inl (A4 t_text_values))), (a_t_plan_of, .inl (E 0, 3, .inl (A4 t_plan_of))), (a_t_plan_least, .inl (E 0, 3, .inl (A4 t_plan_least))), (a_t_plan_set, .inl (E 0, 3, .inl (A4 t_plan_set))), (a_t_plan_chances, .inl (E 0, 5, .inl (A4 o8.2.2.2)))] rfl rfl rfl rfl (by decide) rfl rfl rfl cl_X5 lk_X5_42 co_X5_nextKind dy_X5_nextKind rfl rfl ⟨Nat.le_of_ble_eq_true rfl, Nat.le_of_ble_eq_true rfl⟩ hl.1 rfl (Nat.le_of_ble_eq_true rfl) dX5_isItem_57 (Nat.zero_le _) (Nat.zero_le _) (fun H locs hP hD hS => ?_)
        refine m_iconst X dX5_isItem_60 ?_
        obtain ⟨h12, hj9⟩ := ck_some hj9
        refine m_icmp_ne X ⟨h12, ⟨by decide, by decide⟩⟩ dX5_isItem_61 (tgt := 68) (by decide) (fun (hc_ : ¬ (o11.1 = 5)) => ?_) (fun (hc_ : o11.1 = 5) => ?_)
        · rw [if_neg hc_] at hj9
          refine m_iconst X dX5_isItem_68 ?_
          exact J9 _ (Option.some.inj hj9).symm _ _ _ (lv_sub hl [] rfl) hP hD hS
        · rw [if_pos hc_] at hj9
          refine m_iconst X dX5_isItem_64 ?_
          refine lv_goto (tgt := 69) hx hb dX5_isItem_65 (by decide) ?_
          exact J9 _ (Option.some.inj hj9).symm _ _ _ (lv_sub hl [] rfl) hP hD hS
    · rw [if_neg hc2] at hf
      by_cases hc3 : x1 = 3
      · rw [if_pos hc3] at hf
        refine m_swIn X h1 3 hc3 (by decide) dX5_isItem_1 rfl (tgt := 70) (by decide) ?_
        refine lv_aload_n hx hb dX5_isItem_70 rfl (lv_at hl 0 rfl) ?_
        obtain ⟨o14, ho, hf⟩ := bd_some hf
        refine m_cVW X hK hP hD hS hA (wr := [(a_t_plan_of, .inl (E 0, 3, .inl (A4 t_plan_of))), (a_t_plan_least, .inl (E 0, 3, .inl (A4 t_plan_least))), (a_t_plan_set, .inl (E 0, 3, .inl (A4 t_plan_set))), (a_t_plan_chances, .inl (E 0, 5, .inl (A4 t_plan_chances)))]) (k_X5_areSums n a_t a_t_text a_t_plan a_t_text_letters a_t_text_kinds a_t_text_starts a_t_text_values a_t_plan_least a_t_plan_of a_t_plan_set a_t_plan_chances t_token t_chanceTold t_sumsTold t_text_size t_text_place t_text_tokens t_text_kinds t_text_values t_plan_rules t_plan_slack t_plan_limit o14 ho) [0, 2, 3, 4, 1] [5, 6, 7, 8] [4, 8, 5, 6, 7, 0, 1, 2, 3] [(a_t, .inr (5, [.ref a_t_text, .ref a_t_plan, .int (z4 o14.2.1), .int (z4 t_chanceTold), .int (z4 o14.2.2.1)])), (a_t_plan, .inr (4, [.int (z4 t_plan_rules), .ref a_t_plan_least, .ref a_t_plan_of, .ref a_t_plan_set, .ref a_t_plan_chances, .int (z4 o14.2.2.2.1), .int (z4 o14.2.2.2.2)])), (a_t_text, .inr (9, [.ref a_t_text_letters, .int (z4 t_text_size), .int (z4 t_text_place), .int (z4 t_text_tokens), .ref a_t_text_kinds, .ref a_t_text_starts, .ref a_t_text_values])), (a_t_text_kinds, .inl (E 0, 120, .inl (A4 t_text_kinds))), (a_t_text_values, .inl (E 0, 120, .inl (A4 t_text_values))), (a_t_plan_of, .inl (E 0, 3, .inl (A4 t_plan_of))), (a_t_plan_least, .inl (E 0, 3, .inl (A4 t_plan_least))), (a_t_plan_set, .inl (E 0, 3, .inl (A4 t_plan_set))), (a_t_plan_chances, .inl (E 0, 5, .inl (A4 t_plan_chances)))] rfl rfl rfl rfl (by decide) rfl rfl rfl cl_X5 lk_X5_61 co_X5_areSums dy_X5_areSums rfl rfl ⟨Nat.le_of_ble_eq_true rfl, Nat.le_of_ble_eq_true rfl⟩ hl.1 rfl (Nat.le_of_ble_eq_true rfl) dX5_isItem_71 (Nat.zero_le _) (Nat.zero_le _) (fun H locs hP hD hS => ?_)
        obtain ⟨o15, hj15, hr15⟩ := bd_some hf
        have J15 : ∀ (o_ : Int × Int), o15 = o_ → ∀ (H : Heap) (locs : List Loc) (ls : Array Slot), lv_has ls 2 [] → va_P D vwCl [(a_t, .inr (5, [.ref a_t_text, .ref a_t_plan, .int (z4 o_.2), .int (z4 t_chanceTold), .int (z4 o14.2.2.1)])), (a_t_plan, .inr (4, [.int (z4 t_plan_rules), .ref a_t_plan_least, .ref a_t_plan_of, .ref a_t_plan_set, .ref a_t_plan_chances, .int (z4 o14.2.2.2.1), .int (z4 o14.2.2.2.2)])), (a_t_text, .inr (9, [.ref a_t_text_letters, .int (z4 t_text_size), .int (z4 t_text_place), .int (z4 t_text_tokens), .ref a_t_text_kinds, .ref a_t_text_starts, .ref a_t_text_values])), (a_t_text_kinds, .inl (E 0, 120, .inl (A4 t_text_kinds))), (a_t_text_values, .inl (E 0, 120, .inl (A4 t_text_values))), (a_t_plan_of, .inl (E 0, 3, .inl (A4 t_plan_of))), (a_t_plan_least, .inl (E 0, 3, .inl (A4 t_plan_least))), (a_t_plan_set, .inl (E 0, 3, .inl (A4 t_plan_set))), (a_t_plan_chances, .inl (E 0, 5, .inl (A4 t_plan_chances)))] H → va_D A [(a_t, .inr (5, [.ref a_t_text, .ref a_t_plan, .int (z4 o_.2), .int (z4 t_chanceTold), .int (z4 o14.2.2.1)])), (a_t_plan, .inr (4, [.int (z4 t_plan_rules), .ref a_t_plan_least, .ref a_t_plan_of, .ref a_t_plan_set, .ref a_t_plan_chances, .int (z4 o14.2.2.2.1), .int (z4 o14.2.2.2.2)])), (a_t_text, .inr (9, [.ref a_t_text_letters, .int (z4 t_text_size), .int (z4 t_text_place), .int (z4 t_text_tokens), .ref a_t_text_kinds, .ref a_t_text_starts, .ref a_t_text_values])), (a_t_text_kinds, .inl (E 0, 120, .inl (A4 t_text_kinds))), (a_t_text_values, .inl (E 0, 120, .inl (A4 t_text_values))), (a_t_plan_of, .inl (E 0, 3, .inl (A4 t_plan_of))), (a_t_plan_least, .inl (E 0, 3, .inl (A4 t_plan_least))), (a_t_plan_set, .inl (E 0, 3, .inl (A4 t_plan_set))), (a_t_plan_chances, .inl (E 0, 5, .inl (A4 t_plan_chances)))] → va_S A s.heap H locs → W p l e rm_X5_isItem s m args below meth c H locs 0 0 Q (F0 m 90 ls [.int (z4 o_.1)]) := by
          intro o_ ho_ H locs ls hl hP hD hS
          subst ho_
          obtain ⟨h19, hr15⟩ := ck_some hr15
          obtain rfl := Option.some.inj hr15
          exact ret _ _ _ _ h19 hP hD hS dX5_isItem_90
        obtain ⟨h16, hj15⟩ := ck_some hj15
        refine m_if_eq X h16 dX5_isItem_74 (tgt := 89) (by decide) (fun (hc_ : o14.1 = 0) => ?_) (fun (hc_ : ¬ (o14.1 = 0)) => ?_)
        · rw [if_pos hc_] at hj15
          refine m_iconst X dX5_isItem_89 ?_
          exact J15 _ (Option.some.inj hj15).symm _ _ _ (lv_sub hl [] rfl) hP hD hS
        · rw [if_neg hc_] at hj15
          refine lv_aload_n hx hb dX5_isItem_77 rfl (lv_at hl 0 rfl) ?_
          obtain ⟨o17, ho, hj15⟩ := bd_some hj15
          refine m_cVW X hK hP hD hS hA (wr := [(a_t_plan, .inr (4, [.int (z4 t_plan_rules), .ref a_t_plan_least, .ref a_t_plan_of, .ref a_t_plan_set, .ref a_t_plan_chances, .int (z4 o14.2.2.2.1), .int (z4 o14.2.2.2.2)])), (a_t_text_values, .inl (E 0, 120, .inl (A4 t_text_values))), (a_t_plan_of, .inl (E 0, 3, .inl (A4 t_plan_of))), (a_t_plan_least, .inl (E 0, 3, .inl (A4 t_plan_least))), (a_t_plan_set, .inl (E 0, 3, .inl (A4 t_plan_set))), (a_t_plan_chances, .inl (E 0, 5, .inl (A4 t_plan_chances)))]) (k_X5_nextKind n a_t a_t_text a_t_plan a_t_text_letters a_t_text_kinds a_t_text_starts a_t_text_values o14.2.1 t_chanceTold o14.2.2.1 t_text_size t_text_place t_text_tokens t_text_kinds o17 ho) [0, 2, 3] [1, 4, 5, 6, 7, 8] [6, 0, 7, 8, 1, 2, 3, 4, 5] [(a_t, .inr (5, [.ref a_t_text, .ref a_t_plan, .int (z4 o17.2), .int (z4 t_chanceTold), .int (z4 o14.2.2.1)])), (a_t_plan, .inr (4, [.int (z4 t_plan_rules), .ref a_t_plan_least, .ref a_t_plan_of, .ref a_t_plan_set, .ref a_t_plan_chances, .int (z4 o14.2.2.2.1), .int (z4 o14.2.2.2.2)])), (a_t_text, .inr (9, [.ref a_t_text_letters, .int (z4 t_text_size), .int (z4 t_text_place), .int (z4 t_text_tokens), .ref a_t_text_kinds, .ref a_t_text_starts, .ref a_t_text_values])), (a_t_text_kinds, .inl (E 0, 120, .inl (A4 t_text_kinds))), (a_t_text_values, .inl (E 0, 120, .inl (A4 t_text_values))), (a_t_plan_of, .inl (E 0, 3, .inl (A4 t_plan_of))), (a_t_plan_least, .inl (E 0, 3, .inl (A4 t_plan_least))), (a_t_plan_set, .inl (E 0, 3, .inl (A4 t_plan_set))), (a_t_plan_chances, .inl (E 0, 5, .inl (A4 t_plan_chances)))] rfl rfl rfl rfl (by decide) rfl rfl rfl cl_X5 lk_X5_42 co_X5_nextKind dy_X5_nextKind rfl rfl ⟨Nat.le_of_ble_eq_true rfl, Nat.le_of_ble_eq_true rfl⟩ hl.1 rfl (Nat.le_of_ble_eq_true rfl) dX5_isItem_78 (Nat.zero_le _) (Nat.zero_le _) (fun H locs hP hD hS => ?_)
          refine m_iconst X dX5_isItem_81 ?_
          obtain ⟨h18, hj15⟩ := ck_some hj15
          refine m_icmp_ne X ⟨h18, ⟨by decide, by decide⟩⟩ dX5_isItem_82 (tgt := 89) (by decide) (fun (hc_ : ¬ (o17.1 = 5)) => ?_) (fun (hc_ : o17.1 = 5) => ?_)
          · rw [if_neg hc_] at hj15
            refine m_iconst X dX5_isItem_89 ?_
            exact J15 _ (Option.some.inj hj15).symm _ _ _ (lv_sub hl [] rfl) hP hD hS
          · rw [if_pos hc_] at hj15
            refine m_iconst X dX5_isItem_85 ?_
            refine lv_goto (tgt := 90) hx hb dX5_isItem_86 (by decide) ?_
            exact J15 _ (Option.some.inj hj15).symm _ _ _ (lv_sub hl [] rfl) hP hD hS
      · rw [if_neg hc3] at hf
        refine m_swOut X h1 (by omega) dX5_isItem_1 (tgt := 91) (by decide) ?_
        refine m_iconst X dX5_isItem_91 ?_
        obtain rfl := Option.some.inj hf
        exact ret _ _ _ _ (Or.inl rfl) hP hD hS dX5_isItem_92
def F_X5_read_L31 (n : Nat) (o1 : Int × Int × (Nat → Int) × (Nat → Int) × (Nat → Int)) (v31_1 : Int) (t_token_l31 : Int) (t_chanceTold_l31 : Int) (t_sumsTold_l31 : Int) (t_plan_rules_l31 : Int) (t_plan_slack_l31 : Int) (t_plan_limit_l31 : Int) (t_plan_chances_l31 : Nat → Int) (t_plan_of_l31 : Nat → Int) (t_plan_least_l31 : Nat → Int) (t_plan_set_l31 : Nat → Int) : Option ((Int × Int × Int × Int × Int × Int × Int × (Nat → Int) × (Nat → Int) × (Nat → Int) × (Nat → Int)) ⊕ ((Int × Int × Int × Int × Int × Int × (Nat → Int) × (Nat → Int) × (Nat → Int) × (Nat → Int)) ⊕ (Int × Int × Int × Int × Int × Int × (Nat → Int) × (Nat → Int) × (Nat → Int) × (Nat → Int)) ⊕ (Int × Int × Int × Int × Int × Int × Int × (Nat → Int) × (Nat → Int) × (Nat → Int) × (Nat → Int)))) :=
  ck (r4 v31_1) <|
  if 120 < v31_1 then
    some (.inr (.inl (t_token_l31, t_chanceTold_l31, t_sumsTold_l31, t_plan_rules_l31, t_plan_slack_l31, t_plan_limit_l31, t_plan_chances_l31, t_plan_of_l31, t_plan_least_l31, t_plan_set_l31)))
  else
    (F_X5_nextKind n t_token_l31 o1.2.1 o1.2.2.2.2).bind fun o5 =>
    ck (r4 o5.1) <|
    if o5.1 = 0 then
      some (.inr (.inr (.inr (v31_1, o5.2, t_chanceTold_l31, t_sumsTold_l31, t_plan_rules_l31, t_plan_slack_l31, t_plan_limit_l31, t_plan_chances_l31, t_plan_of_l31, t_plan_least_l31, t_plan_set_l31))))
    else
      (F_X5_isItem n o5.2 t_chanceTold_l31 t_sumsTold_l31 t_plan_rules_l31 t_plan_slack_l31 t_plan_limit_l31 o1.2.1 o1.2.2.2.2 o1.2.2.2.1 t_plan_of_l31 t_plan_least_l31 t_plan_set_l31 t_plan_chances_l31 o5.1).bind fun o7 =>
      ck (r4 o7.1) <|
      if o7.1 = 0 then
        some (.inr (.inr (.inl (o7.2.1, o7.2.2.1, o7.2.2.2.1, o7.2.2.2.2.1, o7.2.2.2.2.2.1, o7.2.2.2.2.2.2.1, o7.2.2.2.2.2.2.2.2.2.2, o7.2.2.2.2.2.2.2.1, o7.2.2.2.2.2.2.2.2.1, o7.2.2.2.2.2.2.2.2.2.1))))
      else
        some (.inl (v31_1 + 1, o7.2.1, o7.2.2.1, o7.2.2.2.1, o7.2.2.2.2.1, o7.2.2.2.2.2.1, o7.2.2.2.2.2.2.1, o7.2.2.2.2.2.2.2.2.2.2, o7.2.2.2.2.2.2.2.1, o7.2.2.2.2.2.2.2.2.1, o7.2.2.2.2.2.2.2.2.2.1))
def F_X5_read (n : Nat)  (t_text_size : Int) (t_text_letters : Nat → Int) (t_text_starts : Nat → Int) (t_text_values : Nat → Int) (t_text_kinds : Nat → Int) (t_plan_chances : Nat → Int) (t_plan_of : Nat → Int) (t_plan_least : Nat → Int) (t_plan_set : Nat → Int)  : Option (Int × Int × Int × Int × Int × Int × (Nat → Int) × (Nat → Int) × (Nat → Int) × Int × Int × Int × (Nat → Int) × (Nat → Int) × (Nat → Int) × (Nat → Int)) :=
  (F_X9_cut n t_text_size t_text_letters t_text_starts t_text_values t_text_kinds).bind fun o1 =>
  (F_X4_becomeFirst n t_plan_chances).bind fun o2 =>
  (lp_ (fun (q : Int × Int × Int × Int × Int × Int × Int × (Nat → Int) × (Nat → Int) × (Nat → Int) × (Nat → Int)) => F_X5_read_L31 n o1 q.1 q.2.1 q.2.2.1 q.2.2.2.1 q.2.2.2.2.1 q.2.2.2.2.2.1 q.2.2.2.2.2.2.1 q.2.2.2.2.2.2.2.1 q.2.2.2.2.2.2.2.2.1 q.2.2.2.2.2.2.2.2.2.1 q.2.2.2.2.2.2.2.2.2.2) n (0, (-1), 0, 0, o2.1, o2.2.1, o2.2.2.1, o2.2.2.2, t_plan_of, t_plan_least, t_plan_set)).bind fun o3 => match o3 with
  | .inl o3_0 =>
    (F_X9_startOf n t_text_size o1.2.1 o1.2.2.1 o3_0.1).bind fun o9 =>
    some ((-10) - o9, o3_0.1, o3_0.2.1, o3_0.2.2.1, o1.1, o1.2.1, o1.2.2.1, o1.2.2.2.1, o1.2.2.2.2, o3_0.2.2.2.1, o3_0.2.2.2.2.1, o3_0.2.2.2.2.2.1, o3_0.2.2.2.2.2.2.1, o3_0.2.2.2.2.2.2.2.1, o3_0.2.2.2.2.2.2.2.2.1, o3_0.2.2.2.2.2.2.2.2.2)
  | .inr (.inl o3_1) =>
    (F_X9_startOf n t_text_size o1.2.1 o1.2.2.1 o3_1.1).bind fun o10 =>
    some ((-10) - o10, o3_1.1, o3_1.2.1, o3_1.2.2.1, o1.1, o1.2.1, o1.2.2.1, o1.2.2.2.1, o1.2.2.2.2, o3_1.2.2.2.1, o3_1.2.2.2.2.1, o3_1.2.2.2.2.2.1, o3_1.2.2.2.2.2.2.1, o3_1.2.2.2.2.2.2.2.1, o3_1.2.2.2.2.2.2.2.2.1, o3_1.2.2.2.2.2.2.2.2.2)
  | .inr (.inr o3_2) =>
    some (o3_2.1, o3_2.2.1, o3_2.2.2.1, o3_2.2.2.2.1, o1.1, o1.2.1, o1.2.2.1, o1.2.2.2.1, o1.2.2.2.2, o3_2.2.2.2.2.1, o3_2.2.2.2.2.2.1, o3_2.2.2.2.2.2.2.1, o3_2.2.2.2.2.2.2.2.1, o3_2.2.2.2.2.2.2.2.2.1, o3_2.2.2.2.2.2.2.2.2.2.1, o3_2.2.2.2.2.2.2.2.2.2.2)
def rm_X5_read : Room := { frames := 8, cells := 0, slots := 0, locals := 199 }
set_option maxHeartbeats 4000000 in
set_option maxRecDepth 100000 in
theorem k_X5_read {l : Launch} {D : va_G} {E : Nat → ClassId} {B : Nat} {Z : ZT} (n : Nat) (a_t a_t_text a_t_plan a_t_text_letters a_t_text_kinds a_t_text_starts a_t_text_values a_t_plan_least a_t_plan_of a_t_plan_set a_t_plan_chances : Nat) (t_token : Int) (t_chanceTold : Int) (t_sumsTold : Int) (t_text_size : Int) (t_text_place : Int) (t_text_tokens : Int) (t_text_letters : Nat → Int) (t_text_starts : Nat → Int) (t_text_values : Nat → Int) (t_text_kinds : Nat → Int) (t_plan_rules : Int) (t_plan_slack : Int) (t_plan_limit : Int) (t_plan_chances : Nat → Int) (t_plan_of : Nat → Int) (t_plan_least : Nat → Int) (t_plan_set : Nat → Int) (res : Int × Int × Int × Int × Int × Int × (Nat → Int) × (Nat → Int) × (Nat → Int) × Int × Int × Int × (Nat → Int) × (Nat → Int) × (Nat → Int) × (Nat → Int)) (hf : F_X5_read n t_text_size t_text_letters t_text_starts t_text_values t_text_kinds t_plan_chances t_plan_of t_plan_least t_plan_set = some res) : MWs l yX5_read (.code yX5_read cX5_read 3 (some .int)) rm_X5_read D E B Z [.ref a_t] [(a_t, .inr (5, [.ref a_t_text, .ref a_t_plan, .int (z4 t_token), .int (z4 t_chanceTold), .int (z4 t_sumsTold)])), (a_t_text, .inr (9, [.ref a_t_text_letters, .int (z4 t_text_size), .int (z4 t_text_place), .int (z4 t_text_tokens), .ref a_t_text_kinds, .ref a_t_text_starts, .ref a_t_text_values])), (a_t_text_letters, .inl (E 0, 120, .inl (A4 t_text_letters))), (a_t_text_starts, .inl (E 0, 120, .inl (A4 t_text_starts))), (a_t_text_values, .inl (E 0, 120, .inl (A4 t_text_values))), (a_t_text_kinds, .inl (E 0, 120, .inl (A4 t_text_kinds))), (a_t_plan, .inr (4, [.int (z4 t_plan_rules), .ref a_t_plan_least, .ref a_t_plan_of, .ref a_t_plan_set, .ref a_t_plan_chances, .int (z4 t_plan_slack), .int (z4 t_plan_limit)])), (a_t_plan_chances, .inl (E 0, 5, .inl (A4 t_plan_chances))), (a_t_plan_of, .inl (E 0, 3, .inl (A4 t_plan_of))), (a_t_plan_least, .inl (E 0, 3, .inl (A4 t_plan_least))), (a_t_plan_set, .inl (E 0, 3, .inl (A4 t_plan_set)))] (some (.int (z4 res.1))) [(a_t, .inr (5, [.ref a_t_text, .ref a_t_plan, .int (z4 res.2.1), .int (z4 res.2.2.1), .int (z4 res.2.2.2.1)])), (a_t_text, .inr (9, [.ref a_t_text_letters, .int (z4 t_text_size), .int (z4 res.2.2.2.2.1), .int (z4 res.2.2.2.2.2.1), .ref a_t_text_kinds, .ref a_t_text_starts, .ref a_t_text_values])), (a_t_text_letters, .inl (E 0, 120, .inl (A4 t_text_letters))), (a_t_text_starts, .inl (E 0, 120, .inl (A4 res.2.2.2.2.2.2.1))), (a_t_text_values, .inl (E 0, 120, .inl (A4 res.2.2.2.2.2.2.2.1))), (a_t_text_kinds, .inl (E 0, 120, .inl (A4 res.2.2.2.2.2.2.2.2.1))), (a_t_plan, .inr (4, [.int (z4 res.2.2.2.2.2.2.2.2.2.1), .ref a_t_plan_least, .ref a_t_plan_of, .ref a_t_plan_set, .ref a_t_plan_chances, .int (z4 res.2.2.2.2.2.2.2.2.2.2.1), .int (z4 res.2.2.2.2.2.2.2.2.2.2.2.1)])), (a_t_plan_chances, .inl (E 0, 5, .inl (A4 res.2.2.2.2.2.2.2.2.2.2.2.2.1))), (a_t_plan_of, .inl (E 0, 3, .inl (A4 res.2.2.2.2.2.2.2.2.2.2.2.2.2.1))), (a_t_plan_least, .inl (E 0, 3, .inl (A4 res.2.2.2.2.2.2.2.2.2.2.2.2.2.2.1))), (a_t_plan_set, .inl (E 0, 3, .inl (A4 res.2.2.2.2.2.2.2.2.2.2.2.2.2.2.2)))] := by
  refine MWis (by decide +kernel) (Nat.le_of_ble_eq_true rfl) ?_
  intro p e s m args below meth c A Q X hK hF hP hD hA hAB ret ls hl
  have hS : va_S A s.heap s.heap [] := va_S.rf
  have hx := X.1
  have hb := X.2.1
  have hl : lv_has ls 3 [(0, .ref a_t)] := hl
  unfold F_X5_read at hf
  refine lv_aload_n hx hb dX5_read_0 rfl (lv_at hl 0 rfl) ?_
  refine m_get X hK hP cl_X5 iT_X5 0 (by decide) fl_X5_12 0 rfl rfl dX5_read_1 ?_
  obtain ⟨o1, ho, hf⟩ := bd_some hf
  refine m_cVWs X hK hF hAB (hAB _ (hA _ (Nat.le_refl _))) hP hD hS hA (wr := [(a_t, .inr (5, [.ref a_t_text, .ref a_t_plan, .int (z4 t_token), .int (z4 t_chanceTold), .int (z4 t_sumsTold)])), (a_t_plan, .inr (4, [.int (z4 t_plan_rules), .ref a_t_plan_least, .ref a_t_plan_of, .ref a_t_plan_set, .ref a_t_plan_chances, .int (z4 t_plan_slack), .int (z4 t_plan_limit)])), (a_t_plan_chances, .inl (E 0, 5, .inl (A4 t_plan_chances))), (a_t_plan_of, .inl (E 0, 3, .inl (A4 t_plan_of))), (a_t_plan_least, .inl (E 0, 3, .inl (A4 t_plan_least))), (a_t_plan_set, .inl (E 0, 3, .inl (A4 t_plan_set)))]) (k_X9_cut n a_t_text a_t_text_letters a_t_text_kinds a_t_text_starts a_t_text_values t_text_size t_text_place t_text_tokens t_text_letters t_text_starts t_text_values t_text_kinds o1 ho) [1, 2, 3, 4, 5] [0, 6, 7, 8, 9, 10] [0, 6, 7, 8, 9, 10, 1, 2, 3, 4, 5] [(a_t, .inr (5, [.ref a_t_text, .ref a_t_plan, .int (z4 t_token), .int (z4 t_chanceTold), .int (z4 t_sumsTold)])), (a_t_text, .inr (9, [.ref a_t_text_letters, .int (z4 t_text_size), .int (z4 o1.1), .int (z4 o1.2.1), .ref a_t_text_kinds, .ref a_t_text_starts, .ref a_t_text_values])), (a_t_text_letters, .inl (E 0, 120, .inl (A4 t_text_letters))), (a_t_text_starts, .inl (E 0, 120, .inl (A4 o1.2.2.1))), (a_t_text_values, .inl (E 0, 120, .inl (A4 o1.2.2.2.1))), (a_t_text_kinds, .inl (E 0, 120, .inl (A4 o1.2.2.2.2))), (a_t_plan, .inr (4, [.int (z4 t_plan_rules), .ref a_t_plan_least, .ref a_t_plan_of, .ref a_t_plan_set, .ref a_t_plan_chances, .int (z4 t_plan_slack), .int (z4 t_plan_limit)])), (a_t_plan_chances, .inl (E 0, 5, .inl (A4 t_plan_chances))), (a_t_plan_of, .inl (E 0, 3, .inl (A4 t_plan_of))), (a_t_plan_least, .inl (E 0, 3, .inl (A4 t_plan_least))), (a_t_plan_set, .inl (E 0, 3, .inl (A4 t_plan_set)))] rfl rfl rfl rfl (by decide) rfl rfl rfl cl_X9 lk_X5_25 co_X9_cut dy_X9_cut rfl rfl ⟨Nat.le_of_ble_eq_true rfl, Nat.le_of_ble_eq_true rfl⟩ hl.1 rfl (Nat.le_of_ble_eq_true rfl) dX5_read_4 (Nat.zero_le _) (Nat.zero_le _) (fun H locs hP hD hS => ?_)
  refine lv_aload_n hx hb dX5_read_7 rfl (lv_at hl 0 rfl) ?_
  refine m_get X hK hP cl_X5 iT_X5 1 (by decide) fl_X5_21 0 rfl rfl dX5_read_8 ?_
  obtain ⟨o2, ho, hf⟩ := bd_some hf
  refine m_cVWs X hK hF hAB (hAB _ (hA _ (Nat.le_refl _))) hP hD hS hA (wr := [(a_t, .inr (5, [.ref a_t_text, .ref a_t_plan, .int (z4 t_token), .int (z4 t_chanceTold), .int (z4 t_sumsTold)])), (a_t_text, .inr (9, [.ref a_t_text_letters, .int (z4 t_text_size), .int (z4 o1.1), .int (z4 o1.2.1), .ref a_t_text_kinds, .ref a_t_text_starts, .ref a_t_text_values])), (a_t_text_letters, .inl (E 0, 120, .inl (A4 t_text_letters))), (a_t_text_starts, .inl (E 0, 120, .inl (A4 o1.2.2.1))), (a_t_text_values, .inl (E 0, 120, .inl (A4 o1.2.2.2.1))), (a_t_text_kinds, .inl (E 0, 120, .inl (A4 o1.2.2.2.2))), (a_t_plan_of, .inl (E 0, 3, .inl (A4 t_plan_of))), (a_t_plan_least, .inl (E 0, 3, .inl (A4 t_plan_least))), (a_t_plan_set, .inl (E 0, 3, .inl (A4 t_plan_set)))]) (k_X4_becomeFirst n a_t_plan a_t_plan_least a_t_plan_of a_t_plan_set a_t_plan_chances t_plan_rules t_plan_slack t_plan_limit t_plan_chances o2 ho) [6, 7] [0, 1, 2, 3, 4, 5, 8, 9, 10] [0, 1, 2, 3, 4, 5, 9, 10, 6, 7, 8] [(a_t, .inr (5, [.ref a_t_text, .ref a_t_plan, .int (z4 t_token), .int (z4 t_chanceTold), .int (z4 t_sumsTold)])), (a_t_text, .inr (9, [.ref a_t_text_letters, .int (z4 t_text_size), .int (z4 o1.1), .int (z4 o1.2.1), .ref a_t_text_kinds, .ref a_t_text_starts, .ref a_t_text_values])), (a_t_text_letters, .inl (E 0, 120, .inl (A4 t_text_letters))), (a_t_text_starts, .inl (E 0, 120, .inl (A4 o1.2.2.1))), (a_t_text_values, .inl (E 0, 120, .inl (A4 o1.2.2.2.1))), (a_t_text_kinds, .inl (E 0, 120, .inl (A4 o1.2.2.2.2))), (a_t_plan, .inr (4, [.int (z4 o2.1), .ref a_t_plan_least, .ref a_t_plan_of, .ref a_t_plan_set, .ref a_t_plan_chances, .int (z4 o2.2.1), .int (z4 o2.2.2.1)])), (a_t_plan_chances, .inl (E 0, 5, .inl (A4 o2.2.2.2))), (a_t_plan_of, .inl (E 0, 3, .inl (A4 t_plan_of))), (a_t_plan_least, .inl (E 0, 3, .inl (A4 t_plan_least))), (a_t_plan_set, .inl (E 0, 3, .inl (A4 t_plan_set)))] rfl rfl rfl rfl (by decide) rfl rfl rfl cl_X4 lk_X5_28 co_X4_becomeFirst dy_X4_becomeFirst rfl rfl ⟨Nat.le_of_ble_eq_true rfl, Nat.le_of_ble_eq_true rfl⟩ hl.1 rfl (Nat.le_of_ble_eq_true rfl) dX5_read_11 (Nat.zero_le _) (Nat.zero_le _) (fun H locs hP hD hS => ?_)
  refine lv_aload_n hx hb dX5_read_14 rfl (lv_at hl 0 rfl) ?_
  refine m_iconst X dX5_read_15 ?_
  refine m_put X hK hP hD hS cl_X5 iT_X5 tyX5 tyX5_ok nmX5 2 (by decide) fl_X5_31 rfl 0 rfl rfl rfl (Nat.le_of_ble_eq_true rfl) [(a_t, .inr (5, [.ref a_t_text, .ref a_t_plan, .int (z4 (-1)), .int (z4 t_chanceTold), .int (z4 t_sumsTold)])), (a_t_text, .inr (9, [.ref a_t_text_letters, .int (z4 t_text_size), .int (z4 o1.1), .int (z4 o1.2.1), .ref a_t_text_kinds, .ref a_t_text_starts, .ref a_t_text_values])), (a_t_text_letters, .inl (E 0, 120, .inl (A4 t_text_letters))), (a_t_text_starts, .inl (E 0, 120, .inl (A4 o1.2.2.1))), (a_t_text_values, .inl (E 0, 120, .inl (A4 o1.2.2.2.1))), (a_t_text_kinds, .inl (E 0, 120, .inl (A4 o1.2.2.2.2))), (a_t_plan, .inr (4, [.int (z4 o2.1), .ref a_t_plan_least, .ref a_t_plan_of, .ref a_t_plan_set, .ref a_t_plan_chances, .int (z4 o2.2.1), .int (z4 o2.2.2.1)])), (a_t_plan_chances, .inl (E 0, 5, .inl (A4 o2.2.2.2))), (a_t_plan_of, .inl (E 0, 3, .inl (A4 t_plan_of))), (a_t_plan_least, .inl (E 0, 3, .inl (A4 t_plan_least))), (a_t_plan_set, .inl (E 0, 3, .inl (A4 t_plan_set)))] rfl dX5_read_16 (fun H locs hP hD hS => ?_)
  refine lv_aload_n hx hb dX5_read_19 rfl (lv_at hl 0 rfl) ?_
  refine m_iconst X dX5_read_20 ?_
  refine m_put X hK hP hD hS cl_X5 iT_X5 tyX5 tyX5_ok nmX5 3 (by decide) fl_X5_35 rfl 0 rfl rfl rfl (Nat.le_of_ble_eq_true rfl) [(a_t, .inr (5, [.ref a_t_text, .ref a_t_plan, .int (z4 (-1)), .int (z4 0), .int (z4 t_sumsTold)])), (a_t_text, .inr (9, [.ref a_t_text_letters, .int (z4 t_text_size), .int (z4 o1.1), .int (z4 o1.2.1), .ref a_t_text_kinds, .ref a_t_text_starts, .ref a_t_text_values])), (a_t_text_letters, .inl (E 0, 120, .inl (A4 t_text_letters))), (a_t_text_starts, .inl (E 0, 120, .inl (A4 o1.2.2.1))), (a_t_text_values, .inl (E 0, 120, .inl (A4 o1.2.2.2.1))), (a_t_text_kinds, .inl (E 0, 120, .inl (A4 o1.2.2.2.2))), (a_t_plan, .inr (4, [.int (z4 o2.1), .ref a_t_plan_least, .ref a_t_plan_of, .ref a_t_plan_set, .ref a_t_plan_chances, .int (z4 o2.2.1), .int (z4 o2.2.2.1)])), (a_t_plan_chances, .inl (E 0, 5, .inl (A4 o2.2.2.2))), (a_t_plan_of, .inl (E 0, 3, .inl (A4 t_plan_of))), (a_t_plan_least, .inl (E 0, 3, .inl (A4 t_plan_least))), (a_t_plan_set, .inl (E 0, 3, .inl (A4 t_plan_set)))] rfl dX5_read_21 (fun H locs hP hD hS => ?_)
  refine lv_aload_n hx hb dX5_read_24 rfl (lv_at hl 0 rfl) ?_
  refine m_iconst X dX5_read_25 ?_
  refine m_put X hK hP hD hS cl_X5 iT_X5 tyX5 tyX5_ok nmX5 4 (by decide) fl_X5_39 rfl 0 rfl rfl rfl (Nat.le_of_ble_eq_true rfl) [(a_t, .inr (5, [.ref a_t_text, .ref a_t_plan, .int (z4 (-1)), .int (z4 0), .int (z4 0)])), (a_t_text, .inr (9, [.ref a_t_text_letters, .int (z4 t_text_size), .int (z4 o1.1), .int (z4 o1.2.1), .ref a_t_text_kinds, .ref a_t_text_starts, .ref a_t_text_values])), (a_t_text_letters, .inl (E 0, 120, .inl (A4 t_text_letters))), (a_t_text_starts, .inl (E 0, 120, .inl (A4 o1.2.2.1))), (a_t_text_values, .inl (E 0, 120, .inl (A4 o1.2.2.2.1))), (a_t_text_kinds, .inl (E 0, 120, .inl (A4 o1.2.2.2.2))), (a_t_plan, .inr (4, [.int (z4 o2.1), .ref a_t_plan_least, .ref a_t_plan_of, .ref a_t_plan_set, .ref a_t_plan_chances, .int (z4 o2.2.1), .int (z4 o2.2.2.1)])), (a_t_plan_chances, .inl (E 0, 5, .inl (A4 o2.2.2.2))), (a_t_plan_of, .inl (E 0, 3, .inl (A4 t_plan_of))), (a_t_plan_least, .inl (E 0, 3, .inl (A4 t_plan_least))), (a_t_plan_set, .inl (E 0, 3, .inl (A4 t_plan_set)))] rfl dX5_read_26 (fun H locs hP hD hS => ?_)
  refine m_iconst X dX5_read_29 ?_
  refine lv_istore_n (lv' := [(1, .int (z4 0)), (0, .ref a_t)]) hx hb dX5_read_30 rfl hl (by decide) rfl (fun ls hl => ?_)
  obtain ⟨o3, hj3, hr3⟩ := bd_some hf
  have E3_0 : ∀ (o_ : Int × Int × Int × Int × Int × Int × (Nat → Int) × (Nat → Int) × (Nat → Int) × (Nat → Int)), o3 = (.inl o_) → ∀ (H : Heap) (locs : List Loc) (ls : Array Slot), lv_has ls 3 [(0, .ref a_t)] → va_P D vwCl [(a_t, .inr (5, [.ref a_t_text, .ref a_t_plan, .int (z4 o_.1), .int (z4 o_.2.1), .int (z4 o_.2.2.1)])), (a_t_text, .inr (9, [.ref a_t_text_letters, .int (z4 t_text_size), .int (z4 o1.1), .int (z4 o1.2.1), .ref a_t_text_kinds, .ref a_t_text_starts, .ref a_t_text_values])), (a_t_text_letters, .inl (E 0, 120, .inl (A4 t_text_letters))), (a_t_text_starts, .inl (E 0, 120, .inl (A4 o1.2.2.1))), (a_t_text_values, .inl (E 0, 120, .inl (A4 o1.2.2.2.1))), (a_t_text_kinds, .inl (E 0, 120, .inl (A4 o1.2.2.2.2))), (a_t_plan, .inr (4, [.int (z4 o_.2.2.2.1), .ref a_t_plan_least, .ref a_t_plan_of, .ref a_t_plan_set, .ref a_t_plan_chances, .int (z4 o_.2.2.2.2.1), .int (z4 o_.2.2.2.2.2.1)])), (a_t_plan_chances, .inl (E 0, 5, .inl (A4 o_.2.2.2.2.2.2.1))), (a_t_plan_of, .inl (E 0, 3, .inl (A4 o_.2.2.2.2.2.2.2.1))), (a_t_plan_least, .inl (E 0, 3, .inl (A4 o_.2.2.2.2.2.2.2.2.1))), (a_t_plan_set, .inl (E 0, 3, .inl (A4 o_.2.2.2.2.2.2.2.2.2)))] H → va_D A [(a_t, .inr (5, [.ref a_t_text, .ref a_t_plan, .int (z4 o_.1), .int (z4 o_.2.1), .int (z4 o_.2.2.1)])), (a_t_text, .inr (9, [.ref a_t_text_letters, .int (z4 t_text_size), .int (z4 o1.1), .int (z4 o1.2.1), .ref a_t_text_kinds, .ref a_t_text_starts, .ref a_t_text_values])), (a_t_text_letters, .inl (E 0, 120, .inl (A4 t_text_letters))), (a_t_text_starts, .inl (E 0, 120, .inl (A4 o1.2.2.1))), (a_t_text_values, .inl (E 0, 120, .inl (A4 o1.2.2.2.1))), (a_t_text_kinds, .inl (E 0, 120, .inl (A4 o1.2.2.2.2))), (a_t_plan, .inr (4, [.int (z4 o_.2.2.2.1), .ref a_t_plan_least, .ref a_t_plan_of, .ref a_t_plan_set, .ref a_t_plan_chances, .int (z4 o_.2.2.2.2.1), .int (z4 o_.2.2.2.2.2.1)])), (a_t_plan_chances, .inl (E 0, 5, .inl (A4 o_.2.2.2.2.2.2.1))), (a_t_plan_of, .inl (E 0, 3, .inl (A4 o_.2.2.2.2.2.2.2.1))), (a_t_plan_least, .inl (E 0, 3, .inl (A4 o_.2.2.2.2.2.2.2.2.1))), (a_t_plan_set, .inl (E 0, 3, .inl (A4 o_.2.2.2.2.2.2.2.2.2)))] → va_S A s.heap H locs → W p l e rm_X5_read s m args below meth c H locs 0 0 Q (F0 m 65 ls []) := by
    intro o3_0 ho_ H locs ls hl hP hD hS
    subst ho_
    refine m_bipush X dX5_read_65 (by decide) ?_
    refine lv_aload_n hx hb dX5_read_67 rfl (lv_at hl 0 rfl) ?_
    refine m_get X hK hP cl_X5 iT_X5 0 (by decide) fl_X5_12 0 rfl rfl dX5_read_68 ?_
    refine lv_aload_n hx hb dX5_read_71 rfl (lv_at hl 0 rfl) ?_
    refine m_get X hK hP cl_X5 iT_X5 2 (by decide) fl_X5_31 0 rfl rfl dX5_read_72 ?_
    obtain ⟨o9, ho, hr3⟩ := bd_some hr3
    refine m_cVR X hK (k_X9_startOf n a_t_text a_t_text_letters a_t_text_kinds a_t_text_starts a_t_text_values t_text_size o1.1 o1.2.1 o1.2.2.1 o3_0.1 o9 ho) (hP.sub [1, 3] rfl) rfl cl_X9 lk_X5_50 co_X9_startOf dy_X9_startOf rfl rfl ⟨Nat.le_of_ble_eq_true rfl, Nat.le_of_ble_eq_true rfl⟩ hl.1 rfl (Nat.le_of_ble_eq_true rfl) dX5_read_75 (Nat.zero_le _) (Nat.zero_le _) ?_
    refine m_isub X dX5_read_78 ?_
    obtain rfl := Option.some.inj hr3
    exact ret _ _ _ _ hP hD hS dX5_read_79
  have E3_1 : ∀ (o_ : Int × Int × Int × Int × Int × Int × (Nat → Int) × (Nat → Int) × (Nat → Int) × (Nat → Int)), o3 = (.inr (.inl o_)) → ∀ (H : Heap) (locs : List Loc) (ls : Array Slot), lv_has ls 3 [(0, .ref a_t)] → va_P D vwCl [(a_t, .inr (5, [.ref a_t_text, .ref a_t_plan, .int (z4 o_.1), .int (z4 o_.2.1), .int (z4 o_.2.2.1)])), (a_t_text, .inr (9, [.ref a_t_text_letters, .int (z4 t_text_size), .int (z4 o1.1), .int (z4 o1.2.1), .ref a_t_text_kinds, .ref a_t_text_starts, .ref a_t_text_values])), (a_t_text_letters, .inl (E 0, 120, .inl (A4 t_text_letters))), (a_t_text_starts, .inl (E 0, 120, .inl (A4 o1.2.2.1))), (a_t_text_values, .inl (E 0, 120, .inl (A4 o1.2.2.2.1))), (a_t_text_kinds, .inl (E 0, 120, .inl (A4 o1.2.2.2.2))), (a_t_plan, .inr (4, [.int (z4 o_.2.2.2.1), .ref a_t_plan_least, .ref a_t_plan_of, .ref a_t_plan_set, .ref a_t_plan_chances, .int (z4 o_.2.2.2.2.1), .int (z4 o_.2.2.2.2.2.1)])), (a_t_plan_chances, .inl (E 0, 5, .inl (A4 o_.2.2.2.2.2.2.1))), (a_t_plan_of, .inl (E 0, 3, .inl (A4 o_.2.2.2.2.2.2.2.1))), (a_t_plan_least, .inl (E 0, 3, .inl (A4 o_.2.2.2.2.2.2.2.2.1))), (a_t_plan_set, .inl (E 0, 3, .inl (A4 o_.2.2.2.2.2.2.2.2.2)))] H → va_D A [(a_t, .inr (5, [.ref a_t_text, .ref a_t_plan, .int (z4 o_.1), .int (z4 o_.2.1), .int (z4 o_.2.2.1)])), (a_t_text, .inr (9, [.ref a_t_text_letters, .int (z4 t_text_size), .int (z4 o1.1), .int (z4 o1.2.1), .ref a_t_text_kinds, .ref a_t_text_starts, .ref a_t_text_values])), (a_t_text_letters, .inl (E 0, 120, .inl (A4 t_text_letters))), (a_t_text_starts, .inl (E 0, 120, .inl (A4 o1.2.2.1))), (a_t_text_values, .inl (E 0, 120, .inl (A4 o1.2.2.2.1))), (a_t_text_kinds, .inl (E 0, 120, .inl (A4 o1.2.2.2.2))), (a_t_plan, .inr (4, [.int (z4 o_.2.2.2.1), .ref a_t_plan_least, .ref a_t_plan_of, .ref a_t_plan_set, .ref a_t_plan_chances, .int (z4 o_.2.2.2.2.1), .int (z4 o_.2.2.2.2.2.1)])), (a_t_plan_chances, .inl (E 0, 5, .inl (A4 o_.2.2.2.2.2.2.1))), (a_t_plan_of, .inl (E 0, 3, .inl (A4 o_.2.2.2.2.2.2.2.1))), (a_t_plan_least, .inl (E 0, 3, .inl (A4 o_.2.2.2.2.2.2.2.2.1))), (a_t_plan_set, .inl (E 0, 3, .inl (A4 o_.2.2.2.2.2.2.2.2.2)))] → va_S A s.heap H locs → W p l e rm_X5_read s m args below meth c H locs 0 0 Q (F0 m 56 ls []) := by
    intro o3_1 ho_ H locs ls hl hP hD hS
    subst ho_
    refine lv_goto (tgt := 65) hx hb dX5_read_56 (by decide) ?_
    refine m_bipush X dX5_read_65 (by decide) ?_
    refine lv_aload_n hx hb dX5_read_67 rfl (lv_at hl 0 rfl) ?_
    refine m_get X hK hP cl_X5 iT_X5 0 (by decide) fl_X5_12 0 rfl rfl dX5_read_68 ?_
    refine lv_aload_n hx hb dX5_read_71 rfl (lv_at hl 0 rfl) ?_
    refine m_get X hK hP cl_X5 iT_X5 2 (by decide) fl_X5_31 0 rfl rfl dX5_read_72 ?_
    obtain ⟨o10, ho, hr3⟩ := bd_some hr3
    refine m_cVR X hK (k_X9_startOf n a_t_text a_t_text_letters a_t_text_kinds a_t_text_starts a_t_text_values t_text_size o1.1 o1.2.1 o1.2.2.1 o3_1.1 o10 ho) (hP.sub [1, 3] rfl) rfl cl_X9 lk_X5_50 co_X9_startOf dy_X9_startOf rfl rfl ⟨Nat.le_of_ble_eq_true rfl, Nat.le_of_ble_eq_true rfl⟩ hl.1 rfl (Nat.le_of_ble_eq_true rfl) dX5_read_75 (Nat.zero_le _) (Nat.zero_le _) ?_
    refine m_isub X dX5_read_78 ?_
    obtain rfl := Option.some.inj hr3
    exact ret _ _ _ _ hP hD hS dX5_read_79
  have E3_2 : ∀ (o_ : Int × Int × Int × Int × Int × Int × Int × (Nat → Int) × (Nat → Int) × (Nat → Int) × (Nat → Int)), o3 = (.inr (.inr o_)) → ∀ (H : Heap) (locs : List Loc) (ls : Array Slot), lv_has ls 3 [(1, .int (z4 o_.1))] → va_P D vwCl [(a_t, .inr (5, [.ref a_t_text, .ref a_t_plan, .int (z4 o_.2.1), .int (z4 o_.2.2.1), .int (z4 o_.2.2.2.1)])), (a_t_text, .inr (9, [.ref a_t_text_letters, .int (z4 t_text_size), .int (z4 o1.1), .int (z4 o1.2.1), .ref a_t_text_kinds, .ref a_t_text_starts, .ref a_t_text_values])), (a_t_text_letters, .inl (E 0, 120, .inl (A4 t_text_letters))), (a_t_text_starts, .inl (E 0, 120, .inl (A4 o1.2.2.1))), (a_t_text_values, .inl (E 0, 120, .inl (A4 o1.2.2.2.1))), (a_t_text_kinds, .inl (E 0, 120, .inl (A4 o1.2.2.2.2))), (a_t_plan, .inr (4, [.int (z4 o_.2.2.2.2.1), .ref a_t_plan_least, .ref a_t_plan_of, .ref a_t_plan_set, .ref a_t_plan_chances, .int (z4 o_.2.2.2.2.2.1), .int (z4 o_.2.2.2.2.2.2.1)])), (a_t_plan_chances, .inl (E 0, 5, .inl (A4 o_.2.2.2.2.2.2.2.1))), (a_t_plan_of, .inl (E 0, 3, .inl (A4 o_.2.2.2.2.2.2.2.2.1))), (a_t_plan_least, .inl (E 0, 3, .inl (A4 o_.2.2.2.2.2.2.2.2.2.1))), (a_t_plan_set, .inl (E 0, 3, .inl (A4 o_.2.2.2.2.2.2.2.2.2.2)))] H → va_D A [(a_t, .inr (5, [.ref a_t_text, .ref a_t_plan, .int (z4 o_.2.1), .int (z4 o_.2.2.1), .int (z4 o_.2.2.2.1)])), (a_t_text, .inr (9, [.ref a_t_text_letters, .int (z4 t_text_size), .int (z4 o1.1), .int (z4 o1.2.1), .ref a_t_text_kinds, .ref a_t_text_starts, .ref a_t_text_values])), (a_t_text_letters, .inl (E 0, 120, .inl (A4 t_text_letters))), (a_t_text_starts, .inl (E 0, 120, .inl (A4 o1.2.2.1))), (a_t_text_values, .inl (E 0, 120, .inl (A4 o1.2.2.2.1))), (a_t_text_kinds, .inl (E 0, 120, .inl (A4 o1.2.2.2.2))), (a_t_plan, .inr (4, [.int (z4 o_.2.2.2.2.1), .ref a_t_plan_least, .ref a_t_plan_of, .ref a_t_plan_set, .ref a_t_plan_chances, .int (z4 o_.2.2.2.2.2.1), .int (z4 o_.2.2.2.2.2.2.1)])), (a_t_plan_chances, .inl (E 0, 5, .inl (A4 o_.2.2.2.2.2.2.2.1))), (a_t_plan_of, .inl (E 0, 3, .inl (A4 o_.2.2.2.2.2.2.2.2.1))), (a_t_plan_least, .inl (E 0, 3, .inl (A4 o_.2.2.2.2.2.2.2.2.2.1))), (a_t_plan_set, .inl (E 0, 3, .inl (A4 o_.2.2.2.2.2.2.2.2.2.2)))] → va_S A s.heap H locs → W p l e rm_X5_read s m args below meth c H locs 0 0 Q (F0 m 46 ls []) := by
    intro o3_2 ho_ H locs ls hl hP hD hS
    subst ho_
    refine lv_iload_n hx hb dX5_read_46 rfl (lv_at hl 0 rfl) ?_
    obtain rfl := Option.some.inj hr3
    exact ret _ _ _ _ hP hD hS dX5_read_47
  have L3 : ∀ (k_ : Nat) (v31_1 : Int) (t_token_l31 : Int) (t_chanceTold_l31 : Int) (t_sumsTold_l31 : Int) (t_plan_rules_l31 : Int) (t_plan_slack_l31 : Int) (t_plan_limit_l31 : Int) (t_plan_chances_l31 : Nat → Int) (t_plan_of_l31 : Nat → Int) (t_plan_least_l31 : Nat → Int) (t_plan_set_l31 : Nat → Int), ∀ (H : Heap) (locs : List Loc) (ls : Array Slot), lv_has ls 3 [(0, .ref a_t), (1, .int (z4 v31_1))] → va_P D vwCl [(a_t, .inr (5, [.ref a_t_text, .ref a_t_plan, .int (z4 t_token_l31), .int (z4 t_chanceTold_l31), .int (z4 t_sumsTold_l31)])), (a_t_text, .inr (9, [.ref a_t_text_letters, .int (z4 t_text_size), .int (z4 o1.1), .int (z4 o1.2.1), .ref a_t_text_kinds, .ref a_t_text_starts, .ref a_t_text_values])), (a_t_text_letters, .inl (E 0, 120, .inl (A4 t_text_letters))), (a_t_text_starts, .inl (E 0, 120, .inl (A4 o1.2.2.1))), (a_t_text_values, .inl (E 0, 120, .inl (A4 o1.2.2.2.1))), (a_t_text_kinds, .inl (E 0, 120, .inl (A4 o1.2.2.2.2))), (a_t_plan, .inr (4, [.int (z4 t_plan_rules_l31), .ref a_t_plan_least, .ref a_t_plan_of, .ref a_t_plan_set, .ref a_t_plan_chances, .int (z4 t_plan_slack_l31), .int (z4 t_plan_limit_l31)])), (a_t_plan_chances, .inl (E 0, 5, .inl (A4 t_plan_chances_l31))), (a_t_plan_of, .inl (E 0, 3, .inl (A4 t_plan_of_l31))), (a_t_plan_least, .inl (E 0, 3, .inl (A4 t_plan_least_l31))), (a_t_plan_set, .inl (E 0, 3, .inl (A4 t_plan_set_l31)))] H → va_D A [(a_t, .inr (5, [.ref a_t_text, .ref a_t_plan, .int (z4 t_token_l31), .int (z4 t_chanceTold_l31), .int (z4 t_sumsTold_l31)])), (a_t_text, .inr (9, [.ref a_t_text_letters, .int (z4 t_text_size), .int (z4 o1.1), .int (z4 o1.2.1), .ref a_t_text_kinds, .ref a_t_text_starts, .ref a_t_text_values])), (a_t_text_letters, .inl (E 0, 120, .inl (A4 t_text_letters))), (a_t_text_starts, .inl (E 0, 120, .inl (A4 o1.2.2.1))), (a_t_text_values, .inl (E 0, 120, .inl (A4 o1.2.2.2.1))), (a_t_text_kinds, .inl (E 0, 120, .inl (A4 o1.2.2.2.2))), (a_t_plan, .inr (4, [.int (z4 t_plan_rules_l31), .ref a_t_plan_least, .ref a_t_plan_of, .ref a_t_plan_set, .ref a_t_plan_chances, .int (z4 t_plan_slack_l31), .int (z4 t_plan_limit_l31)])), (a_t_plan_chances, .inl (E 0, 5, .inl (A4 t_plan_chances_l31))), (a_t_plan_of, .inl (E 0, 3, .inl (A4 t_plan_of_l31))), (a_t_plan_least, .inl (E 0, 3, .inl (A4 t_plan_least_l31))), (a_t_plan_set, .inl (E 0, 3, .inl (A4 t_plan_set_l31)))] → va_S A s.heap H locs → lp_ (fun (q : Int × Int × Int × Int × Int × Int × Int × (Nat → Int) × (Nat → Int) × (Nat → Int) × (Nat → Int)) => F_X5_read_L31 n o1 q.1 q.2.1 q.2.2.1 q.2.2.2.1 q.2.2.2.2.1 q.2.2.2.2.2.1 q.2.2.2.2.2.2.1 q.2.2.2.2.2.2.2.1 q.2.2.2.2.2.2.2.2.1 q.2.2.2.2.2.2.2.2.2.1 q.2.2.2.2.2.2.2.2.2.2) k_ (v31_1, t_token_l31, t_chanceTold_l31, t_sumsTold_l31, t_plan_rules_l31, t_plan_slack_l31, t_plan_limit_l31, t_plan_chances_l31, t_plan_of_l31, t_plan_least_l31, t_plan_set_l31) = some o3 → W p l e rm_X5_read s m args below meth c H locs 0 0 Q (F0 m 31 ls []) := by
    intro k_
    induction k_ with
    | zero =>
      intro v31_1 t_token_l31 t_chanceTold_l31 t_sumsTold_l31 t_plan_rules_l31 t_plan_slack_l31 t_plan_limit_l31 t_plan_chances_l31 t_plan_of_l31 t_plan_least_l31 t_plan_set_l31 H locs ls hl hP hD hS hq_; exact (lp_zero hq_).elim
    | succ k_ ih3 =>
      intro v31_1 t_token_l31 t_chanceTold_l31 t_sumsTold_l31 t_plan_rules_l31 t_plan_slack_l31 t_plan_limit_l31 t_plan_chances_l31 t_plan_of_l31 t_plan_least_l31 t_plan_set_l31 H locs ls hl hP hD hS hq_
      obtain ⟨t_3, hb3, hq3⟩ := lp_some hq_
      replace hb3 : F_X5_read_L31 n o1 v31_1 t_token_l31 t_chanceTold_l31 t_sumsTold_l31 t_plan_rules_l31 t_plan_slack_l31 t_plan_limit_l31 t_plan_chances_l31 t_plan_of_l31 t_plan_least_l31 t_plan_set_l31 = some t_3 := hb3
      unfold F_X5_read_L31 at hb3
      refine lv_iload_n hx hb dX5_read_31 rfl (lv_at hl 1 rfl) ?_
      refine m_bipush X dX5_read_32 (by decide) ?_
      obtain ⟨h4, hb3⟩ := ck_some hb3
      refine m_icmp_gt X ⟨h4, ⟨by decide, by decide⟩⟩ dX5_read_34 (tgt := 65) (by decide) (fun (hc_ : 120 < v31_1) => ?_) (fun (hc_ : ¬ (120 < v31_1)) => ?_)
      · rw [if_pos hc_] at hb3
        obtain rfl := Option.some.inj hb3
        exact E3_0 _ (Option.some.inj hq3).symm _ _ _ (lv_sub hl [0] rfl) hP hD hS
      · rw [if_neg hc_] at hb3
        refine lv_aload_n hx hb dX5_read_37 rfl (lv_at hl 0 rfl) ?_
        obtain ⟨o5, ho, hb3⟩ := bd_some hb3
        refine m_cVW X hK hP hD hS hA (wr := [(a_t_text_letters, .inl (E 0, 120, .inl (A4 t_text_letters))), (a_t_text_starts, .inl (E 0, 120, .inl (A4 o1.2.2.1))), (a_t_text_values, .inl (E 0, 120, .inl (A4 o1.2.2.2.1))), (a_t_plan, .inr (4, [.int (z4 t_plan_rules_l31), .ref a_t_plan_least, .ref a_t_plan_of, .ref a_t_plan_set, .ref a_t_plan_chances, .int (z4 t_plan_slack_l31), .int (z4 t_plan_limit_l31)])), (a_t_plan_chances, .inl (E 0, 5, .inl (A4 t_plan_chances_l31))), (a_t_plan_of, .inl (E 0, 3, .inl (A4 t_plan_of_l31))), (a_t_plan_least, .inl (E 0, 3, .inl (A4 t_plan_least_l31))), (a_t_plan_set, .inl (E 0, 3, .inl (A4 t_plan_set_l31)))]) (k_X5_nextKind n a_t a_t_text a_t_plan a_t_text_letters a_t_text_kinds a_t_text_starts a_t_text_values t_token_l31 t_chanceTold_l31 t_sumsTold_l31 t_text_size o1.1 o1.2.1 o1.2.2.2.2 o5 ho) [0, 1, 5] [2, 3, 4, 6, 7, 8, 9, 10] [8, 9, 0, 1, 2, 10, 3, 4, 5, 6, 7] [(a_t, .inr (5, [.ref a_t_text, .ref a_t_plan, .int (z4 o5.2), .int (z4 t_chanceTold_l31), .int (z4 t_sumsTold_l31)])), (a_t_text, .inr (9, [.ref a_t_text_letters, .int (z4 t_text_size), .int (z4 o1.1), .int (z4 o1.2.1), .ref a_t_text_kinds, .ref a_t_text_starts, .ref a_t_text_values])), (a_t_text_letters, .inl (E 0, 120, .inl (A4 t_text_letters))), (a_t_text_starts, .inl (E 0, 120, .inl (A4 o1.2.2.1))), (a_t_text_values, .inl (E 0, 120, .inl (A4 o1.2.2.2.1))), (a_t_text_kinds, .inl (E 0, 120, .inl (A4 o1.2.2.2.2))), (a_t_plan, .inr (4, [.int (z4 t_plan_rules_l31), .ref a_t_plan_least, .ref a_t_plan_of, .ref a_t_plan_set, .ref a_t_plan_chances, .int (z4 t_plan_slack_l31), .int (z4 t_plan_limit_l31)])), (a_t_plan_chances, .inl (E 0, 5, .inl (A4 t_plan_chances_l31))), (a_t_plan_of, .inl (E 0, 3, .inl (A4 t_plan_of_l31))), (a_t_plan_least, .inl (E 0, 3, .inl (A4 t_plan_least_l31))), (a_t_plan_set, .inl (E 0, 3, .inl (A4 t_plan_set_l31)))] rfl rfl rfl rfl (by decide) rfl rfl rfl cl_X5 lk_X5_42 co_X5_nextKind dy_X5_nextKind rfl rfl ⟨Nat.le_of_ble_eq_true rfl, Nat.le_of_ble_eq_true rfl⟩ hl.1 rfl (Nat.le_of_ble_eq_true rfl) dX5_read_38 (Nat.zero_le _) (Nat.zero_le _) (fun H locs hP hD hS => ?_)
        refine lv_istore_n (lv' := [(2, .int (z4 o5.1)), (0, .ref a_t), (1, .int (z4 v31_1))]) hx hb dX5_read_41 rfl hl (by decide) rfl (fun ls hl => ?_)
        refine lv_iload_n hx hb dX5_read_42 rfl (lv_at hl 0 rfl) ?_
        obtain ⟨h6, hb3⟩ := ck_some hb3
        refine m_if_ne X h6 dX5_read_43 (tgt := 48) (by decide) (fun (hc_ : ¬ (o5.1 = 0)) => ?_) (fun (hc_ : o5.1 = 0) => ?_)
        · rw [if_neg hc_] at hb3
          refine lv_aload_n hx hb dX5_read_48 rfl (lv_at hl 1 rfl) ?_
          refine lv_iload_n hx hb dX5_read_49 rfl (lv_at hl 0 rfl) ?_
          obtain ⟨o7, ho, hb3⟩ := bd_some hb3
          refine m_cVW X hK hP hD hS hA (wr := [(a_t_text_letters, .inl (E 0, 120, .inl (A4 t_text_letters))), (a_t_text_starts, .inl (E 0, 120, .inl (A4 o1.2.2.1)))]) (k_X5_isItem n a_t a_t_text a_t_plan a_t_plan_least a_t_plan_of a_t_plan_set a_t_plan_chances a_t_text_letters a_t_text_kinds a_t_text_starts a_t_text_values o5.2 t_chanceTold_l31 t_sumsTold_l31 t_plan_rules_l31 t_plan_slack_l31 t_plan_limit_l31 t_text_size o1.1 o1.2.1 o1.2.2.2.2 o1.2.2.2.1 t_plan_of_l31 t_plan_least_l31 t_plan_set_l31 t_plan_chances_l31 o5.1 o7 ho) [0, 6, 1, 5, 4, 8, 9, 10, 7] [2, 3] [2, 4, 0, 1, 6, 5, 3, 10, 7, 8, 9] [(a_t, .inr (5, [.ref a_t_text, .ref a_t_plan, .int (z4 o7.2.1), .int (z4 o7.2.2.1), .int (z4 o7.2.2.2.1)])), (a_t_text, .inr (9, [.ref a_t_text_letters, .int (z4 t_text_size), .int (z4 o1.1), .int (z4 o1.2.1), .ref a_t_text_kinds, .ref a_t_text_starts, .ref a_t_text_values])), (a_t_text_letters, .inl (E 0, 120, .inl (A4 t_text_letters))), (a_t_text_starts, .inl (E 0, 120, .inl (A4 o1.2.2.1))), (a_t_text_values, .inl (E 0, 120, .inl (A4 o1.2.2.2.1))), (a_t_text_kinds, .inl (E 0, 120, .inl (A4 o1.2.2.2.2))), (a_t_plan, .inr (4, [.int (z4 o7.2.2.2.2.1), .ref a_t_plan_least, .ref a_t_plan_of, .ref a_t_plan_set, .ref a_t_plan_chances, .int (z4 o7.2.2.2.2.2.1), .int (z4 o7.2.2.2.2.2.2.1)])), (a_t_plan_chances, .inl (E 0, 5, .inl (A4 o7.2.2.2.2.2.2.2.2.2.2))), (a_t_plan_of, .inl (E 0, 3, .inl (A4 o7.2.2.2.2.2.2.2.1))), (a_t_plan_least, .inl (E 0, 3, .inl (A4 o7.2.2.2.2.2.2.2.2.1))), (a_t_plan_set, .inl (E 0, 3, .inl (A4 o7.2.2.2.2.2.2.2.2.2.1)))] rfl rfl rfl rfl (by decide) rfl rfl rfl cl_X5 lk_X5_46 co_X5_isItem dy_X5_isItem rfl rfl ⟨Nat.le_of_ble_eq_true rfl, Nat.le_of_ble_eq_true rfl⟩ hl.1 rfl (Nat.le_of_ble_eq_true rfl) dX5_read_50 (Nat.zero_le _) (Nat.zero_le _) (fun H locs hP hD hS => ?_)
          obtain ⟨h8, hb3⟩ := ck_some hb3
          refine m_if_ne X h8 dX5_read_53 (tgt := 59) (by decide) (fun (hc_ : ¬ (o7.1 = 0)) => ?_) (fun (hc_ : o7.1 = 0) => ?_)
          · rw [if_neg hc_] at hb3
            refine m_iinc X 2 [(1, .int (z4 (v31_1 + 1))), (2, .int (z4 o5.1)), (0, .ref a_t)] dX5_read_59 hl rfl (by decide) rfl (fun ls hl => ?_)
            refine lv_goto (tgt := 31) hx hb dX5_read_62 (by decide) ?_
            obtain rfl := Option.some.inj hb3
            exact ih3 _ _ _ _ _ _ _ _ _ _ _ _ _ _ (lv_sub hl [2, 0] rfl) hP hD hS hq3
          · rw [if_pos hc_] at hb3
            obtain rfl := Option.some.inj hb3
            exact E3_1 _ (Option.some.inj hq3).symm _ _ _ (lv_sub hl [1] rfl) hP hD hS
        · rw [if_pos hc_] at hb3
          obtain rfl := Option.some.inj hb3
          exact E3_2 _ (Option.some.inj hq3).symm _ _ _ (lv_sub hl [2] rfl) hP hD hS
  exact L3 n _ _ _ _ _ _ _ _ _ _ _ _ _ _ (lv_sub hl [1, 0] rfl) hP hD hS hj3
