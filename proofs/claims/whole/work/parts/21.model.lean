def F_X12_type (n : Nat)  (t_letters : Int) (t_text : Nat → Int) (x1 : Int) : Option (Int × Int × (Nat → Int)) :=
  (F_X12_in n x1 0 255).bind fun o1 =>
  ck (r4 o1) <|
  if o1 = 0 then
    some ((-1), t_letters, t_text)
  else
    ck (r4 t_letters) <|
    if t_letters = 120 then
      some ((-3), t_letters, t_text)
    else
      ck (ix_ t_letters 120) <|
      some (t_letters + 1, t_letters + 1, up_ t_text (t_letters).toNat x1)
def rm_X12_type : Room := { frames := 1, cells := 0, slots := 0, locals := 22 }
set_option maxHeartbeats 4000000 in
set_option maxRecDepth 100000 in
theorem k_X12_type {l : Launch} {D : va_G} {E : Nat → ClassId} (n : Nat) (a_t a_t_now a_t_read a_t_past a_t_images a_t_isKept a_t_text a_t_metAt a_t_memoryAt a_t_upAt a_t_downAt a_t_isSignal a_t_memories a_t_placeOf a_t_nextPlace a_t_kindOf a_t_newKind a_t_stateOfKind a_t_stateAt a_t_stepTo a_t_far a_t_ways a_t_nextWays a_t_table : Nat) (t_deeds : Int) (t_letters : Int) (t_at : Int) (t_tokenAt : Int) (t_tokenSort : Int) (t_tokenValue : Int) (t_items : Int) (t_isChanceTold : Int) (t_areSumsTold : Int) (t_places : Int) (t_kinds : Int) (t_states : Int) (t_text : Nat → Int) (x1 : Int) (res : Int × Int × (Nat → Int)) (hf : F_X12_type n t_letters t_text x1 = some res) : MW l yX12_type (.code yX12_type cX12_type 2 (some .int)) rm_X12_type D E [.ref a_t, .int (z4 x1)] [(a_t, .inr (12, [.ref a_t_now, .ref a_t_read, .ref a_t_past, .int (z4 t_deeds), .ref a_t_images, .ref a_t_isKept, .ref a_t_text, .int (z4 t_letters), .int (z4 t_at), .int (z4 t_tokenAt), .int (z4 t_tokenSort), .int (z4 t_tokenValue), .int (z4 t_items), .int (z4 t_isChanceTold), .int (z4 t_areSumsTold), .ref a_t_metAt, .ref a_t_memoryAt, .ref a_t_upAt, .ref a_t_downAt, .ref a_t_isSignal, .ref a_t_memories, .ref a_t_placeOf, .ref a_t_nextPlace, .int (z4 t_places), .ref a_t_kindOf, .ref a_t_newKind, .int (z4 t_kinds), .ref a_t_stateOfKind, .ref a_t_stateAt, .ref a_t_stepTo, .int (z4 t_states), .ref a_t_far, .ref a_t_ways, .ref a_t_nextWays, .ref a_t_table])), (a_t_text, .inl (E 0, 120, .inl (A4 t_text)))] (some (.int (z4 res.1))) [(a_t, .inr (12, [.ref a_t_now, .ref a_t_read, .ref a_t_past, .int (z4 t_deeds), .ref a_t_images, .ref a_t_isKept, .ref a_t_text, .int (z4 res.2.1), .int (z4 t_at), .int (z4 t_tokenAt), .int (z4 t_tokenSort), .int (z4 t_tokenValue), .int (z4 t_items), .int (z4 t_isChanceTold), .int (z4 t_areSumsTold), .ref a_t_metAt, .ref a_t_memoryAt, .ref a_t_upAt, .ref a_t_downAt, .ref a_t_isSignal, .ref a_t_memories, .ref a_t_placeOf, .ref a_t_nextPlace, .int (z4 t_places), .ref a_t_kindOf, .ref a_t_newKind, .int (z4 t_kinds), .ref a_t_stateOfKind, .ref a_t_stateAt, .ref a_t_stepTo, .int (z4 t_states), .ref a_t_far, .ref a_t_ways, .ref a_t_nextWays, .ref a_t_table])), (a_t_text, .inl (E 0, 120, .inl (A4 res.2.2)))] := by
  refine MWi (by decide) (Nat.le_of_ble_eq_true rfl) ?_
  intro p e s m args below meth c A Q X hK hP hD hA ret ls hl
  have hS : va_S A s.heap s.heap [] := va_S.rf
  have hx := X.1
  have hb := X.2.1
  have hl : lv_has ls 2 [(0, .ref a_t), (1, .int (z4 x1))] := hl
  unfold F_X12_type at hf
  refine lv_iload_n hx hb dX12_type_0 rfl (lv_at hl 1 rfl) ?_
  refine m_iconst X dX12_type_1 ?_
  refine m_sipush X dX12_type_2 (by decide) ?_
  obtain ⟨o1, ho, hf⟩ := bd_some hf
  refine m_cSR X hK (k_X12_in n x1 0 255 o1 ho) (hP.sub (ws' := []) [] rfl) lk_X12_87 co_X12_in dy_X12_in rfl rfl ⟨Nat.le_of_ble_eq_true rfl, Nat.le_of_ble_eq_true rfl⟩ hl.1 rfl (Nat.le_of_ble_eq_true rfl) dX12_type_5 (Nat.zero_le _) (Nat.zero_le _) ?_
  obtain ⟨h2, hf⟩ := ck_some hf
  refine m_if_ne X h2 dX12_type_8 (tgt := 13) (by decide) (fun (hc_ : ¬ (o1 = 0)) => ?_) (fun (hc_ : o1 = 0) => ?_)
  · rw [if_neg hc_] at hf
    refine lv_aload_n hx hb dX12_type_13 rfl (lv_at hl 0 rfl) ?_
    refine m_get X hK hP cl_X12 iT_X12 7 (by decide) fl_X12_102 0 rfl rfl dX12_type_14 ?_
    refine m_bipush X dX12_type_17 (by decide) ?_
    obtain ⟨h3, hf⟩ := ck_some hf
    refine m_icmp_ne X ⟨h3, ⟨by decide, by decide⟩⟩ dX12_type_19 (tgt := 25) (by decide) (fun (hc_ : ¬ (t_letters = 120)) => ?_) (fun (hc_ : t_letters = 120) => ?_)
    · rw [if_neg hc_] at hf
      refine lv_aload_n hx hb dX12_type_25 rfl (lv_at hl 0 rfl) ?_
      refine m_get X hK hP cl_X12 iT_X12 6 (by decide) fl_X12_26 0 rfl rfl dX12_type_26 ?_
      refine lv_aload_n hx hb dX12_type_29 rfl (lv_at hl 0 rfl) ?_
      refine m_get X hK hP cl_X12 iT_X12 7 (by decide) fl_X12_102 0 rfl rfl dX12_type_30 ?_
      refine lv_iload_n hx hb dX12_type_33 rfl (lv_at hl 1 rfl) ?_
      obtain ⟨h4, hf⟩ := ck_some hf
      refine m_iast X hK hP hD hS 1 rfl (by decide) h4 [(a_t, .inr (12, [.ref a_t_now, .ref a_t_read, .ref a_t_past, .int (z4 t_deeds), .ref a_t_images, .ref a_t_isKept, .ref a_t_text, .int (z4 t_letters), .int (z4 t_at), .int (z4 t_tokenAt), .int (z4 t_tokenSort), .int (z4 t_tokenValue), .int (z4 t_items), .int (z4 t_isChanceTold), .int (z4 t_areSumsTold), .ref a_t_metAt, .ref a_t_memoryAt, .ref a_t_upAt, .ref a_t_downAt, .ref a_t_isSignal, .ref a_t_memories, .ref a_t_placeOf, .ref a_t_nextPlace, .int (z4 t_places), .ref a_t_kindOf, .ref a_t_newKind, .int (z4 t_kinds), .ref a_t_stateOfKind, .ref a_t_stateAt, .ref a_t_stepTo, .int (z4 t_states), .ref a_t_far, .ref a_t_ways, .ref a_t_nextWays, .ref a_t_table])), (a_t_text, .inl (E 0, 120, .inl (A4 (up_ t_text (t_letters).toNat x1))))] rfl dX12_type_34 (fun H locs hP hD hS => ?_)
      refine lv_aload_n hx hb dX12_type_35 rfl (lv_at hl 0 rfl) ?_
      refine lv_dup hx hb dX12_type_36 rfl ?_
      refine m_get X hK hP cl_X12 iT_X12 7 (by decide) fl_X12_102 0 rfl rfl dX12_type_37 ?_
      refine m_iconst X dX12_type_40 ?_
      refine m_iadd X dX12_type_41 ?_
      refine m_put X hK hP hD hS cl_X12 iT_X12 tyX12 tyX12_ok nmX12 7 (by decide) fl_X12_102 rfl 0 rfl rfl rfl (Nat.le_of_ble_eq_true rfl) [(a_t, .inr (12, [.ref a_t_now, .ref a_t_read, .ref a_t_past, .int (z4 t_deeds), .ref a_t_images, .ref a_t_isKept, .ref a_t_text, .int (z4 (t_letters + 1)), .int (z4 t_at), .int (z4 t_tokenAt), .int (z4 t_tokenSort), .int (z4 t_tokenValue), .int (z4 t_items), .int (z4 t_isChanceTold), .int (z4 t_areSumsTold), .ref a_t_metAt, .ref a_t_memoryAt, .ref a_t_upAt, .ref a_t_downAt, .ref a_t_isSignal, .ref a_t_memories, .ref a_t_placeOf, .ref a_t_nextPlace, .int (z4 t_places), .ref a_t_kindOf, .ref a_t_newKind, .int (z4 t_kinds), .ref a_t_stateOfKind, .ref a_t_stateAt, .ref a_t_stepTo, .int (z4 t_states), .ref a_t_far, .ref a_t_ways, .ref a_t_nextWays, .ref a_t_table])), (a_t_text, .inl (E 0, 120, .inl (A4 (up_ t_text (t_letters).toNat x1))))] rfl dX12_type_42 (fun H locs hP hD hS => ?_)
      refine lv_aload_n hx hb dX12_type_45 rfl (lv_at hl 0 rfl) ?_
      refine m_get X hK hP cl_X12 iT_X12 7 (by decide) fl_X12_102 0 rfl rfl dX12_type_46 ?_
      obtain rfl := Option.some.inj hf
      exact ret _ _ _ _ hP hD hS dX12_type_49
    · rw [if_pos hc_] at hf
      refine m_bipush X dX12_type_22 (by decide) ?_
      obtain rfl := Option.some.inj hf
      exact ret _ _ _ _ hP hD hS dX12_type_24
  · rw [if_pos hc_] at hf
    refine m_iconst X dX12_type_11 ?_
    obtain rfl := Option.some.inj hf
    exact ret _ _ _ _ hP hD hS dX12_type_12
def F_X12_clear (n : Nat)  (t_letters : Int)  : Option (Int × Int) :=
  some (t_letters, 0)
def rm_X12_clear : Room := { frames := 0, cells := 0, slots := 0, locals := 0 }
set_option maxHeartbeats 4000000 in
set_option maxRecDepth 100000 in
theorem k_X12_clear {l : Launch} {D : va_G} {E : Nat → ClassId} (n : Nat) (a_t a_t_now a_t_read a_t_past a_t_images a_t_isKept a_t_text a_t_metAt a_t_memoryAt a_t_upAt a_t_downAt a_t_isSignal a_t_memories a_t_placeOf a_t_nextPlace a_t_kindOf a_t_newKind a_t_stateOfKind a_t_stateAt a_t_stepTo a_t_far a_t_ways a_t_nextWays a_t_table : Nat) (t_deeds : Int) (t_letters : Int) (t_at : Int) (t_tokenAt : Int) (t_tokenSort : Int) (t_tokenValue : Int) (t_items : Int) (t_isChanceTold : Int) (t_areSumsTold : Int) (t_places : Int) (t_kinds : Int) (t_states : Int) (res : Int × Int) (hf : F_X12_clear n t_letters = some res) : MW l yX12_clear (.code yX12_clear cX12_clear 2 (some .int)) rm_X12_clear D E [.ref a_t] [(a_t, .inr (12, [.ref a_t_now, .ref a_t_read, .ref a_t_past, .int (z4 t_deeds), .ref a_t_images, .ref a_t_isKept, .ref a_t_text, .int (z4 t_letters), .int (z4 t_at), .int (z4 t_tokenAt), .int (z4 t_tokenSort), .int (z4 t_tokenValue), .int (z4 t_items), .int (z4 t_isChanceTold), .int (z4 t_areSumsTold), .ref a_t_metAt, .ref a_t_memoryAt, .ref a_t_upAt, .ref a_t_downAt, .ref a_t_isSignal, .ref a_t_memories, .ref a_t_placeOf, .ref a_t_nextPlace, .int (z4 t_places), .ref a_t_kindOf, .ref a_t_newKind, .int (z4 t_kinds), .ref a_t_stateOfKind, .ref a_t_stateAt, .ref a_t_stepTo, .int (z4 t_states), .ref a_t_far, .ref a_t_ways, .ref a_t_nextWays, .ref a_t_table]))] (some (.int (z4 res.1))) [(a_t, .inr (12, [.ref a_t_now, .ref a_t_read, .ref a_t_past, .int (z4 t_deeds), .ref a_t_images, .ref a_t_isKept, .ref a_t_text, .int (z4 res.2), .int (z4 t_at), .int (z4 t_tokenAt), .int (z4 t_tokenSort), .int (z4 t_tokenValue), .int (z4 t_items), .int (z4 t_isChanceTold), .int (z4 t_areSumsTold), .ref a_t_metAt, .ref a_t_memoryAt, .ref a_t_upAt, .ref a_t_downAt, .ref a_t_isSignal, .ref a_t_memories, .ref a_t_placeOf, .ref a_t_nextPlace, .int (z4 t_places), .ref a_t_kindOf, .ref a_t_newKind, .int (z4 t_kinds), .ref a_t_stateOfKind, .ref a_t_stateAt, .ref a_t_stepTo, .int (z4 t_states), .ref a_t_far, .ref a_t_ways, .ref a_t_nextWays, .ref a_t_table]))] := by
  refine MWi (by decide) (Nat.le_of_ble_eq_true rfl) ?_
  intro p e s m args below meth c A Q X hK hP hD hA ret ls hl
  have hS : va_S A s.heap s.heap [] := va_S.rf
  have hx := X.1
  have hb := X.2.1
  have hl : lv_has ls 2 [(0, .ref a_t)] := hl
  unfold F_X12_clear at hf
  refine lv_aload_n hx hb dX12_clear_0 rfl (lv_at hl 0 rfl) ?_
  refine m_get X hK hP cl_X12 iT_X12 7 (by decide) fl_X12_102 0 rfl rfl dX12_clear_1 ?_
  refine lv_istore_n (lv' := [(1, .int (z4 t_letters)), (0, .ref a_t)]) hx hb dX12_clear_4 rfl hl (by decide) rfl (fun ls hl => ?_)
  refine lv_aload_n hx hb dX12_clear_5 rfl (lv_at hl 1 rfl) ?_
  refine m_iconst X dX12_clear_6 ?_
  refine m_put X hK hP hD hS cl_X12 iT_X12 tyX12 tyX12_ok nmX12 7 (by decide) fl_X12_102 rfl 0 rfl rfl rfl (Nat.le_of_ble_eq_true rfl) [(a_t, .inr (12, [.ref a_t_now, .ref a_t_read, .ref a_t_past, .int (z4 t_deeds), .ref a_t_images, .ref a_t_isKept, .ref a_t_text, .int (z4 0), .int (z4 t_at), .int (z4 t_tokenAt), .int (z4 t_tokenSort), .int (z4 t_tokenValue), .int (z4 t_items), .int (z4 t_isChanceTold), .int (z4 t_areSumsTold), .ref a_t_metAt, .ref a_t_memoryAt, .ref a_t_upAt, .ref a_t_downAt, .ref a_t_isSignal, .ref a_t_memories, .ref a_t_placeOf, .ref a_t_nextPlace, .int (z4 t_places), .ref a_t_kindOf, .ref a_t_newKind, .int (z4 t_kinds), .ref a_t_stateOfKind, .ref a_t_stateAt, .ref a_t_stepTo, .int (z4 t_states), .ref a_t_far, .ref a_t_ways, .ref a_t_nextWays, .ref a_t_table]))] rfl dX12_clear_7 (fun H locs hP hD hS => ?_)
  refine lv_iload_n hx hb dX12_clear_10 rfl (lv_at hl 0 rfl) ?_
  obtain rfl := Option.some.inj hf
  exact ret _ _ _ _ hP hD hS dX12_clear_11
def F_X12_bring_L3 (n : Nat) (x1 : Int) (N0 : Nat) (x3 : Int) (N2 : Nat) (p0 : Nat → Int) (v3_4 : Int) (p2_l3 : Nat → Int) : Option ((Int × (Nat → Int)) ⊕ ((Nat → Int))) :=
  ck (r4 v3_4) <|
  if v3_4 < 98 then
    ck (ix_ (x1 + v3_4) (N0 : Int)) <|
    ck (ix_ (x3 + v3_4) (N2 : Int)) <|
    some (.inl (v3_4 + 1, up_ p2_l3 (x3 + v3_4).toNat (p0 (x1 + v3_4).toNat)))
  else
    some (.inr p2_l3)
def F_X12_bring (n : Nat) (N0 : Nat) (N2 : Nat) (p0 : Nat → Int) (p2 : Nat → Int) (x1 : Int) (x3 : Int) : Option ((Nat → Int)) :=
  (lp_ (fun (q : Int × (Nat → Int)) => F_X12_bring_L3 n x1 N0 x3 N2 p0 q.1 q.2) n (0, p2)).bind fun o1 =>
  some o1
def rm_X12_bring : Room := { frames := 0, cells := 0, slots := 0, locals := 0 }
set_option maxHeartbeats 4000000 in
set_option maxRecDepth 100000 in
theorem k_X12_bring {l : Launch} {D : va_G} {E : Nat → ClassId} (n : Nat) (a_p0 a_p2 : Nat) (N0 : Nat) (N2 : Nat) (hN0 : N0 ≤ 2147483648) (hN2 : N2 ≤ 2147483648) (p0 : Nat → Int) (p2 : Nat → Int) (x1 : Int) (x3 : Int) (res : (Nat → Int)) (hf : F_X12_bring n N0 N2 p0 p2 x1 x3 = some res) : MW l yX12_bring (.code yX12_bring cX12_bring 5 none) rm_X12_bring D E [.ref a_p0, .int (z4 x1), .ref a_p2, .int (z4 x3)] [(a_p0, .inl (E 0, N0, .inl (A4 p0))), (a_p2, .inl (E 0, N2, .inl (A4 p2)))] none [(a_p0, .inl (E 0, N0, .inl (A4 p0))), (a_p2, .inl (E 0, N2, .inl (A4 res)))] := by
  refine MWv (by decide) (Nat.le_of_ble_eq_true rfl) ?_
  intro p e s m args below meth c A Q X hK hP hD hA ret ls hl
  have hS : va_S A s.heap s.heap [] := va_S.rf
  have hx := X.1
  have hb := X.2.1
  have hl : lv_has ls 5 [(0, .ref a_p0), (1, .int (z4 x1)), (2, .ref a_p2), (3, .int (z4 x3))] := hl
  unfold F_X12_bring at hf
  refine m_iconst X dX12_bring_0 ?_
  refine lv_istore (lv' := [(4, .int (z4 0)), (0, .ref a_p0), (1, .int (z4 x1)), (2, .ref a_p2), (3, .int (z4 x3))]) hx hb dX12_bring_1 hl (by decide) rfl (fun ls hl => ?_)
  obtain ⟨o1, hj1, hr1⟩ := bd_some hf
  have E1_0 : ∀ (o_ : (Nat → Int)), o1 = o_ → ∀ (H : Heap) (locs : List Loc) (ls : Array Slot), lv_has ls 5 [] → va_P D vwCl [(a_p0, .inl (E 0, N0, .inl (A4 p0))), (a_p2, .inl (E 0, N2, .inl (A4 o_)))] H → va_D A [(a_p0, .inl (E 0, N0, .inl (A4 p0))), (a_p2, .inl (E 0, N2, .inl (A4 o_)))] → va_S A s.heap H locs → W p l e rm_X12_bring s m args below meth c H locs 0 0 Q (F0 m 28 ls []) := by
    intro o_ ho_ H locs ls hl hP hD hS
    subst ho_
    obtain rfl := Option.some.inj hr1
    exact ret _ _ _ _ hP hD hS dX12_bring_28
  have L1 : ∀ (k_ : Nat) (v3_4 : Int) (p2_l3 : Nat → Int), ∀ (H : Heap) (locs : List Loc) (ls : Array Slot), lv_has ls 5 [(0, .ref a_p0), (1, .int (z4 x1)), (2, .ref a_p2), (3, .int (z4 x3)), (4, .int (z4 v3_4))] → va_P D vwCl [(a_p0, .inl (E 0, N0, .inl (A4 p0))), (a_p2, .inl (E 0, N2, .inl (A4 p2_l3)))] H → va_D A [(a_p0, .inl (E 0, N0, .inl (A4 p0))), (a_p2, .inl (E 0, N2, .inl (A4 p2_l3)))] → va_S A s.heap H locs → lp_ (fun (q : Int × (Nat → Int)) => F_X12_bring_L3 n x1 N0 x3 N2 p0 q.1 q.2) k_ (v3_4, p2_l3) = some o1 → W p l e rm_X12_bring s m args below meth c H locs 0 0 Q (F0 m 3 ls []) := by
    intro k_
    induction k_ with
    | zero =>
      intro v3_4 p2_l3 H locs ls hl hP hD hS hq_; exact (lp_zero hq_).elim
    | succ k_ ih1 =>
      intro v3_4 p2_l3 H locs ls hl hP hD hS hq_
      obtain ⟨t_1, hb1, hq1⟩ := lp_some hq_
      replace hb1 : F_X12_bring_L3 n x1 N0 x3 N2 p0 v3_4 p2_l3 = some t_1 := hb1
      unfold F_X12_bring_L3 at hb1
      refine lv_iload hx hb dX12_bring_3 (lv_at hl 4 rfl) ?_
      refine m_bipush X dX12_bring_5 (by decide) ?_
      obtain ⟨h2, hb1⟩ := ck_some hb1
      refine m_icmp_ge X ⟨h2, ⟨by decide, by decide⟩⟩ dX12_bring_7 (tgt := 28) (by decide) (fun (hc_ : ¬ (v3_4 < 98)) => ?_) (fun (hc_ : v3_4 < 98) => ?_)
      · rw [if_neg hc_] at hb1
        obtain rfl := Option.some.inj hb1
        exact E1_0 _ (Option.some.inj hq1).symm _ _ _ (lv_sub hl [] rfl) hP hD hS
      · rw [if_pos hc_] at hb1
        refine lv_aload_n hx hb dX12_bring_10 rfl (lv_at hl 2 rfl) ?_
        refine lv_iload_n hx hb dX12_bring_11 rfl (lv_at hl 3 rfl) ?_
        refine lv_iload hx hb dX12_bring_12 (lv_at hl 4 rfl) ?_
        refine m_iadd X dX12_bring_14 ?_
        refine lv_aload_n hx hb dX12_bring_15 rfl (lv_at hl 0 rfl) ?_
        refine lv_iload_n hx hb dX12_bring_16 rfl (lv_at hl 1 rfl) ?_
        refine lv_iload hx hb dX12_bring_17 (lv_at hl 4 rfl) ?_
        refine m_iadd X dX12_bring_19 ?_
        obtain ⟨h3, hb1⟩ := ck_some hb1
        refine m_iald X hK hP 0 rfl hN0 h3 dX12_bring_20 ?_
        obtain ⟨h4, hb1⟩ := ck_some hb1
        refine m_iast X hK hP hD hS 1 rfl hN2 h4 [(a_p0, .inl (E 0, N0, .inl (A4 p0))), (a_p2, .inl (E 0, N2, .inl (A4 (up_ p2_l3 (x3 + v3_4).toNat (p0 (x1 + v3_4).toNat)))))] rfl dX12_bring_21 (fun H locs hP hD hS => ?_)
        refine m_iinc X 4 [(4, .int (z4 (v3_4 + 1))), (0, .ref a_p0), (1, .int (z4 x1)), (2, .ref a_p2), (3, .int (z4 x3))] dX12_bring_22 hl rfl (by decide) rfl (fun ls hl => ?_)
        refine lv_goto (tgt := 3) hx hb dX12_bring_25 (by decide) ?_
        obtain rfl := Option.some.inj hb1
        exact ih1 _ _ _ _ _ (lv_sub hl [1, 2, 3, 4, 0] rfl) hP hD hS hq1
  exact L1 n _ _ _ _ _ (lv_sub hl [1, 2, 3, 4, 0] rfl) hP hD hS hj1
def F_X12_note_L11 (n : Nat) (v11_1 : Int) (t_past_l11 : Nat → Int) : Option ((Int × (Nat → Int)) ⊕ ((Nat → Int))) :=
  ck (r4 v11_1) <|
  if v11_1 < 490 then
    ck (ix_ (v11_1 + 98) 588) <|
    ck (ix_ v11_1 588) <|
    some (.inl (v11_1 + 1, up_ t_past_l11 (v11_1).toNat (t_past_l11 (v11_1 + 98).toNat)))
  else
    some (.inr t_past_l11)
def F_X12_note (n : Nat)  (t_deeds : Int) (t_past : Nat → Int) (t_now : Nat → Int)  : Option (Int × (Nat → Int)) :=
  Option.bind (α := Int × (Nat → Int)) (
    ck (r4 t_deeds) <|
    if t_deeds = 6 then
      (lp_ (fun (q : Int × (Nat → Int)) => F_X12_note_L11 n q.1 q.2) n (0, t_past)).bind fun o3 =>
      some (t_deeds - 1, o3)
    else
      some (t_deeds, t_past)) fun o1 =>
  (F_X12_bring n 98 588 t_now o1.2 0 (98 * o1.1)).bind fun o7 =>
  some (o1.1 + 1, o7)
def rm_X12_note : Room := { frames := 1, cells := 0, slots := 0, locals := 24 }
set_option maxHeartbeats 4000000 in
set_option maxRecDepth 100000 in
theorem k_X12_note {l : Launch} {D : va_G} {E : Nat → ClassId} (n : Nat) (a_t a_t_now a_t_read a_t_past a_t_images a_t_isKept a_t_text a_t_metAt a_t_memoryAt a_t_upAt a_t_downAt a_t_isSignal a_t_memories a_t_placeOf a_t_nextPlace a_t_kindOf a_t_newKind a_t_stateOfKind a_t_stateAt a_t_stepTo a_t_far a_t_ways a_t_nextWays a_t_table : Nat) (t_deeds : Int) (t_letters : Int) (t_at : Int) (t_tokenAt : Int) (t_tokenSort : Int) (t_tokenValue : Int) (t_items : Int) (t_isChanceTold : Int) (t_areSumsTold : Int) (t_places : Int) (t_kinds : Int) (t_states : Int) (t_past : Nat → Int) (t_now : Nat → Int) (res : Int × (Nat → Int)) (hf : F_X12_note n t_deeds t_past t_now = some res) : MW l yX12_note (.code yX12_note cX12_note 2 none) rm_X12_note D E [.ref a_t] [(a_t, .inr (12, [.ref a_t_now, .ref a_t_read, .ref a_t_past, .int (z4 t_deeds), .ref a_t_images, .ref a_t_isKept, .ref a_t_text, .int (z4 t_letters), .int (z4 t_at), .int (z4 t_tokenAt), .int (z4 t_tokenSort), .int (z4 t_tokenValue), .int (z4 t_items), .int (z4 t_isChanceTold), .int (z4 t_areSumsTold), .ref a_t_metAt, .ref a_t_memoryAt, .ref a_t_upAt, .ref a_t_downAt, .ref a_t_isSignal, .ref a_t_memories, .ref a_t_placeOf, .ref a_t_nextPlace, .int (z4 t_places), .ref a_t_kindOf, .ref a_t_newKind, .int (z4 t_kinds), .ref a_t_stateOfKind, .ref a_t_stateAt, .ref a_t_stepTo, .int (z4 t_states), .ref a_t_far, .ref a_t_ways, .ref a_t_nextWays, .ref a_t_table])), (a_t_past, .inl (E 0, 588, .inl (A4 t_past))), (a_t_now, .inl (E 0, 98, .inl (A4 t_now)))] none [(a_t, .inr (12, [.ref a_t_now, .ref a_t_read, .ref a_t_past, .int (z4 res.1), .ref a_t_images, .ref a_t_isKept, .ref a_t_text, .int (z4 t_letters), .int (z4 t_at), .int (z4 t_tokenAt), .int (z4 t_tokenSort), .int (z4 t_tokenValue), .int (z4 t_items), .int (z4 t_isChanceTold), .int (z4 t_areSumsTold), .ref a_t_metAt, .ref a_t_memoryAt, .ref a_t_upAt, .ref a_t_downAt, .ref a_t_isSignal, .ref a_t_memories, .ref a_t_placeOf, .ref a_t_nextPlace, .int (z4 t_places), .ref a_t_kindOf, .ref a_t_newKind, .int (z4 t_kinds), .ref a_t_stateOfKind, .ref a_t_stateAt, .ref a_t_stepTo, .int (z4 t_states), .ref a_t_far, .ref a_t_ways, .ref a_t_nextWays, .ref a_t_table])), (a_t_past, .inl (E 0, 588, .inl (A4 res.2))), (a_t_now, .inl (E 0, 98, .inl (A4 t_now)))] := by
  refine MWv (by decide) (Nat.le_of_ble_eq_true rfl) ?_
  intro p e s m args below meth c A Q X hK hP hD hA ret ls hl
  have hS : va_S A s.heap s.heap [] := va_S.rf
  have hx := X.1
  have hb := X.2.1
  have hl : lv_has ls 2 [(0, .ref a_t)] := hl
  unfold F_X12_note at hf
  refine lv_aload_n hx hb dX12_note_0 rfl (lv_at hl 0 rfl) ?_
  refine m_get X hK hP cl_X12 iT_X12 3 (by decide) fl_X12_162 0 rfl rfl dX12_note_1 ?_
  refine m_bipush X dX12_note_4 (by decide) ?_
  obtain ⟨o1, hj1, hr1⟩ := bd_some hf
  have J1 : ∀ (o_ : Int × (Nat → Int)), o1 = o_ → ∀ (H : Heap) (locs : List Loc) (ls : Array Slot), lv_has ls 2 [(0, .ref a_t)] → va_P D vwCl [(a_t, .inr (12, [.ref a_t_now, .ref a_t_read, .ref a_t_past, .int (z4 o_.1), .ref a_t_images, .ref a_t_isKept, .ref a_t_text, .int (z4 t_letters), .int (z4 t_at), .int (z4 t_tokenAt), .int (z4 t_tokenSort), .int (z4 t_tokenValue), .int (z4 t_items), .int (z4 t_isChanceTold), .int (z4 t_areSumsTold), .ref a_t_metAt, .ref a_t_memoryAt, .ref a_t_upAt, .ref a_t_downAt, .ref a_t_isSignal, .ref a_t_memories, .ref a_t_placeOf, .ref a_t_nextPlace, .int (z4 t_places), .ref a_t_kindOf, .ref a_t_newKind, .int (z4 t_kinds), .ref a_t_stateOfKind, .ref a_t_stateAt, .ref a_t_stepTo, .int (z4 t_states), .ref a_t_far, .ref a_t_ways, .ref a_t_nextWays, .ref a_t_table])), (a_t_past, .inl (E 0, 588, .inl (A4 o_.2))), (a_t_now, .inl (E 0, 98, .inl (A4 t_now)))] H → va_D A [(a_t, .inr (12, [.ref a_t_now, .ref a_t_read, .ref a_t_past, .int (z4 o_.1), .ref a_t_images, .ref a_t_isKept, .ref a_t_text, .int (z4 t_letters), .int (z4 t_at), .int (z4 t_tokenAt), .int (z4 t_tokenSort), .int (z4 t_tokenValue), .int (z4 t_items), .int (z4 t_isChanceTold), .int (z4 t_areSumsTold), .ref a_t_metAt, .ref a_t_memoryAt, .ref a_t_upAt, .ref a_t_downAt, .ref a_t_isSignal, .ref a_t_memories, .ref a_t_placeOf, .ref a_t_nextPlace, .int (z4 t_places), .ref a_t_kindOf, .ref a_t_newKind, .int (z4 t_kinds), .ref a_t_stateOfKind, .ref a_t_stateAt, .ref a_t_stepTo, .int (z4 t_states), .ref a_t_far, .ref a_t_ways, .ref a_t_nextWays, .ref a_t_table])), (a_t_past, .inl (E 0, 588, .inl (A4 o_.2))), (a_t_now, .inl (E 0, 98, .inl (A4 t_now)))] → va_S A s.heap H locs → W p l e rm_X12_note s m args below meth c H locs 0 0 Q (F0 m 49 ls []) := by
    intro o_ ho_ H locs ls hl hP hD hS
    subst ho_
    refine lv_aload_n hx hb dX12_note_49 rfl (lv_at hl 0 rfl) ?_
    refine m_get X hK hP cl_X12 iT_X12 0 (by decide) fl_X12_7 0 rfl rfl dX12_note_50 ?_
    refine m_iconst X dX12_note_53 ?_
    refine lv_aload_n hx hb dX12_note_54 rfl (lv_at hl 0 rfl) ?_
    refine m_get X hK hP cl_X12 iT_X12 2 (by decide) fl_X12_16 0 rfl rfl dX12_note_55 ?_
    refine m_bipush X dX12_note_58 (by decide) ?_
    refine lv_aload_n hx hb dX12_note_60 rfl (lv_at hl 0 rfl) ?_
    refine m_get X hK hP cl_X12 iT_X12 3 (by decide) fl_X12_162 0 rfl rfl dX12_note_61 ?_
    refine m_imul X dX12_note_64 ?_
    obtain ⟨o7, ho, hr1⟩ := bd_some hr1
    refine m_cSW X hK hP hD hS hA (wr := [(a_t, .inr (12, [.ref a_t_now, .ref a_t_read, .ref a_t_past, .int (z4 o1.1), .ref a_t_images, .ref a_t_isKept, .ref a_t_text, .int (z4 t_letters), .int (z4 t_at), .int (z4 t_tokenAt), .int (z4 t_tokenSort), .int (z4 t_tokenValue), .int (z4 t_items), .int (z4 t_isChanceTold), .int (z4 t_areSumsTold), .ref a_t_metAt, .ref a_t_memoryAt, .ref a_t_upAt, .ref a_t_downAt, .ref a_t_isSignal, .ref a_t_memories, .ref a_t_placeOf, .ref a_t_nextPlace, .int (z4 t_places), .ref a_t_kindOf, .ref a_t_newKind, .int (z4 t_kinds), .ref a_t_stateOfKind, .ref a_t_stateAt, .ref a_t_stepTo, .int (z4 t_states), .ref a_t_far, .ref a_t_ways, .ref a_t_nextWays, .ref a_t_table]))]) (k_X12_bring n a_t_now a_t_past 98 588 (by decide) (by decide) t_now o1.2 0 (98 * o1.1) o7 ho) [2, 1] [0] [0, 2, 1] [(a_t, .inr (12, [.ref a_t_now, .ref a_t_read, .ref a_t_past, .int (z4 o1.1), .ref a_t_images, .ref a_t_isKept, .ref a_t_text, .int (z4 t_letters), .int (z4 t_at), .int (z4 t_tokenAt), .int (z4 t_tokenSort), .int (z4 t_tokenValue), .int (z4 t_items), .int (z4 t_isChanceTold), .int (z4 t_areSumsTold), .ref a_t_metAt, .ref a_t_memoryAt, .ref a_t_upAt, .ref a_t_downAt, .ref a_t_isSignal, .ref a_t_memories, .ref a_t_placeOf, .ref a_t_nextPlace, .int (z4 t_places), .ref a_t_kindOf, .ref a_t_newKind, .int (z4 t_kinds), .ref a_t_stateOfKind, .ref a_t_stateAt, .ref a_t_stepTo, .int (z4 t_states), .ref a_t_far, .ref a_t_ways, .ref a_t_nextWays, .ref a_t_table])), (a_t_past, .inl (E 0, 588, .inl (A4 o7))), (a_t_now, .inl (E 0, 98, .inl (A4 t_now)))] rfl rfl rfl rfl (by decide) rfl rfl lk_X12_165 co_X12_bring dy_X12_bring rfl rfl ⟨Nat.le_of_ble_eq_true rfl, Nat.le_of_ble_eq_true rfl⟩ hl.1 rfl (Nat.le_of_ble_eq_true rfl) dX12_note_65 (Nat.zero_le _) (Nat.zero_le _) (fun H locs hP hD hS => ?_)
    refine lv_aload_n hx hb dX12_note_68 rfl (lv_at hl 0 rfl) ?_
    refine lv_dup hx hb dX12_note_69 rfl ?_
    refine m_get X hK hP cl_X12 iT_X12 3 (by decide) fl_X12_162 0 rfl rfl dX12_note_70 ?_
    refine m_iconst X dX12_note_73 ?_
    refine m_iadd X dX12_note_74 ?_
    refine m_put X hK hP hD hS cl_X12 iT_X12 tyX12 tyX12_ok nmX12 3 (by decide) fl_X12_162 rfl 0 rfl rfl rfl (Nat.le_of_ble_eq_true rfl) [(a_t, .inr (12, [.ref a_t_now, .ref a_t_read, .ref a_t_past, .int (z4 (o1.1 + 1)), .ref a_t_images, .ref a_t_isKept, .ref a_t_text, .int (z4 t_letters), .int (z4 t_at), .int (z4 t_tokenAt), .int (z4 t_tokenSort), .int (z4 t_tokenValue), .int (z4 t_items), .int (z4 t_isChanceTold), .int (z4 t_areSumsTold), .ref a_t_metAt, .ref a_t_memoryAt, .ref a_t_upAt, .ref a_t_downAt, .ref a_t_isSignal, .ref a_t_memories, .ref a_t_placeOf, .ref a_t_nextPlace, .int (z4 t_places), .ref a_t_kindOf, .ref a_t_newKind, .int (z4 t_kinds), .ref a_t_stateOfKind, .ref a_t_stateAt, .ref a_t_stepTo, .int (z4 t_states), .ref a_t_far, .ref a_t_ways, .ref a_t_nextWays, .ref a_t_table])), (a_t_past, .inl (E 0, 588, .inl (A4 o7))), (a_t_now, .inl (E 0, 98, .inl (A4 t_now)))] rfl dX12_note_75 (fun H locs hP hD hS => ?_)
    obtain rfl := Option.some.inj hr1
    exact ret _ _ _ _ hP hD hS dX12_note_78
  obtain ⟨h2, hj1⟩ := ck_some hj1
  refine m_icmp_ne X ⟨h2, ⟨by decide, by decide⟩⟩ dX12_note_6 (tgt := 49) (by decide) (fun (hc_ : ¬ (t_deeds = 6)) => ?_) (fun (hc_ : t_deeds = 6) => ?_)
  · rw [if_neg hc_] at hj1
    exact J1 _ (Option.some.inj hj1).symm _ _ _ (lv_sub hl [0] rfl) hP hD hS
  · rw [if_pos hc_] at hj1
    refine m_iconst X dX12_note_9 ?_
    refine lv_istore_n (lv' := [(1, .int (z4 0)), (0, .ref a_t)]) hx hb dX12_note_10 rfl hl (by decide) rfl (fun ls hl => ?_)
    obtain ⟨o3, hj3, hr3⟩ := bd_some hj1
    have E3_0 : ∀ (o_ : (Nat → Int)), o3 = o_ → ∀ (H : Heap) (locs : List Loc) (ls : Array Slot), lv_has ls 2 [(0, .ref a_t)] → va_P D vwCl [(a_t, .inr (12, [.ref a_t_now, .ref a_t_read, .ref a_t_past, .int (z4 t_deeds), .ref a_t_images, .ref a_t_isKept, .ref a_t_text, .int (z4 t_letters), .int (z4 t_at), .int (z4 t_tokenAt), .int (z4 t_tokenSort), .int (z4 t_tokenValue), .int (z4 t_items), .int (z4 t_isChanceTold), .int (z4 t_areSumsTold), .ref a_t_metAt, .ref a_t_memoryAt, .ref a_t_upAt, .ref a_t_downAt, .ref a_t_isSignal, .ref a_t_memories, .ref a_t_placeOf, .ref a_t_nextPlace, .int (z4 t_places), .ref a_t_kindOf, .ref a_t_newKind, .int (z4 t_kinds), .ref a_t_stateOfKind, .ref a_t_stateAt, .ref a_t_stepTo, .int (z4 t_states), .ref a_t_far, .ref a_t_ways, .ref a_t_nextWays, .ref a_t_table])), (a_t_past, .inl (E 0, 588, .inl (A4 o_))), (a_t_now, .inl (E 0, 98, .inl (A4 t_now)))] H → va_D A [(a_t, .inr (12, [.ref a_t_now, .ref a_t_read, .ref a_t_past, .int (z4 t_deeds), .ref a_t_images, .ref a_t_isKept, .ref a_t_text, .int (z4 t_letters), .int (z4 t_at), .int (z4 t_tokenAt), .int (z4 t_tokenSort), .int (z4 t_tokenValue), .int (z4 t_items), .int (z4 t_isChanceTold), .int (z4 t_areSumsTold), .ref a_t_metAt, .ref a_t_memoryAt, .ref a_t_upAt, .ref a_t_downAt, .ref a_t_isSignal, .ref a_t_memories, .ref a_t_placeOf, .ref a_t_nextPlace, .int (z4 t_places), .ref a_t_kindOf, .ref a_t_newKind, .int (z4 t_kinds), .ref a_t_stateOfKind, .ref a_t_stateAt, .ref a_t_stepTo, .int (z4 t_states), .ref a_t_far, .ref a_t_ways, .ref a_t_nextWays, .ref a_t_table])), (a_t_past, .inl (E 0, 588, .inl (A4 o_))), (a_t_now, .inl (E 0, 98, .inl (A4 t_now)))] → va_S A s.heap H locs → W p l e rm_X12_note s m args below meth c H locs 0 0 Q (F0 m 39 ls []) := by
      intro o_ ho_ H locs ls hl hP hD hS
      subst ho_
      refine lv_aload_n hx hb dX12_note_39 rfl (lv_at hl 0 rfl) ?_
      refine lv_dup hx hb dX12_note_40 rfl ?_
      refine m_get X hK hP cl_X12 iT_X12 3 (by decide) fl_X12_162 0 rfl rfl dX12_note_41 ?_
      refine m_iconst X dX12_note_44 ?_
      refine m_isub X dX12_note_45 ?_
      refine m_put X hK hP hD hS cl_X12 iT_X12 tyX12 tyX12_ok nmX12 3 (by decide) fl_X12_162 rfl 0 rfl rfl rfl (Nat.le_of_ble_eq_true rfl) [(a_t, .inr (12, [.ref a_t_now, .ref a_t_read, .ref a_t_past, .int (z4 (t_deeds - 1)), .ref a_t_images, .ref a_t_isKept, .ref a_t_text, .int (z4 t_letters), .int (z4 t_at), .int (z4 t_tokenAt), .int (z4 t_tokenSort), .int (z4 t_tokenValue), .int (z4 t_items), .int (z4 t_isChanceTold), .int (z4 t_areSumsTold), .ref a_t_metAt, .ref a_t_memoryAt, .ref a_t_upAt, .ref a_t_downAt, .ref a_t_isSignal, .ref a_t_memories, .ref a_t_placeOf, .ref a_t_nextPlace, .int (z4 t_places), .ref a_t_kindOf, .ref a_t_newKind, .int (z4 t_kinds), .ref a_t_stateOfKind, .ref a_t_stateAt, .ref a_t_stepTo, .int (z4 t_states), .ref a_t_far, .ref a_t_ways, .ref a_t_nextWays, .ref a_t_table])), (a_t_past, .inl (E 0, 588, .inl (A4 o3))), (a_t_now, .inl (E 0, 98, .inl (A4 t_now)))] rfl dX12_note_46 (fun H locs hP hD hS => ?_)
      exact J1 _ (Option.some.inj hr3).symm _ _ _ (lv_sub hl [0] rfl) hP hD hS
    have L3 : ∀ (k_ : Nat) (v11_1 : Int) (t_past_l11 : Nat → Int), ∀ (H : Heap) (locs : List Loc) (ls : Array Slot), lv_has ls 2 [(0, .ref a_t), (1, .int (z4 v11_1))] → va_P D vwCl [(a_t, .inr (12, [.ref a_t_now, .ref a_t_read, .ref a_t_past, .int (z4 t_deeds), .ref a_t_images, .ref a_t_isKept, .ref a_t_text, .int (z4 t_letters), .int (z4 t_at), .int (z4 t_tokenAt), .int (z4 t_tokenSort), .int (z4 t_tokenValue), .int (z4 t_items), .int (z4 t_isChanceTold), .int (z4 t_areSumsTold), .ref a_t_metAt, .ref a_t_memoryAt, .ref a_t_upAt, .ref a_t_downAt, .ref a_t_isSignal, .ref a_t_memories, .ref a_t_placeOf, .ref a_t_nextPlace, .int (z4 t_places), .ref a_t_kindOf, .ref a_t_newKind, .int (z4 t_kinds), .ref a_t_stateOfKind, .ref a_t_stateAt, .ref a_t_stepTo, .int (z4 t_states), .ref a_t_far, .ref a_t_ways, .ref a_t_nextWays, .ref a_t_table])), (a_t_past, .inl (E 0, 588, .inl (A4 t_past_l11))), (a_t_now, .inl (E 0, 98, .inl (A4 t_now)))] H → va_D A [(a_t, .inr (12, [.ref a_t_now, .ref a_t_read, .ref a_t_past, .int (z4 t_deeds), .ref a_t_images, .ref a_t_isKept, .ref a_t_text, .int (z4 t_letters), .int (z4 t_at), .int (z4 t_tokenAt), .int (z4 t_tokenSort), .int (z4 t_tokenValue), .int (z4 t_items), .int (z4 t_isChanceTold), .int (z4 t_areSumsTold), .ref a_t_metAt, .ref a_t_memoryAt, .ref a_t_upAt, .ref a_t_downAt, .ref a_t_isSignal, .ref a_t_memories, .ref a_t_placeOf, .ref a_t_nextPlace, .int (z4 t_places), .ref a_t_kindOf, .ref a_t_newKind, .int (z4 t_kinds), .ref a_t_stateOfKind, .ref a_t_stateAt, .ref a_t_stepTo, .int (z4 t_states), .ref a_t_far, .ref a_t_ways, .ref a_t_nextWays, .ref a_t_table])), (a_t_past, .inl (E 0, 588, .inl (A4 t_past_l11))), (a_t_now, .inl (E 0, 98, .inl (A4 t_now)))] → va_S A s.heap H locs → lp_ (fun (q : Int × (Nat → Int)) => F_X12_note_L11 n q.1 q.2) k_ (v11_1, t_past_l11) = some o3 → W p l e rm_X12_note s m args below meth c H locs 0 0 Q (F0 m 11 ls []) := by
      intro k_
      induction k_ with
      | zero =>
        intro v11_1 t_past_l11 H locs ls hl hP hD hS hq_; exact (lp_zero hq_).elim
      | succ k_ ih3 =>
        intro v11_1 t_past_l11 H locs ls hl hP hD hS hq_
        obtain ⟨t_3, hb3, hq3⟩ := lp_some hq_
        replace hb3 : F_X12_note_L11 n v11_1 t_past_l11 = some t_3 := hb3
        unfold F_X12_note_L11 at hb3
        refine lv_iload_n hx hb dX12_note_11 rfl (lv_at hl 1 rfl) ?_
        refine m_sipush X dX12_note_12 (by decide) ?_
        obtain ⟨h4, hb3⟩ := ck_some hb3
        refine m_icmp_ge X ⟨h4, ⟨by decide, by decide⟩⟩ dX12_note_15 (tgt := 39) (by decide) (fun (hc_ : ¬ (v11_1 < 490)) => ?_) (fun (hc_ : v11_1 < 490) => ?_)
        · rw [if_neg hc_] at hb3
          obtain rfl := Option.some.inj hb3
          exact E3_0 _ (Option.some.inj hq3).symm _ _ _ (lv_sub hl [0] rfl) hP hD hS
        · rw [if_pos hc_] at hb3
          refine lv_aload_n hx hb dX12_note_18 rfl (lv_at hl 0 rfl) ?_
          refine m_get X hK hP cl_X12 iT_X12 2 (by decide) fl_X12_16 0 rfl rfl dX12_note_19 ?_
          refine lv_iload_n hx hb dX12_note_22 rfl (lv_at hl 1 rfl) ?_
          refine lv_aload_n hx hb dX12_note_23 rfl (lv_at hl 0 rfl) ?_
          refine m_get X hK hP cl_X12 iT_X12 2 (by decide) fl_X12_16 0 rfl rfl dX12_note_24 ?_
          refine lv_iload_n hx hb dX12_note_27 rfl (lv_at hl 1 rfl) ?_
          refine m_bipush X dX12_note_28 (by decide) ?_
          refine m_iadd X dX12_note_30 ?_
          obtain ⟨h5, hb3⟩ := ck_some hb3
          refine m_iald X hK hP 1 rfl (by decide) h5 dX12_note_31 ?_
          obtain ⟨h6, hb3⟩ := ck_some hb3
          refine m_iast X hK hP hD hS 1 rfl (by decide) h6 [(a_t, .inr (12, [.ref a_t_now, .ref a_t_read, .ref a_t_past, .int (z4 t_deeds), .ref a_t_images, .ref a_t_isKept, .ref a_t_text, .int (z4 t_letters), .int (z4 t_at), .int (z4 t_tokenAt), .int (z4 t_tokenSort), .int (z4 t_tokenValue), .int (z4 t_items), .int (z4 t_isChanceTold), .int (z4 t_areSumsTold), .ref a_t_metAt, .ref a_t_memoryAt, .ref a_t_upAt, .ref a_t_downAt, .ref a_t_isSignal, .ref a_t_memories, .ref a_t_placeOf, .ref a_t_nextPlace, .int (z4 t_places), .ref a_t_kindOf, .ref a_t_newKind, .int (z4 t_kinds), .ref a_t_stateOfKind, .ref a_t_stateAt, .ref a_t_stepTo, .int (z4 t_states), .ref a_t_far, .ref a_t_ways, .ref a_t_nextWays, .ref a_t_table])), (a_t_past, .inl (E 0, 588, .inl (A4 (up_ t_past_l11 (v11_1).toNat (t_past_l11 (v11_1 + 98).toNat))))), (a_t_now, .inl (E 0, 98, .inl (A4 t_now)))] rfl dX12_note_32 (fun H locs hP hD hS => ?_)
          refine m_iinc X 1 [(1, .int (z4 (v11_1 + 1))), (0, .ref a_t)] dX12_note_33 hl rfl (by decide) rfl (fun ls hl => ?_)
          refine lv_goto (tgt := 11) hx hb dX12_note_36 (by decide) ?_
          obtain rfl := Option.some.inj hb3
          exact ih3 _ _ _ _ _ (lv_sub hl [1, 0] rfl) hP hD hS hq3
    exact L3 n _ _ _ _ _ (lv_sub hl [1, 0] rfl) hP hD hS hj3
def F_X12_tells (n : Nat)  (t_deeds : Int) (t_letters : Int) (t_tokenValue : Int) (t_read : Nat → Int) (t_text : Nat → Int) (t_past : Nat → Int) (t_now : Nat → Int)  : Option (Int × Int × Int × Int × Int × Int × Int × Int × Int × Int × (Nat → Int) × (Nat → Int) × (Nat → Int)) :=
  (F_X12_readText n t_letters t_tokenValue t_read t_text).bind fun o1 =>
  ck (r4 o1.1) <|
  if o1.1 = (-9) then
    (F_X12_note n t_deeds t_past t_now).bind fun o3 =>
    (F_X12_takeRead n o1.2.2.2.2.2.2.2.2 t_now).bind fun o4 =>
    some (o1.2.2.2.2.2.1, o3.1, 0, o1.2.1, o1.2.2.1, o1.2.2.2.1, o1.2.2.2.2.1, o1.2.2.2.2.2.1, o1.2.2.2.2.2.2.1, o1.2.2.2.2.2.2.2.1, o1.2.2.2.2.2.2.2.2, o3.2, o4)
  else
    some ((-10) - o1.1, t_deeds, t_letters, o1.2.1, o1.2.2.1, o1.2.2.2.1, o1.2.2.2.2.1, o1.2.2.2.2.2.1, o1.2.2.2.2.2.2.1, o1.2.2.2.2.2.2.2.1, o1.2.2.2.2.2.2.2.2, t_past, t_now)
def rm_X12_tells : Room := { frames := 7, cells := 0, slots := 0, locals := 154 }
set_option maxHeartbeats 4000000 in
set_option maxRecDepth 100000 in
theorem k_X12_tells {l : Launch} {D : va_G} {E : Nat → ClassId} (n : Nat) (a_t a_t_now a_t_read a_t_past a_t_images a_t_isKept a_t_text a_t_metAt a_t_memoryAt a_t_upAt a_t_downAt a_t_isSignal a_t_memories a_t_placeOf a_t_nextPlace a_t_kindOf a_t_newKind a_t_stateOfKind a_t_stateAt a_t_stepTo a_t_far a_t_ways a_t_nextWays a_t_table : Nat) (t_deeds : Int) (t_letters : Int) (t_at : Int) (t_tokenAt : Int) (t_tokenSort : Int) (t_tokenValue : Int) (t_items : Int) (t_isChanceTold : Int) (t_areSumsTold : Int) (t_places : Int) (t_kinds : Int) (t_states : Int) (t_read : Nat → Int) (t_text : Nat → Int) (t_past : Nat → Int) (t_now : Nat → Int) (res : Int × Int × Int × Int × Int × Int × Int × Int × Int × Int × (Nat → Int) × (Nat → Int) × (Nat → Int)) (hf : F_X12_tells n t_deeds t_letters t_tokenValue t_read t_text t_past t_now = some res) : MW l yX12_tells (.code yX12_tells cX12_tells 2 (some .int)) rm_X12_tells D E [.ref a_t] [(a_t, .inr (12, [.ref a_t_now, .ref a_t_read, .ref a_t_past, .int (z4 t_deeds), .ref a_t_images, .ref a_t_isKept, .ref a_t_text, .int (z4 t_letters), .int (z4 t_at), .int (z4 t_tokenAt), .int (z4 t_tokenSort), .int (z4 t_tokenValue), .int (z4 t_items), .int (z4 t_isChanceTold), .int (z4 t_areSumsTold), .ref a_t_metAt, .ref a_t_memoryAt, .ref a_t_upAt, .ref a_t_downAt, .ref a_t_isSignal, .ref a_t_memories, .ref a_t_placeOf, .ref a_t_nextPlace, .int (z4 t_places), .ref a_t_kindOf, .ref a_t_newKind, .int (z4 t_kinds), .ref a_t_stateOfKind, .ref a_t_stateAt, .ref a_t_stepTo, .int (z4 t_states), .ref a_t_far, .ref a_t_ways, .ref a_t_nextWays, .ref a_t_table])), (a_t_read, .inl (E 0, 98, .inl (A4 t_read))), (a_t_text, .inl (E 0, 120, .inl (A4 t_text))), (a_t_past, .inl (E 0, 588, .inl (A4 t_past))), (a_t_now, .inl (E 0, 98, .inl (A4 t_now)))] (some (.int (z4 res.1))) [(a_t, .inr (12, [.ref a_t_now, .ref a_t_read, .ref a_t_past, .int (z4 res.2.1), .ref a_t_images, .ref a_t_isKept, .ref a_t_text, .int (z4 res.2.2.1), .int (z4 res.2.2.2.1), .int (z4 res.2.2.2.2.1), .int (z4 res.2.2.2.2.2.1), .int (z4 res.2.2.2.2.2.2.1), .int (z4 res.2.2.2.2.2.2.2.1), .int (z4 res.2.2.2.2.2.2.2.2.1), .int (z4 res.2.2.2.2.2.2.2.2.2.1), .ref a_t_metAt, .ref a_t_memoryAt, .ref a_t_upAt, .ref a_t_downAt, .ref a_t_isSignal, .ref a_t_memories, .ref a_t_placeOf, .ref a_t_nextPlace, .int (z4 t_places), .ref a_t_kindOf, .ref a_t_newKind, .int (z4 t_kinds), .ref a_t_stateOfKind, .ref a_t_stateAt, .ref a_t_stepTo, .int (z4 t_states), .ref a_t_far, .ref a_t_ways, .ref a_t_nextWays, .ref a_t_table])), (a_t_read, .inl (E 0, 98, .inl (A4 res.2.2.2.2.2.2.2.2.2.2.1))), (a_t_text, .inl (E 0, 120, .inl (A4 t_text))), (a_t_past, .inl (E 0, 588, .inl (A4 res.2.2.2.2.2.2.2.2.2.2.2.1))), (a_t_now, .inl (E 0, 98, .inl (A4 res.2.2.2.2.2.2.2.2.2.2.2.2)))] := by
  refine MWi (by decide) (Nat.le_of_ble_eq_true rfl) ?_
  intro p e s m args below meth c A Q X hK hP hD hA ret ls hl
  have hS : va_S A s.heap s.heap [] := va_S.rf
  have hx := X.1
  have hb := X.2.1
  have hl : lv_has ls 2 [(0, .ref a_t)] := hl
  unfold F_X12_tells at hf
  refine lv_aload_n hx hb dX12_tells_0 rfl (lv_at hl 0 rfl) ?_
  obtain ⟨o1, ho, hf⟩ := bd_some hf
  refine m_cVW X hK hP hD hS hA (wr := [(a_t_past, .inl (E 0, 588, .inl (A4 t_past))), (a_t_now, .inl (E 0, 98, .inl (A4 t_now)))]) (k_X12_readText n a_t a_t_now a_t_read a_t_past a_t_images a_t_isKept a_t_text a_t_metAt a_t_memoryAt a_t_upAt a_t_downAt a_t_isSignal a_t_memories a_t_placeOf a_t_nextPlace a_t_kindOf a_t_newKind a_t_stateOfKind a_t_stateAt a_t_stepTo a_t_far a_t_ways a_t_nextWays a_t_table t_deeds t_letters t_at t_tokenAt t_tokenSort t_tokenValue t_items t_isChanceTold t_areSumsTold t_places t_kinds t_states t_read t_text o1 ho) [0, 1, 2] [3, 4] [2, 3, 4, 0, 1] [(a_t, .inr (12, [.ref a_t_now, .ref a_t_read, .ref a_t_past, .int (z4 t_deeds), .ref a_t_images, .ref a_t_isKept, .ref a_t_text, .int (z4 t_letters), .int (z4 o1.2.1), .int (z4 o1.2.2.1), .int (z4 o1.2.2.2.1), .int (z4 o1.2.2.2.2.1), .int (z4 o1.2.2.2.2.2.1), .int (z4 o1.2.2.2.2.2.2.1), .int (z4 o1.2.2.2.2.2.2.2.1), .ref a_t_metAt, .ref a_t_memoryAt, .ref a_t_upAt, .ref a_t_downAt, .ref a_t_isSignal, .ref a_t_memories, .ref a_t_placeOf, .ref a_t_nextPlace, .int (z4 t_places), .ref a_t_kindOf, .ref a_t_newKind, .int (z4 t_kinds), .ref a_t_stateOfKind, .ref a_t_stateAt, .ref a_t_stepTo, .int (z4 t_states), .ref a_t_far, .ref a_t_ways, .ref a_t_nextWays, .ref a_t_table])), (a_t_read, .inl (E 0, 98, .inl (A4 o1.2.2.2.2.2.2.2.2))), (a_t_text, .inl (E 0, 120, .inl (A4 t_text))), (a_t_past, .inl (E 0, 588, .inl (A4 t_past))), (a_t_now, .inl (E 0, 98, .inl (A4 t_now)))] rfl rfl rfl rfl (by decide) rfl rfl rfl cl_X12 lk_X12_156 co_X12_readText dy_X12_readText rfl rfl ⟨Nat.le_of_ble_eq_true rfl, Nat.le_of_ble_eq_true rfl⟩ hl.1 rfl (Nat.le_of_ble_eq_true rfl) dX12_tells_1 (Nat.zero_le _) (Nat.zero_le _) (fun H locs hP hD hS => ?_)
  refine lv_istore_n (lv' := [(1, .int (z4 o1.1)), (0, .ref a_t)]) hx hb dX12_tells_4 rfl hl (by decide) rfl (fun ls hl => ?_)
  refine lv_iload_n hx hb dX12_tells_5 rfl (lv_at hl 0 rfl) ?_
  refine m_bipush X dX12_tells_6 (by decide) ?_
  obtain ⟨h2, hf⟩ := ck_some hf
  refine m_icmp_eq X ⟨h2, ⟨by decide, by decide⟩⟩ dX12_tells_8 (tgt := 16) (by decide) (fun (hc_ : o1.1 = (-9)) => ?_) (fun (hc_ : ¬ (o1.1 = (-9))) => ?_)
  · rw [if_pos hc_] at hf
    refine lv_aload_n hx hb dX12_tells_16 rfl (lv_at hl 1 rfl) ?_
    obtain ⟨o3, ho, hf⟩ := bd_some hf
    refine m_cVW X hK hP hD hS hA (wr := [(a_t_read, .inl (E 0, 98, .inl (A4 o1.2.2.2.2.2.2.2.2))), (a_t_text, .inl (E 0, 120, .inl (A4 t_text)))]) (k_X12_note n a_t a_t_now a_t_read a_t_past a_t_images a_t_isKept a_t_text a_t_metAt a_t_memoryAt a_t_upAt a_t_downAt a_t_isSignal a_t_memories a_t_placeOf a_t_nextPlace a_t_kindOf a_t_newKind a_t_stateOfKind a_t_stateAt a_t_stepTo a_t_far a_t_ways a_t_nextWays a_t_table t_deeds t_letters o1.2.1 o1.2.2.1 o1.2.2.2.1 o1.2.2.2.2.1 o1.2.2.2.2.2.1 o1.2.2.2.2.2.2.1 o1.2.2.2.2.2.2.2.1 t_places t_kinds t_states t_past t_now o3 ho) [0, 3, 4] [1, 2] [2, 0, 1, 3, 4] [(a_t, .inr (12, [.ref a_t_now, .ref a_t_read, .ref a_t_past, .int (z4 o3.1), .ref a_t_images, .ref a_t_isKept, .ref a_t_text, .int (z4 t_letters), .int (z4 o1.2.1), .int (z4 o1.2.2.1), .int (z4 o1.2.2.2.1), .int (z4 o1.2.2.2.2.1), .int (z4 o1.2.2.2.2.2.1), .int (z4 o1.2.2.2.2.2.2.1), .int (z4 o1.2.2.2.2.2.2.2.1), .ref a_t_metAt, .ref a_t_memoryAt, .ref a_t_upAt, .ref a_t_downAt, .ref a_t_isSignal, .ref a_t_memories, .ref a_t_placeOf, .ref a_t_nextPlace, .int (z4 t_places), .ref a_t_kindOf, .ref a_t_newKind, .int (z4 t_kinds), .ref a_t_stateOfKind, .ref a_t_stateAt, .ref a_t_stepTo, .int (z4 t_states), .ref a_t_far, .ref a_t_ways, .ref a_t_nextWays, .ref a_t_table])), (a_t_read, .inl (E 0, 98, .inl (A4 o1.2.2.2.2.2.2.2.2))), (a_t_text, .inl (E 0, 120, .inl (A4 t_text))), (a_t_past, .inl (E 0, 588, .inl (A4 o3.2))), (a_t_now, .inl (E 0, 98, .inl (A4 t_now)))] rfl rfl rfl rfl (by decide) rfl rfl rfl cl_X12 lk_X12_159 co_X12_note dy_X12_note rfl rfl ⟨Nat.le_of_ble_eq_true rfl, Nat.le_of_ble_eq_true rfl⟩ hl.1 rfl (Nat.le_of_ble_eq_true rfl) dX12_tells_17 (Nat.zero_le _) (Nat.zero_le _) (fun H locs hP hD hS => ?_)
    refine lv_aload_n hx hb dX12_tells_20 rfl (lv_at hl 1 rfl) ?_
    obtain ⟨o4, ho, hf⟩ := bd_some hf
    refine m_cVW X hK hP hD hS hA (wr := [(a_t_text, .inl (E 0, 120, .inl (A4 t_text))), (a_t_past, .inl (E 0, 588, .inl (A4 o3.2)))]) (k_X12_takeRead n a_t a_t_now a_t_read a_t_past a_t_images a_t_isKept a_t_text a_t_metAt a_t_memoryAt a_t_upAt a_t_downAt a_t_isSignal a_t_memories a_t_placeOf a_t_nextPlace a_t_kindOf a_t_newKind a_t_stateOfKind a_t_stateAt a_t_stepTo a_t_far a_t_ways a_t_nextWays a_t_table o3.1 t_letters o1.2.1 o1.2.2.1 o1.2.2.2.1 o1.2.2.2.2.1 o1.2.2.2.2.2.1 o1.2.2.2.2.2.2.1 o1.2.2.2.2.2.2.2.1 t_places t_kinds t_states o1.2.2.2.2.2.2.2.2 t_now o4 ho) [0, 1, 4] [2, 3] [2, 3, 0, 1, 4] [(a_t, .inr (12, [.ref a_t_now, .ref a_t_read, .ref a_t_past, .int (z4 o3.1), .ref a_t_images, .ref a_t_isKept, .ref a_t_text, .int (z4 t_letters), .int (z4 o1.2.1), .int (z4 o1.2.2.1), .int (z4 o1.2.2.2.1), .int (z4 o1.2.2.2.2.1), .int (z4 o1.2.2.2.2.2.1), .int (z4 o1.2.2.2.2.2.2.1), .int (z4 o1.2.2.2.2.2.2.2.1), .ref a_t_metAt, .ref a_t_memoryAt, .ref a_t_upAt, .ref a_t_downAt, .ref a_t_isSignal, .ref a_t_memories, .ref a_t_placeOf, .ref a_t_nextPlace, .int (z4 t_places), .ref a_t_kindOf, .ref a_t_newKind, .int (z4 t_kinds), .ref a_t_stateOfKind, .ref a_t_stateAt, .ref a_t_stepTo, .int (z4 t_states), .ref a_t_far, .ref a_t_ways, .ref a_t_nextWays, .ref a_t_table])), (a_t_read, .inl (E 0, 98, .inl (A4 o1.2.2.2.2.2.2.2.2))), (a_t_text, .inl (E 0, 120, .inl (A4 t_text))), (a_t_past, .inl (E 0, 588, .inl (A4 o3.2))), (a_t_now, .inl (E 0, 98, .inl (A4 o4)))] rfl rfl rfl rfl (by decide) rfl rfl rfl cl_X12 lk_X12_84 co_X12_takeRead dy_X12_takeRead rfl rfl ⟨Nat.le_of_ble_eq_true rfl, Nat.le_of_ble_eq_true rfl⟩ hl.1 rfl (Nat.le_of_ble_eq_true rfl) dX12_tells_21 (Nat.zero_le _) (Nat.zero_le _) (fun H locs hP hD hS => ?_)
    refine lv_aload_n hx hb dX12_tells_24 rfl (lv_at hl 1 rfl) ?_
    refine m_iconst X dX12_tells_25 ?_
    refine m_put X hK hP hD hS cl_X12 iT_X12 tyX12 tyX12_ok nmX12 7 (by decide) fl_X12_102 rfl 0 rfl rfl rfl (Nat.le_of_ble_eq_true rfl) [(a_t, .inr (12, [.ref a_t_now, .ref a_t_read, .ref a_t_past, .int (z4 o3.1), .ref a_t_images, .ref a_t_isKept, .ref a_t_text, .int (z4 0), .int (z4 o1.2.1), .int (z4 o1.2.2.1), .int (z4 o1.2.2.2.1), .int (z4 o1.2.2.2.2.1), .int (z4 o1.2.2.2.2.2.1), .int (z4 o1.2.2.2.2.2.2.1), .int (z4 o1.2.2.2.2.2.2.2.1), .ref a_t_metAt, .ref a_t_memoryAt, .ref a_t_upAt, .ref a_t_downAt, .ref a_t_isSignal, .ref a_t_memories, .ref a_t_placeOf, .ref a_t_nextPlace, .int (z4 t_places), .ref a_t_kindOf, .ref a_t_newKind, .int (z4 t_kinds), .ref a_t_stateOfKind, .ref a_t_stateAt, .ref a_t_stepTo, .int (z4 t_states), .ref a_t_far, .ref a_t_ways, .ref a_t_nextWays, .ref a_t_table])), (a_t_read, .inl (E 0, 98, .inl (A4 o1.2.2.2.2.2.2.2.2))), (a_t_text, .inl (E 0, 120, .inl (A4 t_text))), (a_t_past, .inl (E 0, 588, .inl (A4 o3.2))), (a_t_now, .inl (E 0, 98, .inl (A4 o4)))] rfl dX12_tells_26 (fun H locs hP hD hS => ?_)
    refine lv_aload_n hx hb dX12_tells_29 rfl (lv_at hl 1 rfl) ?_
    refine m_get X hK hP cl_X12 iT_X12 12 (by decide) fl_X12_150 0 rfl rfl dX12_tells_30 ?_
    obtain rfl := Option.some.inj hf
    exact ret _ _ _ _ hP hD hS dX12_tells_33
  · rw [if_neg hc_] at hf
    refine m_bipush X dX12_tells_11 (by decide) ?_
    refine lv_iload_n hx hb dX12_tells_13 rfl (lv_at hl 0 rfl) ?_
    refine m_isub X dX12_tells_14 ?_
    obtain rfl := Option.some.inj hf
    exact ret _ _ _ _ hP hD hS dX12_tells_15
def F_X12_undo (n : Nat)  (t_deeds : Int) (t_past : Nat → Int) (t_now : Nat → Int)  : Option (Int × Int × (Nat → Int)) :=
  ck (r4 t_deeds) <|
  if t_deeds = 0 then
    some ((-2), t_deeds, t_now)
  else
    (F_X12_bring n 588 98 t_past t_now (98 * (t_deeds - 1)) 0).bind fun o2 =>
    some (t_deeds - 1, t_deeds - 1, o2)
def rm_X12_undo : Room := { frames := 1, cells := 0, slots := 0, locals := 24 }
set_option maxHeartbeats 4000000 in
set_option maxRecDepth 100000 in
theorem k_X12_undo {l : Launch} {D : va_G} {E : Nat → ClassId} (n : Nat) (a_t a_t_now a_t_read a_t_past a_t_images a_t_isKept a_t_text a_t_metAt a_t_memoryAt a_t_upAt a_t_downAt a_t_isSignal a_t_memories a_t_placeOf a_t_nextPlace a_t_kindOf a_t_newKind a_t_stateOfKind a_t_stateAt a_t_stepTo a_t_far a_t_ways a_t_nextWays a_t_table : Nat) (t_deeds : Int) (t_letters : Int) (t_at : Int) (t_tokenAt : Int) (t_tokenSort : Int) (t_tokenValue : Int) (t_items : Int) (t_isChanceTold : Int) (t_areSumsTold : Int) (t_places : Int) (t_kinds : Int) (t_states : Int) (t_past : Nat → Int) (t_now : Nat → Int) (res : Int × Int × (Nat → Int)) (hf : F_X12_undo n t_deeds t_past t_now = some res) : MW l yX12_undo (.code yX12_undo cX12_undo 1 (some .int)) rm_X12_undo D E [.ref a_t] [(a_t, .inr (12, [.ref a_t_now, .ref a_t_read, .ref a_t_past, .int (z4 t_deeds), .ref a_t_images, .ref a_t_isKept, .ref a_t_text, .int (z4 t_letters), .int (z4 t_at), .int (z4 t_tokenAt), .int (z4 t_tokenSort), .int (z4 t_tokenValue), .int (z4 t_items), .int (z4 t_isChanceTold), .int (z4 t_areSumsTold), .ref a_t_metAt, .ref a_t_memoryAt, .ref a_t_upAt, .ref a_t_downAt, .ref a_t_isSignal, .ref a_t_memories, .ref a_t_placeOf, .ref a_t_nextPlace, .int (z4 t_places), .ref a_t_kindOf, .ref a_t_newKind, .int (z4 t_kinds), .ref a_t_stateOfKind, .ref a_t_stateAt, .ref a_t_stepTo, .int (z4 t_states), .ref a_t_far, .ref a_t_ways, .ref a_t_nextWays, .ref a_t_table])), (a_t_past, .inl (E 0, 588, .inl (A4 t_past))), (a_t_now, .inl (E 0, 98, .inl (A4 t_now)))] (some (.int (z4 res.1))) [(a_t, .inr (12, [.ref a_t_now, .ref a_t_read, .ref a_t_past, .int (z4 res.2.1), .ref a_t_images, .ref a_t_isKept, .ref a_t_text, .int (z4 t_letters), .int (z4 t_at), .int (z4 t_tokenAt), .int (z4 t_tokenSort), .int (z4 t_tokenValue), .int (z4 t_items), .int (z4 t_isChanceTold), .int (z4 t_areSumsTold), .ref a_t_metAt, .ref a_t_memoryAt, .ref a_t_upAt, .ref a_t_downAt, .ref a_t_isSignal, .ref a_t_memories, .ref a_t_placeOf, .ref a_t_nextPlace, .int (z4 t_places), .ref a_t_kindOf, .ref a_t_newKind, .int (z4 t_kinds), .ref a_t_stateOfKind, .ref a_t_stateAt, .ref a_t_stepTo, .int (z4 t_states), .ref a_t_far, .ref a_t_ways, .ref a_t_nextWays, .ref a_t_table])), (a_t_past, .inl (E 0, 588, .inl (A4 t_past))), (a_t_now, .inl (E 0, 98, .inl (A4 res.2.2)))] := by
  refine MWi (by decide) (Nat.le_of_ble_eq_true rfl) ?_
  intro p e s m args below meth c A Q X hK hP hD hA ret ls hl
  have hS : va_S A s.heap s.heap [] := va_S.rf
  have hx := X.1
  have hb := X.2.1
  have hl : lv_has ls 1 [(0, .ref a_t)] := hl
  unfold F_X12_undo at hf
  refine lv_aload_n hx hb dX12_undo_0 rfl (lv_at hl 0 rfl) ?_
  refine m_get X hK hP cl_X12 iT_X12 3 (by decide) fl_X12_162 0 rfl rfl dX12_undo_1 ?_
  obtain ⟨h1, hf⟩ := ck_some hf
  refine m_if_ne X h1 dX12_undo_4 (tgt := 10) (by decide) (fun (hc_ : ¬ (t_deeds = 0)) => ?_) (fun (hc_ : t_deeds = 0) => ?_)
  · rw [if_neg hc_] at hf
    refine lv_aload_n hx hb dX12_undo_10 rfl (lv_at hl 0 rfl) ?_
    refine lv_dup hx hb dX12_undo_11 rfl ?_
    refine m_get X hK hP cl_X12 iT_X12 3 (by decide) fl_X12_162 0 rfl rfl dX12_undo_12 ?_
    refine m_iconst X dX12_undo_15 ?_
    refine m_isub X dX12_undo_16 ?_
    refine m_put X hK hP hD hS cl_X12 iT_X12 tyX12 tyX12_ok nmX12 3 (by decide) fl_X12_162 rfl 0 rfl rfl rfl (Nat.le_of_ble_eq_true rfl) [(a_t, .inr (12, [.ref a_t_now, .ref a_t_read, .ref a_t_past, .int (z4 (t_deeds - 1)), .ref a_t_images, .ref a_t_isKept, .ref a_t_text, .int (z4 t_letters), .int (z4 t_at), .int (z4 t_tokenAt), .int (z4 t_tokenSort), .int (z4 t_tokenValue), .int (z4 t_items), .int (z4 t_isChanceTold), .int (z4 t_areSumsTold), .ref a_t_metAt, .ref a_t_memoryAt, .ref a_t_upAt, .ref a_t_downAt, .ref a_t_isSignal, .ref a_t_memories, .ref a_t_placeOf, .ref a_t_nextPlace, .int (z4 t_places), .ref a_t_kindOf, .ref a_t_newKind, .int (z4 t_kinds), .ref a_t_stateOfKind, .ref a_t_stateAt, .ref a_t_stepTo, .int (z4 t_states), .ref a_t_far, .ref a_t_ways, .ref a_t_nextWays, .ref a_t_table])), (a_t_past, .inl (E 0, 588, .inl (A4 t_past))), (a_t_now, .inl (E 0, 98, .inl (A4 t_now)))] rfl dX12_undo_17 (fun H locs hP hD hS => ?_)
    refine lv_aload_n hx hb dX12_undo_20 rfl (lv_at hl 0 rfl) ?_
    refine m_get X hK hP cl_X12 iT_X12 2 (by decide) fl_X12_16 0 rfl rfl dX12_undo_21 ?_
    refine m_bipush X dX12_undo_24 (by decide) ?_
    refine lv_aload_n hx hb dX12_undo_26 rfl (lv_at hl 0 rfl) ?_
    refine m_get X hK hP cl_X12 iT_X12 3 (by decide) fl_X12_162 0 rfl rfl dX12_undo_27 ?_
    refine m_imul X dX12_undo_30 ?_
    refine lv_aload_n hx hb dX12_undo_31 rfl (lv_at hl 0 rfl) ?_
    refine m_get X hK hP cl_X12 iT_X12 0 (by decide) fl_X12_7 0 rfl rfl dX12_undo_32 ?_
    refine m_iconst X dX12_undo_35 ?_
    obtain ⟨o2, ho, hf⟩ := bd_some hf
    refine m_cSW X hK hP hD hS hA (wr := [(a_t, .inr (12, [.ref a_t_now, .ref a_t_read, .ref a_t_past, .int (z4 (t_deeds - 1)), .ref a_t_images, .ref a_t_isKept, .ref a_t_text, .int (z4 t_letters), .int (z4 t_at), .int (z4 t_tokenAt), .int (z4 t_tokenSort), .int (z4 t_tokenValue), .int (z4 t_items), .int (z4 t_isChanceTold), .int (z4 t_areSumsTold), .ref a_t_metAt, .ref a_t_memoryAt, .ref a_t_upAt, .ref a_t_downAt, .ref a_t_isSignal, .ref a_t_memories, .ref a_t_placeOf, .ref a_t_nextPlace, .int (z4 t_places), .ref a_t_kindOf, .ref a_t_newKind, .int (z4 t_kinds), .ref a_t_stateOfKind, .ref a_t_stateAt, .ref a_t_stepTo, .int (z4 t_states), .ref a_t_far, .ref a_t_ways, .ref a_t_nextWays, .ref a_t_table]))]) (k_X12_bring n a_t_past a_t_now 588 98 (by decide) (by decide) t_past t_now (98 * (t_deeds - 1)) 0 o2 ho) [1, 2] [0] [0, 1, 2] [(a_t, .inr (12, [.ref a_t_now, .ref a_t_read, .ref a_t_past, .int (z4 (t_deeds - 1)), .ref a_t_images, .ref a_t_isKept, .ref a_t_text, .int (z4 t_letters), .int (z4 t_at), .int (z4 t_tokenAt), .int (z4 t_tokenSort), .int (z4 t_tokenValue), .int (z4 t_items), .int (z4 t_isChanceTold), .int (z4 t_areSumsTold), .ref a_t_metAt, .ref a_t_memoryAt, .ref a_t_upAt, .ref a_t_downAt, .ref a_t_isSignal, .ref a_t_memories, .ref a_t_placeOf, .ref a_t_nextPlace, .int (z4 t_places), .ref a_t_kindOf, .ref a_t_newKind, .int (z4 t_kinds), .ref a_t_stateOfKind, .ref a_t_stateAt, .ref a_t_stepTo, .int (z4 t_states), .ref a_t_far, .ref a_t_ways, .ref a_t_nextWays, .ref a_t_table])), (a_t_past, .inl (E 0, 588, .inl (A4 t_past))), (a_t_now, .inl (E 0, 98, .inl (A4 o2)))] rfl rfl rfl rfl (by decide) rfl rfl lk_X12_165 co_X12_bring dy_X12_bring rfl rfl ⟨Nat.le_of_ble_eq_true rfl, Nat.le_of_ble_eq_true rfl⟩ hl.1 rfl (Nat.le_of_ble_eq_true rfl) dX12_undo_36 (Nat.zero_le _) (Nat.zero_le _) (fun H locs hP hD hS => ?_)
    refine lv_aload_n hx hb dX12_undo_39 rfl (lv_at hl 0 rfl) ?_
    refine m_get X hK hP cl_X12 iT_X12 3 (by decide) fl_X12_162 0 rfl rfl dX12_undo_40 ?_
    obtain rfl := Option.some.inj hf
    exact ret _ _ _ _ hP hD hS dX12_undo_43
  · rw [if_pos hc_] at hf
    refine m_bipush X dX12_undo_7 (by decide) ?_
    obtain rfl := Option.some.inj hf
    exact ret _ _ _ _ hP hD hS dX12_undo_9
def F_X12_isRow (n : Nat)  (t_now : Nat → Int) (x1 : Int) : Option (Int) :=
  (F_X12_in n x1 0 ((t_now 17) - 1)).bind fun o1 =>
  ck (o1 = 0 ∨ o1 = 1) <|
  some o1
def rm_X12_isRow : Room := { frames := 1, cells := 0, slots := 0, locals := 22 }
set_option maxHeartbeats 4000000 in
set_option maxRecDepth 100000 in
theorem k_X12_isRow {l : Launch} {D : va_G} {E : Nat → ClassId} (n : Nat) (a_t a_t_now a_t_read a_t_past a_t_images a_t_isKept a_t_text a_t_metAt a_t_memoryAt a_t_upAt a_t_downAt a_t_isSignal a_t_memories a_t_placeOf a_t_nextPlace a_t_kindOf a_t_newKind a_t_stateOfKind a_t_stateAt a_t_stepTo a_t_far a_t_ways a_t_nextWays a_t_table : Nat) (t_deeds : Int) (t_letters : Int) (t_at : Int) (t_tokenAt : Int) (t_tokenSort : Int) (t_tokenValue : Int) (t_items : Int) (t_isChanceTold : Int) (t_areSumsTold : Int) (t_places : Int) (t_kinds : Int) (t_states : Int) (t_now : Nat → Int) (x1 : Int) (res : Int) (hf : F_X12_isRow n t_now x1 = some res) : MR l yX12_isRow (.code yX12_isRow cX12_isRow 2 (some .boolean)) rm_X12_isRow D E [.ref a_t, .int (z4 x1)] [(a_t, .inr (12, [.ref a_t_now, .ref a_t_read, .ref a_t_past, .int (z4 t_deeds), .ref a_t_images, .ref a_t_isKept, .ref a_t_text, .int (z4 t_letters), .int (z4 t_at), .int (z4 t_tokenAt), .int (z4 t_tokenSort), .int (z4 t_tokenValue), .int (z4 t_items), .int (z4 t_isChanceTold), .int (z4 t_areSumsTold), .ref a_t_metAt, .ref a_t_memoryAt, .ref a_t_upAt, .ref a_t_downAt, .ref a_t_isSignal, .ref a_t_memories, .ref a_t_placeOf, .ref a_t_nextPlace, .int (z4 t_places), .ref a_t_kindOf, .ref a_t_newKind, .int (z4 t_kinds), .ref a_t_stateOfKind, .ref a_t_stateAt, .ref a_t_stepTo, .int (z4 t_states), .ref a_t_far, .ref a_t_ways, .ref a_t_nextWays, .ref a_t_table])), (a_t_now, .inl (E 0, 98, .inl (A4 t_now)))] (some (.int (z4 res))) := by
  refine MRz (by decide) (Nat.le_of_ble_eq_true rfl) ?_
  intro p e s m args below meth c Q X hK hP ret ls hl
  have hx := X.1
  have hb := X.2.1
  have hl : lv_has ls 2 [(0, .ref a_t), (1, .int (z4 x1))] := hl
  unfold F_X12_isRow at hf
  refine lv_iload_n hx hb dX12_isRow_0 rfl (lv_at hl 1 rfl) ?_
  refine m_iconst X dX12_isRow_1 ?_
  refine lv_aload_n hx hb dX12_isRow_2 rfl (lv_at hl 0 rfl) ?_
  refine m_get X hK hP cl_X12 iT_X12 0 (by decide) fl_X12_7 0 rfl rfl dX12_isRow_3 ?_
  refine m_bipush X dX12_isRow_6 (by decide) ?_
  refine m_iald X hK hP 1 rfl (by decide) (by decide) dX12_isRow_8 ?_
  refine m_iconst X dX12_isRow_9 ?_
  refine m_isub X dX12_isRow_10 ?_
  obtain ⟨o1, ho, hf⟩ := bd_some hf
  refine m_cSR X hK (k_X12_in n x1 0 ((t_now 17) - 1) o1 ho) (hP.sub (ws' := []) [] rfl) lk_X12_87 co_X12_in dy_X12_in rfl rfl ⟨Nat.le_of_ble_eq_true rfl, Nat.le_of_ble_eq_true rfl⟩ hl.1 rfl (Nat.le_of_ble_eq_true rfl) dX12_isRow_11 (Nat.zero_le _) (Nat.zero_le _) ?_
  obtain ⟨h2, hf⟩ := ck_some hf
  obtain rfl := Option.some.inj hf
  exact ret _ _ h2 dX12_isRow_14
def F_X12_isSign (n : Nat)   (x0 : Int) : Option (Int) :=
  (F_X12_in n x0 0 4).bind fun o1 =>
  ck (o1 = 0 ∨ o1 = 1) <|
  some o1
def rm_X12_isSign : Room := { frames := 1, cells := 0, slots := 0, locals := 22 }
set_option maxHeartbeats 4000000 in
set_option maxRecDepth 100000 in
theorem k_X12_isSign {l : Launch} {D : va_G} {E : Nat → ClassId} (n : Nat) (x0 : Int) (res : Int) (hf : F_X12_isSign n x0 = some res) : MR l yX12_isSign (.code yX12_isSign cX12_isSign 1 (some .boolean)) rm_X12_isSign D E [.int (z4 x0)] [] (some (.int (z4 res))) := by
  refine MRz (by decide) (Nat.le_of_ble_eq_true rfl) ?_
  intro p e s m args below meth c Q X hK hP ret ls hl
  have hx := X.1
  have hb := X.2.1
  have hl : lv_has ls 1 [(0, .int (z4 x0))] := hl
  unfold F_X12_isSign at hf
  refine lv_iload_n hx hb dX12_isSign_0 rfl (lv_at hl 0 rfl) ?_
  refine m_iconst X dX12_isSign_1 ?_
  refine m_iconst X dX12_isSign_2 ?_
  obtain ⟨o1, ho, hf⟩ := bd_some hf
  refine m_cSR X hK (k_X12_in n x0 0 4 o1 ho) (hP.sub (ws' := []) [] rfl) lk_X12_87 co_X12_in dy_X12_in rfl rfl ⟨Nat.le_of_ble_eq_true rfl, Nat.le_of_ble_eq_true rfl⟩ hl.1 rfl (Nat.le_of_ble_eq_true rfl) dX12_isSign_3 (Nat.zero_le _) (Nat.zero_le _) ?_
  obtain ⟨h2, hf⟩ := ck_some hf
  obtain rfl := Option.some.inj hf
  exact ret _ _ h2 dX12_isSign_6
def F_X12_comes_L24 (n : Nat) (t_now : Nat → Int) (x1 : Int) (v24_3 : Int) (v24_4 : Int) : Option ((Int × Int) ⊕ ((Int) ⊕ (Unit))) :=
  ck (r4 v24_4 ∧ r4 (t_now 17)) <|
  if v24_4 < t_now 17 then
    ck (ix_ (18 + v24_4) 98) <|
    ck (r4 (t_now (18 + v24_4).toNat) ∧ r4 x1) <|
    if t_now (18 + v24_4).toNat = x1 then
      some (.inr (.inr ()))
    else
      ck (ix_ (18 + v24_4) 98) <|
      Option.bind (α := Int) (
        ck (r4 (t_now (18 + v24_4).toNat) ∧ r4 x1) <|
        if t_now (18 + v24_4).toNat < x1 then
          some 1
        else
          some 0) fun o10 =>
      some (.inl (v24_3 + o10, v24_4 + 1))
  else
    some (.inr (.inl v24_3))
def F_X12_comes_L109 (n : Nat) (o5_0 : Int) (v109_4 : Int) (t_now_l109 : Nat → Int) : Option ((Int × (Nat → Int)) ⊕ ((Nat → Int))) :=
  ck (r4 v109_4 ∧ r4 o5_0) <|
  if o5_0 < v109_4 then
    ck (ix_ ((18 + v109_4) - 1) 98) <|
    ck (ix_ (18 + v109_4) 98) <|
    ck (ix_ ((58 + v109_4) - 1) 98) <|
    ck (ix_ (58 + v109_4) 98) <|
    some (.inl (v109_4 + (-1), up_ (up_ t_now_l109 (18 + v109_4).toNat (t_now_l109 ((18 + v109_4) - 1).toNat)) (58 + v109_4).toNat ((up_ t_now_l109 (18 + v109_4).toNat (t_now_l109 ((18 + v109_4) - 1).toNat)) ((58 + v109_4) - 1).toNat)))
  else
    some (.inr t_now_l109)
def F_X12_comes (n : Nat)  (t_deeds : Int) (t_now : Nat → Int) (t_past : Nat → Int) (x1 : Int) (x2 : Int) : Option (Int × Int × (Nat → Int) × (Nat → Int)) :=
  (F_X12_in n x1 0 99).bind fun o1 =>
  ck (r4 o1) <|
  if o1 = 0 then
    some ((-1), t_deeds, t_now, t_past)
  else
    (F_X12_isSign n x2).bind fun o3 =>
    ck (r4 o3) <|
    if o3 = 0 then
      some ((-1), t_deeds, t_now, t_past)
    else
      (lp_ (fun (q : Int × Int) => F_X12_comes_L24 n t_now x1 q.1 q.2) n (0, 0)).bind fun o5 => match o5 with
      | .inl o5_0 =>
        ck (r4 (t_now 17)) <|
        if t_now 17 = 40 then
          some ((-3), t_deeds, t_now, t_past)
        else
          (F_X12_note n t_deeds t_past t_now).bind fun o13 =>
          (lp_ (fun (q : Int × (Nat → Int)) => F_X12_comes_L109 n o5_0 q.1 q.2) n (t_now 17, t_now)).bind fun o14 =>
          ck (ix_ (18 + o5_0) 98) <|
          ck (ix_ (58 + o5_0) 98) <|
          some (o5_0, o13.1, up_ (up_ (up_ o14 (18 + o5_0).toNat x1) (58 + o5_0).toNat x2) 17 (((up_ (up_ o14 (18 + o5_0).toNat x1) (58 + o5_0).toNat x2) 17) + 1), o13.2)
      | .inr o5_1 =>
        some ((-2), t_deeds, t_now, t_past)
def rm_X12_comes : Room := { frames := 2, cells := 0, slots := 0, locals := 45 }
set_option maxHeartbeats 4000000 in
set_option maxRecDepth 100000 in
theorem k_X12_comes {l : Launch} {D : va_G} {E : Nat → ClassId} (n : Nat) (a_t a_t_now a_t_read a_t_past a_t_images a_t_isKept a_t_text a_t_metAt a_t_memoryAt a_t_upAt a_t_downAt a_t_isSignal a_t_memories a_t_placeOf a_t_nextPlace a_t_kindOf a_t_newKind a_t_stateOfKind a_t_stateAt a_t_stepTo a_t_far a_t_ways a_t_nextWays a_t_table : Nat) (t_deeds : Int) (t_letters : Int) (t_at : Int) (t_tokenAt : Int) (t_tokenSort : Int) (t_tokenValue : Int) (t_items : Int) (t_isChanceTold : Int) (t_areSumsTold : Int) (t_places : Int) (t_kinds : Int) (t_states : Int) (t_now : Nat → Int) (t_past : Nat → Int) (x1 : Int) (x2 : Int) (res : Int × Int × (Nat → Int) × (Nat → Int)) (hf : F_X12_comes n t_deeds t_now t_past x1 x2 = some res) : MW l yX12_comes (.code yX12_comes cX12_comes 5 (some .int)) rm_X12_comes D E [.ref a_t, .int (z4 x1), .int (z4 x2)] [(a_t, .inr (12, [.ref a_t_now, .ref a_t_read, .ref a_t_past, .int (z4 t_deeds), .ref a_t_images, .ref a_t_isKept, .ref a_t_text, .int (z4 t_letters), .int (z4 t_at), .int (z4 t_tokenAt), .int (z4 t_tokenSort), .int (z4 t_tokenValue), .int (z4 t_items), .int (z4 t_isChanceTold), .int (z4 t_areSumsTold), .ref a_t_metAt, .ref a_t_memoryAt, .ref a_t_upAt, .ref a_t_downAt, .ref a_t_isSignal, .ref a_t_memories, .ref a_t_placeOf, .ref a_t_nextPlace, .int (z4 t_places), .ref a_t_kindOf, .ref a_t_newKind, .int (z4 t_kinds), .ref a_t_stateOfKind, .ref a_t_stateAt, .ref a_t_stepTo, .int (z4 t_states), .ref a_t_far, .ref a_t_ways, .ref a_t_nextWays, .ref a_t_table])), (a_t_now, .inl (E 0, 98, .inl (A4 t_now))), (a_t_past, .inl (E 0, 588, .inl (A4 t_past)))] (some (.int (z4 res.1))) [(a_t, .inr (12, [.ref a_t_now, .ref a_t_read, .ref a_t_past, .int (z4 res.2.1), .ref a_t_images, .ref a_t_isKept, .ref a_t_text, .int (z4 t_letters), .int (z4 t_at), .int (z4 t_tokenAt), .int (z4 t_tokenSort), .int (z4 t_tokenValue), .int (z4 t_items), .int (z4 t_isChanceTold), .int (z4 t_areSumsTold), .ref a_t_metAt, .ref a_t_memoryAt, .ref a_t_upAt, .ref a_t_downAt, .ref a_t_isSignal, .ref a_t_memories, .ref a_t_placeOf, .ref a_t_nextPlace, .int (z4 t_places), .ref a_t_kindOf, .ref a_t_newKind, .int (z4 t_kinds), .ref a_t_stateOfKind, .ref a_t_stateAt, .ref a_t_stepTo, .int (z4 t_states), .ref a_t_far, .ref a_t_ways, .ref a_t_nextWays, .ref a_t_table])), (a_t_now, .inl (E 0, 98, .inl (A4 res.2.2.1))), (a_t_past, .inl (E 0, 588, .inl (A4 res.2.2.2)))] := by
  refine MWi (by decide) (Nat.le_of_ble_eq_true rfl) ?_
  intro p e s m args below meth c A Q X hK hP hD hA ret ls hl
  have hS : va_S A s.heap s.heap [] := va_S.rf
  have hx := X.1
  have hb := X.2.1
  have hl : lv_has ls 5 [(0, .ref a_t), (1, .int (z4 x1)), (2, .int (z4 x2))] := hl
  unfold F_X12_comes at hf
  refine lv_iload_n hx hb dX12_comes_0 rfl (lv_at hl 1 rfl) ?_
  refine m_iconst X dX12_comes_1 ?_
  refine m_bipush X dX12_comes_2 (by decide) ?_
  obtain ⟨o1, ho, hf⟩ := bd_some hf
  refine m_cSR X hK (k_X12_in n x1 0 99 o1 ho) (hP.sub (ws' := []) [] rfl) lk_X12_87 co_X12_in dy_X12_in rfl rfl ⟨Nat.le_of_ble_eq_true rfl, Nat.le_of_ble_eq_true rfl⟩ hl.1 rfl (Nat.le_of_ble_eq_true rfl) dX12_comes_4 (Nat.zero_le _) (Nat.zero_le _) ?_
  obtain ⟨h2, hf⟩ := ck_some hf
  refine m_if_eq X h2 dX12_comes_7 (tgt := 17) (by decide) (fun (hc_ : o1 = 0) => ?_) (fun (hc_ : ¬ (o1 = 0)) => ?_)
  · rw [if_pos hc_] at hf
    refine m_iconst X dX12_comes_17 ?_
    obtain rfl := Option.some.inj hf
    exact ret _ _ _ _ hP hD hS dX12_comes_18
  · rw [if_neg hc_] at hf
    refine lv_iload_n hx hb dX12_comes_10 rfl (lv_at hl 2 rfl) ?_
    obtain ⟨o3, ho, hf⟩ := bd_some hf
    refine m_cSR X hK (k_X12_isSign n x2 o3 ho) (hP.sub (ws' := []) [] rfl) lk_X12_169 co_X12_isSign dy_X12_isSign rfl rfl ⟨Nat.le_of_ble_eq_true rfl, Nat.le_of_ble_eq_true rfl⟩ hl.1 rfl (Nat.le_of_ble_eq_true rfl) dX12_comes_11 (Nat.zero_le _) (Nat.zero_le _) ?_
    obtain ⟨h4, hf⟩ := ck_some hf
    refine m_if_ne X h4 dX12_comes_14 (tgt := 19) (by decide) (fun (hc_ : ¬ (o3 = 0)) => ?_) (fun (hc_ : o3 = 0) => ?_)
    · rw [if_neg hc_] at hf
      refine m_iconst X dX12_comes_19 ?_
      refine lv_istore_n (lv' := [(3, .int (z4 0)), (0, .ref a_t), (1, .int (z4 x1)), (2, .int (z4 x2))]) hx hb dX12_comes_20 rfl hl (by decide) rfl (fun ls hl => ?_)
      refine m_iconst X dX12_comes_21 ?_
      refine lv_istore (lv' := [(4, .int (z4 0)), (3, .int (z4 0)), (0, .ref a_t), (1, .int (z4 x1)), (2, .int (z4 x2))]) hx hb dX12_comes_22 hl (by decide) rfl (fun ls hl => ?_)
      obtain ⟨o5, hj5, hr5⟩ := bd_some hf
      have E5_0 : ∀ (o_ : Int), o5 = (.inl o_) → ∀ (H : Heap) (locs : List Loc) (ls : Array Slot), lv_has ls 5 [(0, .ref a_t), (1, .int (z4 x1)), (2, .int (z4 x2)), (3, .int (z4 o_))] → va_P D vwCl [(a_t, .inr (12, [.ref a_t_now, .ref a_t_read, .ref a_t_past, .int (z4 t_deeds), .ref a_t_images, .ref a_t_isKept, .ref a_t_text, .int (z4 t_letters), .int (z4 t_at), .int (z4 t_tokenAt), .int (z4 t_tokenSort), .int (z4 t_tokenValue), .int (z4 t_items), .int (z4 t_isChanceTold), .int (z4 t_areSumsTold), .ref a_t_metAt, .ref a_t_memoryAt, .ref a_t_upAt, .ref a_t_downAt, .ref a_t_isSignal, .ref a_t_memories, .ref a_t_placeOf, .ref a_t_nextPlace, .int (z4 t_places), .ref a_t_kindOf, .ref a_t_newKind, .int (z4 t_kinds), .ref a_t_stateOfKind, .ref a_t_stateAt, .ref a_t_stepTo, .int (z4 t_states), .ref a_t_far, .ref a_t_ways, .ref a_t_nextWays, .ref a_t_table])), (a_t_now, .inl (E 0, 98, .inl (A4 t_now))), (a_t_past, .inl (E 0, 588, .inl (A4 t_past)))] H → va_D A [(a_t, .inr (12, [.ref a_t_now, .ref a_t_read, .ref a_t_past, .int (z4 t_deeds), .ref a_t_images, .ref a_t_isKept, .ref a_t_text, .int (z4 t_letters), .int (z4 t_at), .int (z4 t_tokenAt), .int (z4 t_tokenSort), .int (z4 t_tokenValue), .int (z4 t_items), .int (z4 t_isChanceTold), .int (z4 t_areSumsTold), .ref a_t_metAt, .ref a_t_memoryAt, .ref a_t_upAt, .ref a_t_downAt, .ref a_t_isSignal, .ref a_t_memories, .ref a_t_placeOf, .ref a_t_nextPlace, .int (z4 t_places), .ref a_t_kindOf, .ref a_t_newKind, .int (z4 t_kinds), .ref a_t_stateOfKind, .ref a_t_stateAt, .ref a_t_stepTo, .int (z4 t_states), .ref a_t_far, .ref a_t_ways, .ref a_t_nextWays, .ref a_t_table])), (a_t_now, .inl (E 0, 98, .inl (A4 t_now))), (a_t_past, .inl (E 0, 588, .inl (A4 t_past)))] → va_S A s.heap H locs → W p l e rm_X12_comes s m args below meth c H locs 0 0 Q (F0 m 81 ls []) := by
        intro o5_0 ho_ H locs ls hl hP hD hS
        subst ho_
        refine lv_aload_n hx hb dX12_comes_81 rfl (lv_at hl 0 rfl) ?_
        refine m_get X hK hP cl_X12 iT_X12 0 (by decide) fl_X12_7 0 rfl rfl dX12_comes_82 ?_
        refine m_bipush X dX12_comes_85 (by decide) ?_
        refine m_iald X hK hP 1 rfl (by decide) (by decide) dX12_comes_87 ?_
        refine m_bipush X dX12_comes_88 (by decide) ?_
        obtain ⟨h12, hr5⟩ := ck_some hr5
        refine m_icmp_ne X ⟨h12, ⟨by decide, by decide⟩⟩ dX12_comes_90 (tgt := 96) (by decide) (fun (hc_ : ¬ (t_now 17 = 40)) => ?_) (fun (hc_ : t_now 17 = 40) => ?_)
        · rw [if_neg hc_] at hr5
          refine lv_aload_n hx hb dX12_comes_96 rfl (lv_at hl 0 rfl) ?_
          obtain ⟨o13, ho, hr5⟩ := bd_some hr5
          refine m_cVW X hK hP hD hS hA (wr := []) (k_X12_note n a_t a_t_now a_t_read a_t_past a_t_images a_t_isKept a_t_text a_t_metAt a_t_memoryAt a_t_upAt a_t_downAt a_t_isSignal a_t_memories a_t_placeOf a_t_nextPlace a_t_kindOf a_t_newKind a_t_stateOfKind a_t_stateAt a_t_stepTo a_t_far a_t_ways a_t_nextWays a_t_table t_deeds t_letters t_at t_tokenAt t_tokenSort t_tokenValue t_items t_isChanceTold t_areSumsTold t_places t_kinds t_states t_past t_now o13 ho) [0, 2, 1] [] [0, 2, 1] [(a_t, .inr (12, [.ref a_t_now, .ref a_t_read, .ref a_t_past, .int (z4 o13.1), .ref a_t_images, .ref a_t_isKept, .ref a_t_text, .int (z4 t_letters), .int (z4 t_at), .int (z4 t_tokenAt), .int (z4 t_tokenSort), .int (z4 t_tokenValue), .int (z4 t_items), .int (z4 t_isChanceTold), .int (z4 t_areSumsTold), .ref a_t_metAt, .ref a_t_memoryAt, .ref a_t_upAt, .ref a_t_downAt, .ref a_t_isSignal, .ref a_t_memories, .ref a_t_placeOf, .ref a_t_nextPlace, .int (z4 t_places), .ref a_t_kindOf, .ref a_t_newKind, .int (z4 t_kinds), .ref a_t_stateOfKind, .ref a_t_stateAt, .ref a_t_stepTo, .int (z4 t_states), .ref a_t_far, .ref a_t_ways, .ref a_t_nextWays, .ref a_t_table])), (a_t_now, .inl (E 0, 98, .inl (A4 t_now))), (a_t_past, .inl (E 0, 588, .inl (A4 o13.2)))] rfl rfl rfl rfl (by decide) rfl rfl rfl cl_X12 lk_X12_159 co_X12_note dy_X12_note rfl rfl ⟨Nat.le_of_ble_eq_true rfl, Nat.le_of_ble_eq_true rfl⟩ hl.1 rfl (Nat.le_of_ble_eq_true rfl) dX12_comes_97 (Nat.zero_le _) (Nat.zero_le _) (fun H locs hP hD hS => ?_)
          refine lv_aload_n hx hb dX12_comes_100 rfl (lv_at hl 0 rfl) ?_
          refine m_get X hK hP cl_X12 iT_X12 0 (by decide) fl_X12_7 0 rfl rfl dX12_comes_101 ?_
          refine m_bipush X dX12_comes_104 (by decide) ?_
          refine m_iald X hK hP 1 rfl (by decide) (by decide) dX12_comes_106 ?_
          refine lv_istore (lv' := [(4, .int (z4 (t_now 17))), (0, .ref a_t), (1, .int (z4 x1)), (2, .int (z4 x2)), (3, .int (z4 o5_0))]) hx hb dX12_comes_107 hl (by decide) rfl (fun ls hl => ?_)
          obtain ⟨o14, hj14, hr14⟩ := bd_some hr5
          have E14_0 : ∀ (o_ : (Nat → Int)), o14 = o_ → ∀ (H : Heap) (locs : List Loc) (ls : Array Slot), lv_has ls 5 [(0, .ref a_t), (1, .int (z4 x1)), (2, .int (z4 x2)), (3, .int (z4 o5_0))] → va_P D vwCl [(a_t, .inr (12, [.ref a_t_now, .ref a_t_read, .ref a_t_past, .int (z4 o13.1), .ref a_t_images, .ref a_t_isKept, .ref a_t_text, .int (z4 t_letters), .int (z4 t_at), .int (z4 t_tokenAt), .int (z4 t_tokenSort), .int (z4 t_tokenValue), .int (z4 t_items), .int (z4 t_isChanceTold), .int (z4 t_areSumsTold), .ref a_t_metAt, .ref a_t_memoryAt, .ref a_t_upAt, .ref a_t_downAt, .ref a_t_isSignal, .ref a_t_memories, .ref a_t_placeOf, .ref a_t_nextPlace, .int (z4 t_places), .ref a_t_kindOf, .ref a_t_newKind, .int (z4 t_kinds), .ref a_t_stateOfKind, .ref a_t_stateAt, .ref a_t_stepTo, .int (z4 t_states), .ref a_t_far, .ref a_t_ways, .ref a_t_nextWays, .ref a_t_table])), (a_t_now, .inl (E 0, 98, .inl (A4 o_))), (a_t_past, .inl (E 0, 588, .inl (A4 o13.2)))] H → va_D A [(a_t, .inr (12, [.ref a_t_now, .ref a_t_read, .ref a_t_past, .int (z4 o13.1), .ref a_t_images, .ref a_t_isKept, .ref a_t_text, .int (z4 t_letters), .int (z4 t_at), .int (z4 t_tokenAt), .int (z4 t_tokenSort), .int (z4 t_tokenValue), .int (z4 t_items), .int (z4 t_isChanceTold), .int (z4 t_areSumsTold), .ref a_t_metAt, .ref a_t_memoryAt, .ref a_t_upAt, .ref a_t_downAt, .ref a_t_isSignal, .ref a_t_memories, .ref a_t_placeOf, .ref a_t_nextPlace, .int (z4 t_places), .ref a_t_kindOf, .ref a_t_newKind, .int (z4 t_kinds), .ref a_t_stateOfKind, .ref a_t_stateAt, .ref a_t_stepTo, .int (z4 t_states), .ref a_t_far, .ref a_t_ways, .ref a_t_nextWays, .ref a_t_table])), (a_t_now, .inl (E 0, 98, .inl (A4 o_))), (a_t_past, .inl (E 0, 588, .inl (A4 o13.2)))] → va_S A s.heap H locs → W p l e rm_X12_comes s m args below meth c H locs 0 0 Q (F0 m 165 ls []) := by
            intro o_ ho_ H locs ls hl hP hD hS
            subst ho_
            refine lv_aload_n hx hb dX12_comes_165 rfl (lv_at hl 0 rfl) ?_
            refine m_get X hK hP cl_X12 iT_X12 0 (by decide) fl_X12_7 0 rfl rfl dX12_comes_166 ?_
            refine m_bipush X dX12_comes_169 (by decide) ?_
            refine lv_iload_n hx hb dX12_comes_171 rfl (lv_at hl 3 rfl) ?_
            refine m_iadd X dX12_comes_172 ?_
            refine lv_iload_n hx hb dX12_comes_173 rfl (lv_at hl 1 rfl) ?_
            obtain ⟨h20, hr14⟩ := ck_some hr14
            refine m_iast X hK hP hD hS 1 rfl (by decide) h20 [(a_t, .inr (12, [.ref a_t_now, .ref a_t_read, .ref a_t_past, .int (z4 o13.1), .ref a_t_images, .ref a_t_isKept, .ref a_t_text, .int (z4 t_letters), .int (z4 t_at), .int (z4 t_tokenAt), .int (z4 t_tokenSort), .int (z4 t_tokenValue), .int (z4 t_items), .int (z4 t_isChanceTold), .int (z4 t_areSumsTold), .ref a_t_metAt, .ref a_t_memoryAt, .ref a_t_upAt, .ref a_t_downAt, .ref a_t_isSignal, .ref a_t_memories, .ref a_t_placeOf, .ref a_t_nextPlace, .int (z4 t_places), .ref a_t_kindOf, .ref a_t_newKind, .int (z4 t_kinds), .ref a_t_stateOfKind, .ref a_t_stateAt, .ref a_t_stepTo, .int (z4 t_states), .ref a_t_far, .ref a_t_ways, .ref a_t_nextWays, .ref a_t_table])), (a_t_now, .inl (E 0, 98, .inl (A4 (up_ o14 (18 + o5_0).toNat x1)))), (a_t_past, .inl (E 0, 588, .inl (A4 o13.2)))] rfl dX12_comes_174 (fun H locs hP hD hS => ?_)
            refine lv_aload_n hx hb dX12_comes_175 rfl (lv_at hl 0 rfl) ?_
            refine m_get X hK hP cl_X12 iT_X12 0 (by decide) fl_X12_7 0 rfl rfl dX12_comes_176 ?_
            refine m_bipush X dX12_comes_179 (by decide) ?_
            refine lv_iload_n hx hb dX12_comes_181 rfl (lv_at hl 3 rfl) ?_
            refine m_iadd X dX12_comes_182 ?_
            refine lv_iload_n hx hb dX12_comes_183 rfl (lv_at hl 2 rfl) ?_
            obtain ⟨h21, hr14⟩ := ck_some hr14
            refine m_iast X hK hP hD hS 1 rfl (by decide) h21 [(a_t, .inr (12, [.ref a_t_now, .ref a_t_read, .ref a_t_past, .int (z4 o13.1), .ref a_t_images, .ref a_t_isKept, .ref a_t_text, .int (z4 t_letters), .int (z4 t_at), .int (z4 t_tokenAt), .int (z4 t_tokenSort), .int (z4 t_tokenValue), .int (z4 t_items), .int (z4 t_isChanceTold), .int (z4 t_areSumsTold), .ref a_t_metAt, .ref a_t_memoryAt, .ref a_t_upAt, .ref a_t_downAt, .ref a_t_isSignal, .ref a_t_memories, .ref a_t_placeOf, .ref a_t_nextPlace, .int (z4 t_places), .ref a_t_kindOf, .ref a_t_newKind, .int (z4 t_kinds), .ref a_t_stateOfKind, .ref a_t_stateAt, .ref a_t_stepTo, .int (z4 t_states), .ref a_t_far, .ref a_t_ways, .ref a_t_nextWays, .ref a_t_table])), (a_t_now, .inl (E 0, 98, .inl (A4 (up_ (up_ o14 (18 + o5_0).toNat x1) (58 + o5_0).toNat x2)))), (a_t_past, .inl (E 0, 588, .inl (A4 o13.2)))] rfl dX12_comes_184 (fun H locs hP hD hS => ?_)
            refine lv_aload_n hx hb dX12_comes_185 rfl (lv_at hl 0 rfl) ?_
            refine m_get X hK hP cl_X12 iT_X12 0 (by decide) fl_X12_7 0 rfl rfl dX12_comes_186 ?_
            refine m_bipush X dX12_comes_189 (by decide) ?_
            refine lv_dup2_11 hx hb dX12_comes_191 rfl rfl ?_
            refine m_iald X hK hP 1 rfl (by decide) (by decide) dX12_comes_192 ?_
            refine m_iconst X dX12_comes_193 ?_
            refine m_iadd X dX12_comes_194 ?_
            refine m_iast X hK hP hD hS 1 rfl (by decide) (by decide) [(a_t, .inr (12, [.ref a_t_now, .ref a_t_read, .ref a_t_past, .int (z4 o13.1), .ref a_t_images, .ref a_t_isKept, .ref a_t_text, .int (z4 t_letters), .int (z4 t_at), .int (z4 t_tokenAt), .int (z4 t_tokenSort), .int (z4 t_tokenValue), .int (z4 t_items), .int (z4 t_isChanceTold), .int (z4 t_areSumsTold), .ref a_t_metAt, .ref a_t_memoryAt, .ref a_t_upAt, .ref a_t_downAt, .ref a_t_isSignal, .ref a_t_memories, .ref a_t_placeOf, .ref a_t_nextPlace, .int (z4 t_places), .ref a_t_kindOf, .ref a_t_newKind, .int (z4 t_kinds), .ref a_t_stateOfKind, .ref a_t_stateAt, .ref a_t_stepTo, .int (z4 t_states), .ref a_t_far, .ref a_t_ways, .ref a_t_nextWays, .ref a_t_table])), (a_t_now, .inl (E 0, 98, .inl (A4 (up_ (up_ (up_ o14 (18 + o5_0).toNat x1) (58 + o5_0).toNat x2) 17 (((up_ (up_ o14 (18 + o5_0).toNat x1) (58 + o5_0).toNat x2) 17) + 1))))), (a_t_past, .inl (E 0, 588, .inl (A4 o13.2)))] rfl dX12_comes_195 (fun H locs hP hD hS => ?_)
            refine lv_iload_n hx hb dX12_comes_196 rfl (lv_at hl 3 rfl) ?_
            obtain rfl := Option.some.inj hr14
            exact ret _ _ _ _ hP hD hS dX12_comes_197
          have L14 : ∀ (k_ : Nat) (v109_4 : Int) (t_now_l109 : Nat → Int), ∀ (H : Heap) (locs : List Loc) (ls : Array Slot), lv_has ls 5 [(0, .ref a_t), (1, .int (z4 x1)), (2, .int (z4 x2)), (3, .int (z4 o5_0)), (4, .int (z4 v109_4))] → va_P D vwCl [(a_t, .inr (12, [.ref a_t_now, .ref a_t_read, .ref a_t_past, .int (z4 o13.1), .ref a_t_images, .ref a_t_isKept, .ref a_t_text, .int (z4 t_letters), .int (z4 t_at), .int (z4 t_tokenAt), .int (z4 t_tokenSort), .int (z4 t_tokenValue), .int (z4 t_items), .int (z4 t_isChanceTold), .int (z4 t_areSumsTold), .ref a_t_metAt, .ref a_t_memoryAt, .ref a_t_upAt, .ref a_t_downAt, .ref a_t_isSignal, .ref a_t_memories, .ref a_t_placeOf, .ref a_t_nextPlace, .int (z4 t_places), .ref a_t_kindOf, .ref a_t_newKind, .int (z4 t_kinds), .ref a_t_stateOfKind, .ref a_t_stateAt, .ref a_t_stepTo, .int (z4 t_states), .ref a_t_far, .ref a_t_ways, .ref a_t_nextWays, .ref a_t_table])), (a_t_now, .inl (E 0, 98, .inl (A4 t_now_l109))), (a_t_past, .inl (E 0, 588, .inl (A4 o13.2)))] H → va_D A [(a_t, .inr (12, [.ref a_t_now, .ref a_t_read, .ref a_t_past, .int (z4 o13.1), .ref a_t_images, .ref a_t_isKept, .ref a_t_text, .int (z4 t_letters), .int (z4 t_at), .int (z4 t_tokenAt), .int (z4 t_tokenSort), .int (z4 t_tokenValue), .int (z4 t_items), .int (z4 t_isChanceTold), .int (z4 t_areSumsTold), .ref a_t_metAt, .ref a_t_memoryAt, .ref a_t_upAt, .ref a_t_downAt, .ref a_t_isSignal, .ref a_t_memories, .ref a_t_placeOf, .ref a_t_nextPlace, .int (z4 t_places), .ref a_t_kindOf, .ref a_t_newKind, .int (z4 t_kinds), .ref a_t_stateOfKind, .ref a_t_stateAt, .ref a_t_stepTo, .int (z4 t_states), .ref a_t_far, .ref a_t_ways, .ref a_t_nextWays, .ref a_t_table])), (a_t_now, .inl (E 0, 98, .inl (A4 t_now_l109))), (a_t_past, .inl (E 0, 588, .inl (A4 o13.2)))] → va_S A s.heap H locs → lp_ (fun (q : Int × (Nat → Int)) => F_X12_comes_L109 n o5_0 q.1 q.2) k_ (v109_4, t_now_l109) = some o14 → W p l e rm_X12_comes s m args below meth c H locs 0 0 Q (F0 m 109 ls []) := by
            intro k_
            induction k_ with
            | zero =>
              intro v109_4 t_now_l109 H locs ls hl hP hD hS hq_; exact (lp_zero hq_).elim
            | succ k_ ih14 =>
              intro v109_4 t_now_l109 H locs ls hl hP hD hS hq_
              obtain ⟨t_14, hb14, hq14⟩ := lp_some hq_
              replace hb14 : F_X12_comes_L109 n o5_0 v109_4 t_now_l109 = some t_14 := hb14
              unfold F_X12_comes_L109 at hb14
              refine lv_iload hx hb dX12_comes_109 (lv_at hl 4 rfl) ?_
              refine lv_iload_n hx hb dX12_comes_111 rfl (lv_at hl 3 rfl) ?_
              obtain ⟨h15, hb14⟩ := ck_some hb14
              refine m_icmp_le X h15 dX12_comes_112 (tgt := 165) (by decide) (fun (hc_ : ¬ (o5_0 < v109_4)) => ?_) (fun (hc_ : o5_0 < v109_4) => ?_)
              · rw [if_neg hc_] at hb14
                obtain rfl := Option.some.inj hb14
                exact E14_0 _ (Option.some.inj hq14).symm _ _ _ (lv_sub hl [0, 1, 2, 3] rfl) hP hD hS
              · rw [if_pos hc_] at hb14
                refine lv_aload_n hx hb dX12_comes_115 rfl (lv_at hl 0 rfl) ?_
                refine m_get X hK hP cl_X12 iT_X12 0 (by decide) fl_X12_7 0 rfl rfl dX12_comes_116 ?_
                refine m_bipush X dX12_comes_119 (by decide) ?_
                refine lv_iload hx hb dX12_comes_121 (lv_at hl 4 rfl) ?_
                refine m_iadd X dX12_comes_123 ?_
                refine lv_aload_n hx hb dX12_comes_124 rfl (lv_at hl 0 rfl) ?_
                refine m_get X hK hP cl_X12 iT_X12 0 (by decide) fl_X12_7 0 rfl rfl dX12_comes_125 ?_
                refine m_bipush X dX12_comes_128 (by decide) ?_
                refine lv_iload hx hb dX12_comes_130 (lv_at hl 4 rfl) ?_
                refine m_iadd X dX12_comes_132 ?_
                refine m_iconst X dX12_comes_133 ?_
                refine m_isub X dX12_comes_134 ?_
                obtain ⟨h16, hb14⟩ := ck_some hb14
                refine m_iald X hK hP 1 rfl (by decide) h16 dX12_comes_135 ?_
                obtain ⟨h17, hb14⟩ := ck_some hb14
                refine m_iast X hK hP hD hS 1 rfl (by decide) h17 [(a_t, .inr (12, [.ref a_t_now, .ref a_t_read, .ref a_t_past, .int (z4 o13.1), .ref a_t_images, .ref a_t_isKept, .ref a_t_text, .int (z4 t_letters), .int (z4 t_at), .int (z4 t_tokenAt), .int (z4 t_tokenSort), .int (z4 t_tokenValue), .int (z4 t_items), .int (z4 t_isChanceTold), .int (z4 t_areSumsTold), .ref a_t_metAt, .ref a_t_memoryAt, .ref a_t_upAt, .ref a_t_downAt, .ref a_t_isSignal, .ref a_t_memories, .ref a_t_placeOf, .ref a_t_nextPlace, .int (z4 t_places), .ref a_t_kindOf, .ref a_t_newKind, .int (z4 t_kinds), .ref a_t_stateOfKind, .ref a_t_stateAt, .ref a_t_stepTo, .int (z4 t_states), .ref a_t_far, .ref a_t_ways, .ref a_t_nextWays, .ref a_t_table])), (a_t_now, .inl (E 0, 98, .inl (A4 (up_ t_now_l109 (18 + v109_4).toNat (t_now_l109 ((18 + v109_4) - 1).toNat))))), (a_t_past, .inl (E 0, 588, .inl (A4 o13.2)))] rfl dX12_comes_136 (fun H locs hP hD hS => ?_)
                refine lv_aload_n hx hb dX12_comes_137 rfl (lv_at hl 0 rfl) ?_
                refine m_get X hK hP cl_X12 iT_X12 0 (by decide) fl_X12_7 0 rfl rfl dX12_comes_138 ?_
                refine m_bipush X dX12_comes_141 (by decide) ?_
                refine lv_iload hx hb dX12_comes_143 (lv_at hl 4 rfl) ?_
                refine m_iadd X dX12_comes_145 ?_
                refine lv_aload_n hx hb dX12_comes_146 rfl (lv_at hl 0 rfl) ?_
                refine m_get X hK hP cl_X12 iT_X12 0 (by decide) fl_X12_7 0 rfl rfl dX12_comes_147 ?_
                refine m_bipush X dX12_comes_150 (by decide) ?_
                refine lv_iload hx hb dX12_comes_152 (lv_at hl 4 rfl) ?_
                refine m_iadd X dX12_comes_154 ?_
                refine m_iconst X dX12_comes_155 ?_
                refine m_isub X dX12_comes_156 ?_
                obtain ⟨h18, hb14⟩ := ck_some hb14
                refine m_iald X hK hP 1 rfl (by decide) h18 dX12_comes_157 ?_
                obtain ⟨h19, hb14⟩ := ck_some hb14
                refine m_iast X hK hP hD hS 1 rfl (by decide) h19 [(a_t, .inr (12, [.ref a_t_now, .ref a_t_read, .ref a_t_past, .int (z4 o13.1), .ref a_t_images, .ref a_t_isKept, .ref a_t_text, .int (z4 t_letters), .int (z4 t_at), .int (z4 t_tokenAt), .int (z4 t_tokenSort), .int (z4 t_tokenValue), .int (z4 t_items), .int (z4 t_isChanceTold), .int (z4 t_areSumsTold), .ref a_t_metAt, .ref a_t_memoryAt, .ref a_t_upAt, .ref a_t_downAt, .ref a_t_isSignal, .ref a_t_memories, .ref a_t_placeOf, .ref a_t_nextPlace, .int (z4 t_places), .ref a_t_kindOf, .ref a_t_newKind, .int (z4 t_kinds), .ref a_t_stateOfKind, .ref a_t_stateAt, .ref a_t_stepTo, .int (z4 t_states), .ref a_t_far, .ref a_t_ways, .ref a_t_nextWays, .ref a_t_table])), (a_t_now, .inl (E 0, 98, .inl (A4 (up_ (up_ t_now_l109 (18 + v109_4).toNat (t_now_l109 ((18 + v109_4) - 1).toNat)) (58 + v109_4).toNat ((up_ t_now_l109 (18 + v109_4).toNat (t_now_l109 ((18 + v109_4) - 1).toNat)) ((58 + v109_4) - 1).toNat))))), (a_t_past, .inl (E 0, 588, .inl (A4 o13.2)))] rfl dX12_comes_158 (fun H locs hP hD hS => ?_)
                refine m_iinc X 4 [(4, .int (z4 (v109_4 + (-1)))), (0, .ref a_t), (1, .int (z4 x1)), (2, .int (z4 x2)), (3, .int (z4 o5_0))] dX12_comes_159 hl rfl (by decide) rfl (fun ls hl => ?_)
                refine lv_goto (tgt := 109) hx hb dX12_comes_162 (by decide) ?_
                obtain rfl := Option.some.inj hb14
                exact ih14 _ _ _ _ _ (lv_sub hl [1, 2, 3, 4, 0] rfl) hP hD hS hq14
          exact L14 n _ _ _ _ _ (lv_sub hl [1, 2, 3, 4, 0] rfl) hP hD hS hj14
        · rw [if_pos hc_] at hr5
          refine m_bipush X dX12_comes_93 (by decide) ?_
          obtain rfl := Option.some.inj hr5
          exact ret _ _ _ _ hP hD hS dX12_comes_95
      have E5_1 : ∀ (o_ : Unit), o5 = (.inr o_) → ∀ (H : Heap) (locs : List Loc) (ls : Array Slot), lv_has ls 5 [] → va_P D vwCl [(a_t, .inr (12, [.ref a_t_now, .ref a_t_read, .ref a_t_past, .int (z4 t_deeds), .ref a_t_images, .ref a_t_isKept, .ref a_t_text, .int (z4 t_letters), .int (z4 t_at), .int (z4 t_tokenAt), .int (z4 t_tokenSort), .int (z4 t_tokenValue), .int (z4 t_items), .int (z4 t_isChanceTold), .int (z4 t_areSumsTold), .ref a_t_metAt, .ref a_t_memoryAt, .ref a_t_upAt, .ref a_t_downAt, .ref a_t_isSignal, .ref a_t_memories, .ref a_t_placeOf, .ref a_t_nextPlace, .int (z4 t_places), .ref a_t_kindOf, .ref a_t_newKind, .int (z4 t_kinds), .ref a_t_stateOfKind, .ref a_t_stateAt, .ref a_t_stepTo, .int (z4 t_states), .ref a_t_far, .ref a_t_ways, .ref a_t_nextWays, .ref a_t_table])), (a_t_now, .inl (E 0, 98, .inl (A4 t_now))), (a_t_past, .inl (E 0, 588, .inl (A4 t_past)))] H → va_D A [(a_t, .inr (12, [.ref a_t_now, .ref a_t_read, .ref a_t_past, .int (z4 t_deeds), .ref a_t_images, .ref a_t_isKept, .ref a_t_text, .int (z4 t_letters), .int (z4 t_at), .int (z4 t_tokenAt), .int (z4 t_tokenSort), .int (z4 t_tokenValue), .int (z4 t_items), .int (z4 t_isChanceTold), .int (z4 t_areSumsTold), .ref a_t_metAt, .ref a_t_memoryAt, .ref a_t_upAt, .ref a_t_downAt, .ref a_t_isSignal, .ref a_t_memories, .ref a_t_placeOf, .ref a_t_nextPlace, .int (z4 t_places), .ref a_t_kindOf, .ref a_t_newKind, .int (z4 t_kinds), .ref a_t_stateOfKind, .ref a_t_stateAt, .ref a_t_stepTo, .int (z4 t_states), .ref a_t_far, .ref a_t_ways, .ref a_t_nextWays, .ref a_t_table])), (a_t_now, .inl (E 0, 98, .inl (A4 t_now))), (a_t_past, .inl (E 0, 588, .inl (A4 t_past)))] → va_S A s.heap H locs → W p l e rm_X12_comes s m args below meth c H locs 0 0 Q (F0 m 50 ls []) := by
        intro o5_1 ho_ H locs ls hl hP hD hS
        subst ho_
        refine m_bipush X dX12_comes_50 (by decide) ?_
        obtain rfl := Option.some.inj hr5
        exact ret _ _ _ _ hP hD hS dX12_comes_52
      have L5 : ∀ (k_ : Nat) (v24_3 : Int) (v24_4 : Int), ∀ (H : Heap) (locs : List Loc) (ls : Array Slot), lv_has ls 5 [(0, .ref a_t), (1, .int (z4 x1)), (2, .int (z4 x2)), (3, .int (z4 v24_3)), (4, .int (z4 v24_4))] → va_P D vwCl [(a_t, .inr (12, [.ref a_t_now, .ref a_t_read, .ref a_t_past, .int (z4 t_deeds), .ref a_t_images, .ref a_t_isKept, .ref a_t_text, .int (z4 t_letters), .int (z4 t_at), .int (z4 t_tokenAt), .int (z4 t_tokenSort), .int (z4 t_tokenValue), .int (z4 t_items), .int (z4 t_isChanceTold), .int (z4 t_areSumsTold), .ref a_t_metAt, .ref a_t_memoryAt, .ref a_t_upAt, .ref a_t_downAt, .ref a_t_isSignal, .ref a_t_memories, .ref a_t_placeOf, .ref a_t_nextPlace, .int (z4 t_places), .ref a_t_kindOf, .ref a_t_newKind, .int (z4 t_kinds), .ref a_t_stateOfKind, .ref a_t_stateAt, .ref a_t_stepTo, .int (z4 t_states), .ref a_t_far, .ref a_t_ways, .ref a_t_nextWays, .ref a_t_table])), (a_t_now, .inl (E 0, 98, .inl (A4 t_now))), (a_t_past, .inl (E 0, 588, .inl (A4 t_past)))] H → va_D A [(a_t, .inr (12, [.ref a_t_now, .ref a_t_read, .ref a_t_past, .int (z4 t_deeds), .ref a_t_images, .ref a_t_isKept, .ref a_t_text, .int (z4 t_letters), .int (z4 t_at), .int (z4 t_tokenAt), .int (z4 t_tokenSort), .int (z4 t_tokenValue), .int (z4 t_items), .int (z4 t_isChanceTold), .int (z4 t_areSumsTold), .ref a_t_metAt, .ref a_t_memoryAt, .ref a_t_upAt, .ref a_t_downAt, .ref a_t_isSignal, .ref a_t_memories, .ref a_t_placeOf, .ref a_t_nextPlace, .int (z4 t_places), .ref a_t_kindOf, .ref a_t_newKind, .int (z4 t_kinds), .ref a_t_stateOfKind, .ref a_t_stateAt, .ref a_t_stepTo, .int (z4 t_states), .ref a_t_far, .ref a_t_ways, .ref a_t_nextWays, .ref a_t_table])), (a_t_now, .inl (E 0, 98, .inl (A4 t_now))), (a_t_past, .inl (E 0, 588, .inl (A4 t_past)))] → va_S A s.heap H locs → lp_ (fun (q : Int × Int) => F_X12_comes_L24 n t_now x1 q.1 q.2) k_ (v24_3, v24_4) = some o5 → W p l e rm_X12_comes s m args below meth c H locs 0 0 Q (F0 m 24 ls []) := by
        intro k_
        induction k_ with
        | zero =>
          intro v24_3 v24_4 H locs ls hl hP hD hS hq_; exact (lp_zero hq_).elim
        | succ k_ ih5 =>
          intro v24_3 v24_4 H locs ls hl hP hD hS hq_
          obtain ⟨t_5, hb5, hq5⟩ := lp_some hq_
          replace hb5 : F_X12_comes_L24 n t_now x1 v24_3 v24_4 = some t_5 := hb5
          unfold F_X12_comes_L24 at hb5
          refine lv_iload hx hb dX12_comes_24 (lv_at hl 4 rfl) ?_
          refine lv_aload_n hx hb dX12_comes_26 rfl (lv_at hl 0 rfl) ?_
          refine m_get X hK hP cl_X12 iT_X12 0 (by decide) fl_X12_7 0 rfl rfl dX12_comes_27 ?_
          refine m_bipush X dX12_comes_30 (by decide) ?_
          refine m_iald X hK hP 1 rfl (by decide) (by decide) dX12_comes_32 ?_
          obtain ⟨h6, hb5⟩ := ck_some hb5
          refine m_icmp_ge X h6 dX12_comes_33 (tgt := 81) (by decide) (fun (hc_ : ¬ (v24_4 < t_now 17)) => ?_) (fun (hc_ : v24_4 < t_now 17) => ?_)
          · rw [if_neg hc_] at hb5
            obtain rfl := Option.some.inj hb5
            exact E5_0 _ (Option.some.inj hq5).symm _ _ _ (lv_sub hl [0, 1, 2, 3] rfl) hP hD hS
          · rw [if_pos hc_] at hb5
            refine lv_aload_n hx hb dX12_comes_36 rfl (lv_at hl 0 rfl) ?_
            refine m_get X hK hP cl_X12 iT_X12 0 (by decide) fl_X12_7 0 rfl rfl dX12_comes_37 ?_
            refine m_bipush X dX12_comes_40 (by decide) ?_
            refine lv_iload hx hb dX12_comes_42 (lv_at hl 4 rfl) ?_
            refine m_iadd X dX12_comes_44 ?_
            obtain ⟨h7, hb5⟩ := ck_some hb5
            refine m_iald X hK hP 1 rfl (by decide) h7 dX12_comes_45 ?_
            refine lv_iload_n hx hb dX12_comes_46 rfl (lv_at hl 1 rfl) ?_
            obtain ⟨h8, hb5⟩ := ck_some hb5
            refine m_icmp_ne X h8 dX12_comes_47 (tgt := 53) (by decide) (fun (hc_ : ¬ (t_now (18 + v24_4).toNat = x1)) => ?_) (fun (hc_ : t_now (18 + v24_4).toNat = x1) => ?_)
            · rw [if_neg hc_] at hb5
              refine lv_iload_n hx hb dX12_comes_53 rfl (lv_at hl 3 rfl) ?_
              refine lv_aload_n hx hb dX12_comes_54 rfl (lv_at hl 0 rfl) ?_
              refine m_get X hK hP cl_X12 iT_X12 0 (by decide) fl_X12_7 0 rfl rfl dX12_comes_55 ?_
              refine m_bipush X dX12_comes_58 (by decide) ?_
              refine lv_iload hx hb dX12_comes_60 (lv_at hl 4 rfl) ?_
              refine m_iadd X dX12_comes_62 ?_
              obtain ⟨h9, hb5⟩ := ck_some hb5
              refine m_iald X hK hP 1 rfl (by decide) h9 dX12_comes_63 ?_
              refine lv_iload_n hx hb dX12_comes_64 rfl (lv_at hl 1 rfl) ?_
              obtain ⟨o10, hj10, hr10⟩ := bd_some hb5
              have J10 : ∀ (o_ : Int), o10 = o_ → ∀ (H : Heap) (locs : List Loc) (ls : Array Slot), lv_has ls 5 [(0, .ref a_t), (1, .int (z4 x1)), (2, .int (z4 x2)), (4, .int (z4 v24_4))] → va_P D vwCl [(a_t, .inr (12, [.ref a_t_now, .ref a_t_read, .ref a_t_past, .int (z4 t_deeds), .ref a_t_images, .ref a_t_isKept, .ref a_t_text, .int (z4 t_letters), .int (z4 t_at), .int (z4 t_tokenAt), .int (z4 t_tokenSort), .int (z4 t_tokenValue), .int (z4 t_items), .int (z4 t_isChanceTold), .int (z4 t_areSumsTold), .ref a_t_metAt, .ref a_t_memoryAt, .ref a_t_upAt, .ref a_t_downAt, .ref a_t_isSignal, .ref a_t_memories, .ref a_t_placeOf, .ref a_t_nextPlace, .int (z4 t_places), .ref a_t_kindOf, .ref a_t_newKind, .int (z4 t_kinds), .ref a_t_stateOfKind, .ref a_t_stateAt, .ref a_t_stepTo, .int (z4 t_states), .ref a_t_far, .ref a_t_ways, .ref a_t_nextWays, .ref a_t_table])), (a_t_now, .inl (E 0, 98, .inl (A4 t_now))), (a_t_past, .inl (E 0, 588, .inl (A4 t_past)))] H → va_D A [(a_t, .inr (12, [.ref a_t_now, .ref a_t_read, .ref a_t_past, .int (z4 t_deeds), .ref a_t_images, .ref a_t_isKept, .ref a_t_text, .int (z4 t_letters), .int (z4 t_at), .int (z4 t_tokenAt), .int (z4 t_tokenSort), .int (z4 t_tokenValue), .int (z4 t_items), .int (z4 t_isChanceTold), .int (z4 t_areSumsTold), .ref a_t_metAt, .ref a_t_memoryAt, .ref a_t_upAt, .ref a_t_downAt, .ref a_t_isSignal, .ref a_t_memories, .ref a_t_placeOf, .ref a_t_nextPlace, .int (z4 t_places), .ref a_t_kindOf, .ref a_t_newKind, .int (z4 t_kinds), .ref a_t_stateOfKind, .ref a_t_stateAt, .ref a_t_stepTo, .int (z4 t_states), .ref a_t_far, .ref a_t_ways, .ref a_t_nextWays, .ref a_t_table])), (a_t_now, .inl (E 0, 98, .inl (A4 t_now))), (a_t_past, .inl (E 0, 588, .inl (A4 t_past)))] → va_S A s.heap H locs → W p l e rm_X12_comes s m args below meth c H locs 0 0 Q (F0 m 73 ls [.int (z4 o_), .int (z4 v24_3)]) := by
                intro o_ ho_ H locs ls hl hP hD hS
                subst ho_
                refine m_iadd X dX12_comes_73 ?_
                refine lv_istore_n (lv' := [(3, .int (z4 (v24_3 + o10))), (0, .ref a_t), (1, .int (z4 x1)), (2, .int (z4 x2)), (4, .int (z4 v24_4))]) hx hb dX12_comes_74 rfl hl (by decide) rfl (fun ls hl => ?_)
                refine m_iinc X 4 [(4, .int (z4 (v24_4 + 1))), (3, .int (z4 (v24_3 + o10))), (0, .ref a_t), (1, .int (z4 x1)), (2, .int (z4 x2))] dX12_comes_75 hl rfl (by decide) rfl (fun ls hl => ?_)
                refine lv_goto (tgt := 24) hx hb dX12_comes_78 (by decide) ?_
                obtain rfl := Option.some.inj hr10
                exact ih5 _ _ _ _ _ (lv_sub hl [2, 3, 4, 1, 0] rfl) hP hD hS hq5
              obtain ⟨h11, hj10⟩ := ck_some hj10
              refine m_icmp_ge X h11 dX12_comes_65 (tgt := 72) (by decide) (fun (hc_ : ¬ (t_now (18 + v24_4).toNat < x1)) => ?_) (fun (hc_ : t_now (18 + v24_4).toNat < x1) => ?_)
              · rw [if_neg hc_] at hj10
                refine m_iconst X dX12_comes_72 ?_
                exact J10 _ (Option.some.inj hj10).symm _ _ _ (lv_sub hl [0, 1, 2, 4] rfl) hP hD hS
              · rw [if_pos hc_] at hj10
                refine m_iconst X dX12_comes_68 ?_
                refine lv_goto (tgt := 73) hx hb dX12_comes_69 (by decide) ?_
                exact J10 _ (Option.some.inj hj10).symm _ _ _ (lv_sub hl [0, 1, 2, 4] rfl) hP hD hS
            · rw [if_pos hc_] at hb5
              obtain rfl := Option.some.inj hb5
              exact E5_1 _ (Option.some.inj hq5).symm _ _ _ (lv_sub hl [] rfl) hP hD hS
      exact L5 n _ _ _ _ _ (lv_sub hl [2, 3, 4, 1, 0] rfl) hP hD hS hj5
    · rw [if_pos hc_] at hf
      refine m_iconst X dX12_comes_17 ?_
      obtain rfl := Option.some.inj hf
      exact ret _ _ _ _ hP hD hS dX12_comes_18
def F_X12_goes_L37 (n : Nat) (v37_3 : Int) (t_now_l37 : Nat → Int) : Option ((Int × (Nat → Int)) ⊕ ((Nat → Int))) :=
  ck (r4 v37_3 ∧ r4 (t_now_l37 17)) <|
  if v37_3 < t_now_l37 17 then
    ck (ix_ ((18 + v37_3) + 1) 98) <|
    ck (ix_ (18 + v37_3) 98) <|
    ck (ix_ ((58 + v37_3) + 1) 98) <|
    ck (ix_ (58 + v37_3) 98) <|
    some (.inl (v37_3 + 1, up_ (up_ t_now_l37 (18 + v37_3).toNat (t_now_l37 ((18 + v37_3) + 1).toNat)) (58 + v37_3).toNat ((up_ t_now_l37 (18 + v37_3).toNat (t_now_l37 ((18 + v37_3) + 1).toNat)) ((58 + v37_3) + 1).toNat)))
  else
    some (.inr t_now_l37)
def F_X12_goes (n : Nat)  (t_deeds : Int) (t_now : Nat → Int) (t_past : Nat → Int) (x1 : Int) : Option (Int × Int × (Nat → Int) × (Nat → Int)) :=
  (F_X12_isRow n t_now x1).bind fun o1 =>
  ck (r4 o1) <|
  if o1 = 0 then
    some ((-1), t_deeds, t_now, t_past)
  else
    (F_X12_note n t_deeds t_past t_now).bind fun o3 =>
    ck (ix_ (18 + x1) 98) <|
    (lp_ (fun (q : Int × (Nat → Int)) => F_X12_goes_L37 n q.1 q.2) n (x1, up_ t_now 17 ((t_now 17) - 1))).bind fun o5 =>
    some (t_now (18 + x1).toNat, o3.1, o5, o3.2)
def rm_X12_goes : Room := { frames := 2, cells := 0, slots := 0, locals := 45 }
set_option maxHeartbeats 4000000 in
set_option maxRecDepth 100000 in
theorem k_X12_goes {l : Launch} {D : va_G} {E : Nat → ClassId} (n : Nat) (a_t a_t_now a_t_read a_t_past a_t_images a_t_isKept a_t_text a_t_metAt a_t_memoryAt a_t_upAt a_t_downAt a_t_isSignal a_t_memories a_t_placeOf a_t_nextPlace a_t_kindOf a_t_newKind a_t_stateOfKind a_t_stateAt a_t_stepTo a_t_far a_t_ways a_t_nextWays a_t_table : Nat) (t_deeds : Int) (t_letters : Int) (t_at : Int) (t_tokenAt : Int) (t_tokenSort : Int) (t_tokenValue : Int) (t_items : Int) (t_isChanceTold : Int) (t_areSumsTold : Int) (t_places : Int) (t_kinds : Int) (t_states : Int) (t_now : Nat → Int) (t_past : Nat → Int) (x1 : Int) (res : Int × Int × (Nat → Int) × (Nat → Int)) (hf : F_X12_goes n t_deeds t_now t_past x1 = some res) : MW l yX12_goes (.code yX12_goes cX12_goes 4 (some .int)) rm_X12_goes D E [.ref a_t, .int (z4 x1)] [(a_t, .inr (12, [.ref a_t_now, .ref a_t_read, .ref a_t_past, .int (z4 t_deeds), .ref a_t_images, .ref a_t_isKept, .ref a_t_text, .int (z4 t_letters), .int (z4 t_at), .int (z4 t_tokenAt), .int (z4 t_tokenSort), .int (z4 t_tokenValue), .int (z4 t_items), .int (z4 t_isChanceTold), .int (z4 t_areSumsTold), .ref a_t_metAt, .ref a_t_memoryAt, .ref a_t_upAt, .ref a_t_downAt, .ref a_t_isSignal, .ref a_t_memories, .ref a_t_placeOf, .ref a_t_nextPlace, .int (z4 t_places), .ref a_t_kindOf, .ref a_t_newKind, .int (z4 t_kinds), .ref a_t_stateOfKind, .ref a_t_stateAt, .ref a_t_stepTo, .int (z4 t_states), .ref a_t_far, .ref a_t_ways, .ref a_t_nextWays, .ref a_t_table])), (a_t_now, .inl (E 0, 98, .inl (A4 t_now))), (a_t_past, .inl (E 0, 588, .inl (A4 t_past)))] (some (.int (z4 res.1))) [(a_t, .inr (12, [.ref a_t_now, .ref a_t_read, .ref a_t_past, .int (z4 res.2.1), .ref a_t_images, .ref a_t_isKept, .ref a_t_text, .int (z4 t_letters), .int (z4 t_at), .int (z4 t_tokenAt), .int (z4 t_tokenSort), .int (z4 t_tokenValue), .int (z4 t_items), .int (z4 t_isChanceTold), .int (z4 t_areSumsTold), .ref a_t_metAt, .ref a_t_memoryAt, .ref a_t_upAt, .ref a_t_downAt, .ref a_t_isSignal, .ref a_t_memories, .ref a_t_placeOf, .ref a_t_nextPlace, .int (z4 t_places), .ref a_t_kindOf, .ref a_t_newKind, .int (z4 t_kinds), .ref a_t_stateOfKind, .ref a_t_stateAt, .ref a_t_stepTo, .int (z4 t_states), .ref a_t_far, .ref a_t_ways, .ref a_t_nextWays, .ref a_t_table])), (a_t_now, .inl (E 0, 98, .inl (A4 res.2.2.1))), (a_t_past, .inl (E 0, 588, .inl (A4 res.2.2.2)))] := by
  refine MWi (by decide) (Nat.le_of_ble_eq_true rfl) ?_
  intro p e s m args below meth c A Q X hK hP hD hA ret ls hl
  have hS : va_S A s.heap s.heap [] := va_S.rf
  have hx := X.1
  have hb := X.2.1
  have hl : lv_has ls 4 [(0, .ref a_t), (1, .int (z4 x1))] := hl
  unfold F_X12_goes at hf
  refine lv_aload_n hx hb dX12_goes_0 rfl (lv_at hl 0 rfl) ?_
  refine lv_iload_n hx hb dX12_goes_1 rfl (lv_at hl 1 rfl) ?_
  obtain ⟨o1, ho, hf⟩ := bd_some hf
  refine m_cVR X hK (k_X12_isRow n a_t a_t_now a_t_read a_t_past a_t_images a_t_isKept a_t_text a_t_metAt a_t_memoryAt a_t_upAt a_t_downAt a_t_isSignal a_t_memories a_t_placeOf a_t_nextPlace a_t_kindOf a_t_newKind a_t_stateOfKind a_t_stateAt a_t_stepTo a_t_far a_t_ways a_t_nextWays a_t_table t_deeds t_letters t_at t_tokenAt t_tokenSort t_tokenValue t_items t_isChanceTold t_areSumsTold t_places t_kinds t_states t_now x1 o1 ho) (hP.sub [0, 1] rfl) rfl cl_X12 lk_X12_172 co_X12_isRow dy_X12_isRow rfl rfl ⟨Nat.le_of_ble_eq_true rfl, Nat.le_of_ble_eq_true rfl⟩ hl.1 rfl (Nat.le_of_ble_eq_true rfl) dX12_goes_2 (Nat.zero_le _) (Nat.zero_le _) ?_
  obtain ⟨h2, hf⟩ := ck_some hf
  refine m_if_ne X h2 dX12_goes_5 (tgt := 10) (by decide) (fun (hc_ : ¬ (o1 = 0)) => ?_) (fun (hc_ : o1 = 0) => ?_)
  · rw [if_neg hc_] at hf
    refine lv_aload_n hx hb dX12_goes_10 rfl (lv_at hl 0 rfl) ?_
    obtain ⟨o3, ho, hf⟩ := bd_some hf
    refine m_cVW X hK hP hD hS hA (wr := []) (k_X12_note n a_t a_t_now a_t_read a_t_past a_t_images a_t_isKept a_t_text a_t_metAt a_t_memoryAt a_t_upAt a_t_downAt a_t_isSignal a_t_memories a_t_placeOf a_t_nextPlace a_t_kindOf a_t_newKind a_t_stateOfKind a_t_stateAt a_t_stepTo a_t_far a_t_ways a_t_nextWays a_t_table t_deeds t_letters t_at t_tokenAt t_tokenSort t_tokenValue t_items t_isChanceTold t_areSumsTold t_places t_kinds t_states t_past t_now o3 ho) [0, 2, 1] [] [0, 2, 1] [(a_t, .inr (12, [.ref a_t_now, .ref a_t_read, .ref a_t_past, .int (z4 o3.1), .ref a_t_images, .ref a_t_isKept, .ref a_t_text, .int (z4 t_letters), .int (z4 t_at), .int (z4 t_tokenAt), .int (z4 t_tokenSort), .int (z4 t_tokenValue), .int (z4 t_items), .int (z4 t_isChanceTold), .int (z4 t_areSumsTold), .ref a_t_metAt, .ref a_t_memoryAt, .ref a_t_upAt, .ref a_t_downAt, .ref a_t_isSignal, .ref a_t_memories, .ref a_t_placeOf, .ref a_t_nextPlace, .int (z4 t_places), .ref a_t_kindOf, .ref a_t_newKind, .int (z4 t_kinds), .ref a_t_stateOfKind, .ref a_t_stateAt, .ref a_t_stepTo, .int (z4 t_states), .ref a_t_far, .ref a_t_ways, .ref a_t_nextWays, .ref a_t_table])), (a_t_now, .inl (E 0, 98, .inl (A4 t_now))), (a_t_past, .inl (E 0, 588, .inl (A4 o3.2)))] rfl rfl rfl rfl (by decide) rfl rfl rfl cl_X12 lk_X12_159 co_X12_note dy_X12_note rfl rfl ⟨Nat.le_of_ble_eq_true rfl, Nat.le_of_ble_eq_true rfl⟩ hl.1 rfl (Nat.le_of_ble_eq_true rfl) dX12_goes_11 (Nat.zero_le _) (Nat.zero_le _) (fun H locs hP hD hS => ?_)
    refine lv_aload_n hx hb dX12_goes_14 rfl (lv_at hl 0 rfl) ?_
    refine m_get X hK hP cl_X12 iT_X12 0 (by decide) fl_X12_7 0 rfl rfl dX12_goes_15 ?_
    refine m_bipush X dX12_goes_18 (by decide) ?_
    refine lv_iload_n hx hb dX12_goes_20 rfl (lv_at hl 1 rfl) ?_
    refine m_iadd X dX12_goes_21 ?_
    obtain ⟨h4, hf⟩ := ck_some hf
    refine m_iald X hK hP 1 rfl (by decide) h4 dX12_goes_22 ?_
    refine lv_istore_n (lv' := [(2, .int (z4 (t_now (18 + x1).toNat))), (0, .ref a_t), (1, .int (z4 x1))]) hx hb dX12_goes_23 rfl hl (by decide) rfl (fun ls hl => ?_)
    refine lv_aload_n hx hb dX12_goes_24 rfl (lv_at hl 1 rfl) ?_
    refine m_get X hK hP cl_X12 iT_X12 0 (by decide) fl_X12_7 0 rfl rfl dX12_goes_25 ?_
    refine m_bipush X dX12_goes_28 (by decide) ?_
    refine lv_dup2_11 hx hb dX12_goes_30 rfl rfl ?_
    refine m_iald X hK hP 1 rfl (by decide) (by decide) dX12_goes_31 ?_
    refine m_iconst X dX12_goes_32 ?_
    refine m_isub X dX12_goes_33 ?_
    refine m_iast X hK hP hD hS 1 rfl (by decide) (by decide) [(a_t, .inr (12, [.ref a_t_now, .ref a_t_read, .ref a_t_past, .int (z4 o3.1), .ref a_t_images, .ref a_t_isKept, .ref a_t_text, .int (z4 t_letters), .int (z4 t_at), .int (z4 t_tokenAt), .int (z4 t_tokenSort), .int (z4 t_tokenValue), .int (z4 t_items), .int (z4 t_isChanceTold), .int (z4 t_areSumsTold), .ref a_t_metAt, .ref a_t_memoryAt, .ref a_t_upAt, .ref a_t_downAt, .ref a_t_isSignal, .ref a_t_memories, .ref a_t_placeOf, .ref a_t_nextPlace, .int (z4 t_places), .ref a_t_kindOf, .ref a_t_newKind, .int (z4 t_kinds), .ref a_t_stateOfKind, .ref a_t_stateAt, .ref a_t_stepTo, .int (z4 t_states), .ref a_t_far, .ref a_t_ways, .ref a_t_nextWays, .ref a_t_table])), (a_t_now, .inl (E 0, 98, .inl (A4 (up_ t_now 17 ((t_now 17) - 1))))), (a_t_past, .inl (E 0, 588, .inl (A4 o3.2)))] rfl dX12_goes_34 (fun H locs hP hD hS => ?_)
    refine lv_iload_n hx hb dX12_goes_35 rfl (lv_at hl 2 rfl) ?_
    refine lv_istore_n (lv' := [(3, .int (z4 x1)), (2, .int (z4 (t_now (18 + x1).toNat))), (0, .ref a_t), (1, .int (z4 x1))]) hx hb dX12_goes_36 rfl hl (by decide) rfl (fun ls hl => ?_)
    obtain ⟨o5, hj5, hr5⟩ := bd_some hf
    have E5_0 : ∀ (o_ : (Nat → Int)), o5 = o_ → ∀ (H : Heap) (locs : List Loc) (ls : Array Slot), lv_has ls 4 [(2, .int (z4 (t_now (18 + x1).toNat)))] → va_P D vwCl [(a_t, .inr (12, [.ref a_t_now, .ref a_t_read, .ref a_t_past, .int (z4 o3.1), .ref a_t_images, .ref a_t_isKept, .ref a_t_text, .int (z4 t_letters), .int (z4 t_at), .int (z4 t_tokenAt), .int (z4 t_tokenSort), .int (z4 t_tokenValue), .int (z4 t_items), .int (z4 t_isChanceTold), .int (z4 t_areSumsTold), .ref a_t_metAt, .ref a_t_memoryAt, .ref a_t_upAt, .ref a_t_downAt, .ref a_t_isSignal, .ref a_t_memories, .ref a_t_placeOf, .ref a_t_nextPlace, .int (z4 t_places), .ref a_t_kindOf, .ref a_t_newKind, .int (z4 t_kinds), .ref a_t_stateOfKind, .ref a_t_stateAt, .ref a_t_stepTo, .int (z4 t_states), .ref a_t_far, .ref a_t_ways, .ref a_t_nextWays, .ref a_t_table])), (a_t_now, .inl (E 0, 98, .inl (A4 o_))), (a_t_past, .inl (E 0, 588, .inl (A4 o3.2)))] H → va_D A [(a_t, .inr (12, [.ref a_t_now, .ref a_t_read, .ref a_t_past, .int (z4 o3.1), .ref a_t_images, .ref a_t_isKept, .ref a_t_text, .int (z4 t_letters), .int (z4 t_at), .int (z4 t_tokenAt), .int (z4 t_tokenSort), .int (z4 t_tokenValue), .int (z4 t_items), .int (z4 t_isChanceTold), .int (z4 t_areSumsTold), .ref a_t_metAt, .ref a_t_memoryAt, .ref a_t_upAt, .ref a_t_downAt, .ref a_t_isSignal, .ref a_t_memories, .ref a_t_placeOf, .ref a_t_nextPlace, .int (z4 t_places), .ref a_t_kindOf, .ref a_t_newKind, .int (z4 t_kinds), .ref a_t_stateOfKind, .ref a_t_stateAt, .ref a_t_stepTo, .int (z4 t_states), .ref a_t_far, .ref a_t_ways, .ref a_t_nextWays, .ref a_t_table])), (a_t_now, .inl (E 0, 98, .inl (A4 o_))), (a_t_past, .inl (E 0, 588, .inl (A4 o3.2)))] → va_S A s.heap H locs → W p l e rm_X12_goes s m args below meth c H locs 0 0 Q (F0 m 94 ls []) := by
      intro o_ ho_ H locs ls hl hP hD hS
      subst ho_
      refine lv_iload_n hx hb dX12_goes_94 rfl (lv_at hl 0 rfl) ?_
      obtain rfl := Option.some.inj hr5
      exact ret _ _ _ _ hP hD hS dX12_goes_95
    have L5 : ∀ (k_ : Nat) (v37_3 : Int) (t_now_l37 : Nat → Int), ∀ (H : Heap) (locs : List Loc) (ls : Array Slot), lv_has ls 4 [(0, .ref a_t), (2, .int (z4 (t_now (18 + x1).toNat))), (3, .int (z4 v37_3))] → va_P D vwCl [(a_t, .inr (12, [.ref a_t_now, .ref a_t_read, .ref a_t_past, .int (z4 o3.1), .ref a_t_images, .ref a_t_isKept, .ref a_t_text, .int (z4 t_letters), .int (z4 t_at), .int (z4 t_tokenAt), .int (z4 t_tokenSort), .int (z4 t_tokenValue), .int (z4 t_items), .int (z4 t_isChanceTold), .int (z4 t_areSumsTold), .ref a_t_metAt, .ref a_t_memoryAt, .ref a_t_upAt, .ref a_t_downAt, .ref a_t_isSignal, .ref a_t_memories, .ref a_t_placeOf, .ref a_t_nextPlace, .int (z4 t_places), .ref a_t_kindOf, .ref a_t_newKind, .int (z4 t_kinds), .ref a_t_stateOfKind, .ref a_t_stateAt, .ref a_t_stepTo, .int (z4 t_states), .ref a_t_far, .ref a_t_ways, .ref a_t_nextWays, .ref a_t_table])), (a_t_now, .inl (E 0, 98, .inl (A4 t_now_l37))), (a_t_past, .inl (E 0, 588, .inl (A4 o3.2)))] H → va_D A [(a_t, .inr (12, [.ref a_t_now, .ref a_t_read, .ref a_t_past, .int (z4 o3.1), .ref a_t_images, .ref a_t_isKept, .ref a_t_text, .int (z4 t_letters), .int (z4 t_at), .int (z4 t_tokenAt), .int (z4 t_tokenSort), .int (z4 t_tokenValue), .int (z4 t_items), .int (z4 t_isChanceTold), .int (z4 t_areSumsTold), .ref a_t_metAt, .ref a_t_memoryAt, .ref a_t_upAt, .ref a_t_downAt, .ref a_t_isSignal, .ref a_t_memories, .ref a_t_placeOf, .ref a_t_nextPlace, .int (z4 t_places), .ref a_t_kindOf, .ref a_t_newKind, .int (z4 t_kinds), .ref a_t_stateOfKind, .ref a_t_stateAt, .ref a_t_stepTo, .int (z4 t_states), .ref a_t_far, .ref a_t_ways, .ref a_t_nextWays, .ref a_t_table])), (a_t_now, .inl (E 0, 98, .inl (A4 t_now_l37))), (a_t_past, .inl (E 0, 588, .inl (A4 o3.2)))] → va_S A s.heap H locs → lp_ (fun (q : Int × (Nat → Int)) => F_X12_goes_L37 n q.1 q.2) k_ (v37_3, t_now_l37) = some o5 → W p l e rm_X12_goes s m args below meth c H locs 0 0 Q (F0 m 37 ls []) := by
      intro k_
      induction k_ with
      | zero =>
        intro v37_3 t_now_l37 H locs ls hl hP hD hS hq_; exact (lp_zero hq_).elim
      | succ k_ ih5 =>
        intro v37_3 t_now_l37 H locs ls hl hP hD hS hq_
        obtain ⟨t_5, hb5, hq5⟩ := lp_some hq_
        replace hb5 : F_X12_goes_L37 n v37_3 t_now_l37 = some t_5 := hb5
        unfold F_X12_goes_L37 at hb5
        refine lv_iload_n hx hb dX12_goes_37 rfl (lv_at hl 2 rfl) ?_
        refine lv_aload_n hx hb dX12_goes_38 rfl (lv_at hl 0 rfl) ?_
        refine m_get X hK hP cl_X12 iT_X12 0 (by decide) fl_X12_7 0 rfl rfl dX12_goes_39 ?_
        refine m_bipush X dX12_goes_42 (by decide) ?_
        refine m_iald X hK hP 1 rfl (by decide) (by decide) dX12_goes_44 ?_
        obtain ⟨h6, hb5⟩ := ck_some hb5
        refine m_icmp_ge X h6 dX12_goes_45 (tgt := 94) (by decide) (fun (hc_ : ¬ (v37_3 < t_now_l37 17)) => ?_) (fun (hc_ : v37_3 < t_now_l37 17) => ?_)
        · rw [if_neg hc_] at hb5
          obtain rfl := Option.some.inj hb5
          exact E5_0 _ (Option.some.inj hq5).symm _ _ _ (lv_sub hl [1] rfl) hP hD hS
        · rw [if_pos hc_] at hb5
          refine lv_aload_n hx hb dX12_goes_48 rfl (lv_at hl 0 rfl) ?_
          refine m_get X hK hP cl_X12 iT_X12 0 (by decide) fl_X12_7 0 rfl rfl dX12_goes_49 ?_
          refine m_bipush X dX12_goes_52 (by decide) ?_
          refine lv_iload_n hx hb dX12_goes_54 rfl (lv_at hl 2 rfl) ?_
          refine m_iadd X dX12_goes_55 ?_
          refine lv_aload_n hx hb dX12_goes_56 rfl (lv_at hl 0 rfl) ?_
          refine m_get X hK hP cl_X12 iT_X12 0 (by decide) fl_X12_7 0 rfl rfl dX12_goes_57 ?_
          refine m_bipush X dX12_goes_60 (by decide) ?_
          refine lv_iload_n hx hb dX12_goes_62 rfl (lv_at hl 2 rfl) ?_
          refine m_iadd X dX12_goes_63 ?_
          refine m_iconst X dX12_goes_64 ?_
          refine m_iadd X dX12_goes_65 ?_
          obtain ⟨h7, hb5⟩ := ck_some hb5
          refine m_iald X hK hP 1 rfl (by decide) h7 dX12_goes_66 ?_
          obtain ⟨h8, hb5⟩ := ck_some hb5
          refine m_iast X hK hP hD hS 1 rfl (by decide) h8 [(a_t, .inr (12, [.ref a_t_now, .ref a_t_read, .ref a_t_past, .int (z4 o3.1), .ref a_t_images, .ref a_t_isKept, .ref a_t_text, .int (z4 t_letters), .int (z4 t_at), .int (z4 t_tokenAt), .int (z4 t_tokenSort), .int (z4 t_tokenValue), .int (z4 t_items), .int (z4 t_isChanceTold), .int (z4 t_areSumsTold), .ref a_t_metAt, .ref a_t_memoryAt, .ref a_t_upAt, .ref a_t_downAt, .ref a_t_isSignal, .ref a_t_memories, .ref a_t_placeOf, .ref a_t_nextPlace, .int (z4 t_places), .ref a_t_kindOf, .ref a_t_newKind, .int (z4 t_kinds), .ref a_t_stateOfKind, .ref a_t_stateAt, .ref a_t_stepTo, .int (z4 t_states), .ref a_t_far, .ref a_t_ways, .ref a_t_nextWays, .ref a_t_table])), (a_t_now, .inl (E 0, 98, .inl (A4 (up_ t_now_l37 (18 + v37_3).toNat (t_now_l37 ((18 + v37_3) + 1).toNat))))), (a_t_past, .inl (E 0, 588, .inl (A4 o3.2)))] rfl dX12_goes_67 (fun H locs hP hD hS => ?_)
          refine lv_aload_n hx hb dX12_goes_68 rfl (lv_at hl 0 rfl) ?_
          refine m_get X hK hP cl_X12 iT_X12 0 (by decide) fl_X12_7 0 rfl rfl dX12_goes_69 ?_
          refine m_bipush X dX12_goes_72 (by decide) ?_
          refine lv_iload_n hx hb dX12_goes_74 rfl (lv_at hl 2 rfl) ?_
          refine m_iadd X dX12_goes_75 ?_
          refine lv_aload_n hx hb dX12_goes_76 rfl (lv_at hl 0 rfl) ?_
          refine m_get X hK hP cl_X12 iT_X12 0 (by decide) fl_X12_7 0 rfl rfl dX12_goes_77 ?_
          refine m_bipush X dX12_goes_80 (by decide) ?_
          refine lv_iload_n hx hb dX12_goes_82 rfl (lv_at hl 2 rfl) ?_
          refine m_iadd X dX12_goes_83 ?_
          refine m_iconst X dX12_goes_84 ?_
          refine m_iadd X dX12_goes_85 ?_
          obtain ⟨h9, hb5⟩ := ck_some hb5
          refine m_iald X hK hP 1 rfl (by decide) h9 dX12_goes_86 ?_
          obtain ⟨h10, hb5⟩ := ck_some hb5
          refine m_iast X hK hP hD hS 1 rfl (by decide) h10 [(a_t, .inr (12, [.ref a_t_now, .ref a_t_read, .ref a_t_past, .int (z4 o3.1), .ref a_t_images, .ref a_t_isKept, .ref a_t_text, .int (z4 t_letters), .int (z4 t_at), .int (z4 t_tokenAt), .int (z4 t_tokenSort), .int (z4 t_tokenValue), .int (z4 t_items), .int (z4 t_isChanceTold), .int (z4 t_areSumsTold), .ref a_t_metAt, .ref a_t_memoryAt, .ref a_t_upAt, .ref a_t_downAt, .ref a_t_isSignal, .ref a_t_memories, .ref a_t_placeOf, .ref a_t_nextPlace, .int (z4 t_places), .ref a_t_kindOf, .ref a_t_newKind, .int (z4 t_kinds), .ref a_t_stateOfKind, .ref a_t_stateAt, .ref a_t_stepTo, .int (z4 t_states), .ref a_t_far, .ref a_t_ways, .ref a_t_nextWays, .ref a_t_table])), (a_t_now, .inl (E 0, 98, .inl (A4 (up_ (up_ t_now_l37 (18 + v37_3).toNat (t_now_l37 ((18 + v37_3) + 1).toNat)) (58 + v37_3).toNat ((up_ t_now_l37 (18 + v37_3).toNat (t_now_l37 ((18 + v37_3) + 1).toNat)) ((58 + v37_3) + 1).toNat))))), (a_t_past, .inl (E 0, 588, .inl (A4 o3.2)))] rfl dX12_goes_87 (fun H locs hP hD hS => ?_)
          refine m_iinc X 2 [(3, .int (z4 (v37_3 + 1))), (0, .ref a_t), (2, .int (z4 (t_now (18 + x1).toNat)))] dX12_goes_88 hl rfl (by decide) rfl (fun ls hl => ?_)
          refine lv_goto (tgt := 37) hx hb dX12_goes_91 (by decide) ?_
          obtain rfl := Option.some.inj hb5
          exact ih5 _ _ _ _ _ (lv_sub hl [1, 2, 0] rfl) hP hD hS hq5
    exact L5 n _ _ _ _ _ (lv_sub hl [2, 1, 0] rfl) hP hD hS hj5
  · rw [if_pos hc_] at hf
    refine m_iconst X dX12_goes_8 ?_
    obtain rfl := Option.some.inj hf
    exact ret _ _ _ _ hP hD hS dX12_goes_9
def F_X12_becomes (n : Nat)  (t_deeds : Int) (t_now : Nat → Int) (t_past : Nat → Int) (x1 : Int) (x2 : Int) : Option (Int × Int × (Nat → Int) × (Nat → Int)) :=
  (F_X12_isRow n t_now x1).bind fun o1 =>
  ck (r4 o1) <|
  if o1 = 0 then
    some ((-1), t_deeds, t_now, t_past)
  else
    (F_X12_isSign n x2).bind fun o3 =>
    ck (r4 o3) <|
    if o3 = 0 then
      some ((-1), t_deeds, t_now, t_past)
    else
      ck (ix_ (58 + x1) 98) <|
      ck (r4 (t_now (58 + x1).toNat) ∧ r4 x2) <|
      if t_now (58 + x1).toNat = x2 then
        some ((-2), t_deeds, t_now, t_past)
      else
        (F_X12_note n t_deeds t_past t_now).bind fun o7 =>
        ck (ix_ (58 + x1) 98) <|
        some (t_now (58 + x1).toNat, o7.1, up_ t_now (58 + x1).toNat x2, o7.2)
def rm_X12_becomes : Room := { frames := 2, cells := 0, slots := 0, locals := 45 }
set_option maxHeartbeats 4000000 in
set_option maxRecDepth 100000 in
theorem k_X12_becomes {l : Launch} {D : va_G} {E : Nat → ClassId} (n : Nat) (a_t a_t_now a_t_read a_t_past a_t_images a_t_isKept a_t_text a_t_metAt a_t_memoryAt a_t_upAt a_t_downAt a_t_isSignal a_t_memories a_t_placeOf a_t_nextPlace a_t_kindOf a_t_newKind a_t_stateOfKind a_t_stateAt a_t_stepTo a_t_far a_t_ways a_t_nextWays a_t_table : Nat) (t_deeds : Int) (t_letters : Int) (t_at : Int) (t_tokenAt : Int) (t_tokenSort : Int) (t_tokenValue : Int) (t_items : Int) (t_isChanceTold : Int) (t_areSumsTold : Int) (t_places : Int) (t_kinds : Int) (t_states : Int) (t_now : Nat → Int) (t_past : Nat → Int) (x1 : Int) (x2 : Int) (res : Int × Int × (Nat → Int) × (Nat → Int)) (hf : F_X12_becomes n t_deeds t_now t_past x1 x2 = some res) : MW l yX12_becomes (.code yX12_becomes cX12_becomes 4 (some .int)) rm_X12_becomes D E [.ref a_t, .int (z4 x1), .int (z4 x2)] [(a_t, .inr (12, [.ref a_t_now, .ref a_t_read, .ref a_t_past, .int (z4 t_deeds), .ref a_t_images, .ref a_t_isKept, .ref a_t_text, .int (z4 t_letters), .int (z4 t_at), .int (z4 t_tokenAt), .int (z4 t_tokenSort), .int (z4 t_tokenValue), .int (z4 t_items), .int (z4 t_isChanceTold), .int (z4 t_areSumsTold), .ref a_t_metAt, .ref a_t_memoryAt, .ref a_t_upAt, .ref a_t_downAt, .ref a_t_isSignal, .ref a_t_memories, .ref a_t_placeOf, .ref a_t_nextPlace, .int (z4 t_places), .ref a_t_kindOf, .ref a_t_newKind, .int (z4 t_kinds), .ref a_t_stateOfKind, .ref a_t_stateAt, .ref a_t_stepTo, .int (z4 t_states), .ref a_t_far, .ref a_t_ways, .ref a_t_nextWays, .ref a_t_table])), (a_t_now, .inl (E 0, 98, .inl (A4 t_now))), (a_t_past, .inl (E 0, 588, .inl (A4 t_past)))] (some (.int (z4 res.1))) [(a_t, .inr (12, [.ref a_t_now, .ref a_t_read, .ref a_t_past, .int (z4 res.2.1), .ref a_t_images, .ref a_t_isKept, .ref a_t_text, .int (z4 t_letters), .int (z4 t_at), .int (z4 t_tokenAt), .int (z4 t_tokenSort), .int (z4 t_tokenValue), .int (z4 t_items), .int (z4 t_isChanceTold), .int (z4 t_areSumsTold), .ref a_t_metAt, .ref a_t_memoryAt, .ref a_t_upAt, .ref a_t_downAt, .ref a_t_isSignal, .ref a_t_memories, .ref a_t_placeOf, .ref a_t_nextPlace, .int (z4 t_places), .ref a_t_kindOf, .ref a_t_newKind, .int (z4 t_kinds), .ref a_t_stateOfKind, .ref a_t_stateAt, .ref a_t_stepTo, .int (z4 t_states), .ref a_t_far, .ref a_t_ways, .ref a_t_nextWays, .ref a_t_table])), (a_t_now, .inl (E 0, 98, .inl (A4 res.2.2.1))), (a_t_past, .inl (E 0, 588, .inl (A4 res.2.2.2)))] := by
  refine MWi (by decide) (Nat.le_of_ble_eq_true rfl) ?_
  intro p e s m args below meth c A Q X hK hP hD hA ret ls hl
  have hS : va_S A s.heap s.heap [] := va_S.rf
  have hx := X.1
  have hb := X.2.1
  have hl : lv_has ls 4 [(0, .ref a_t), (1, .int (z4 x1)), (2, .int (z4 x2))] := hl
  unfold F_X12_becomes at hf
  refine lv_aload_n hx hb dX12_becomes_0 rfl (lv_at hl 0 rfl) ?_
  refine lv_iload_n hx hb dX12_becomes_1 rfl (lv_at hl 1 rfl) ?_
  obtain ⟨o1, ho, hf⟩ := bd_some hf
  refine m_cVR X hK (k_X12_isRow n a_t a_t_now a_t_read a_t_past a_t_images a_t_isKept a_t_text a_t_metAt a_t_memoryAt a_t_upAt a_t_downAt a_t_isSignal a_t_memories a_t_placeOf a_t_nextPlace a_t_kindOf a_t_newKind a_t_stateOfKind a_t_stateAt a_t_stepTo a_t_far a_t_ways a_t_nextWays a_t_table t_deeds t_letters t_at t_tokenAt t_tokenSort t_tokenValue t_items t_isChanceTold t_areSumsTold t_places t_kinds t_states t_now x1 o1 ho) (hP.sub [0, 1] rfl) rfl cl_X12 lk_X12_172 co_X12_isRow dy_X12_isRow rfl rfl ⟨Nat.le_of_ble_eq_true rfl, Nat.le_of_ble_eq_true rfl⟩ hl.1 rfl (Nat.le_of_ble_eq_true rfl) dX12_becomes_2 (Nat.zero_le _) (Nat.zero_le _) ?_
  obtain ⟨h2, hf⟩ := ck_some hf
  refine m_if_eq X h2 dX12_becomes_5 (tgt := 15) (by decide) (fun (hc_ : o1 = 0) => ?_) (fun (hc_ : ¬ (o1 = 0)) => ?_)
  · rw [if_pos hc_] at hf
    refine m_iconst X dX12_becomes_15 ?_
    obtain rfl := Option.some.inj hf
    exact ret _ _ _ _ hP hD hS dX12_becomes_16
  · rw [if_neg hc_] at hf
    refine lv_iload_n hx hb dX12_becomes_8 rfl (lv_at hl 2 rfl) ?_
    obtain ⟨o3, ho, hf⟩ := bd_some hf
    refine m_cSR X hK (k_X12_isSign n x2 o3 ho) (hP.sub (ws' := []) [] rfl) lk_X12_169 co_X12_isSign dy_X12_isSign rfl rfl ⟨Nat.le_of_ble_eq_true rfl, Nat.le_of_ble_eq_true rfl⟩ hl.1 rfl (Nat.le_of_ble_eq_true rfl) dX12_becomes_9 (Nat.zero_le _) (Nat.zero_le _) ?_
    obtain ⟨h4, hf⟩ := ck_some hf
    refine m_if_ne X h4 dX12_becomes_12 (tgt := 17) (by decide) (fun (hc_ : ¬ (o3 = 0)) => ?_) (fun (hc_ : o3 = 0) => ?_)
    · rw [if_neg hc_] at hf
      refine lv_aload_n hx hb dX12_becomes_17 rfl (lv_at hl 0 rfl) ?_
      refine m_get X hK hP cl_X12 iT_X12 0 (by decide) fl_X12_7 0 rfl rfl dX12_becomes_18 ?_
      refine m_bipush X dX12_becomes_21 (by decide) ?_
      refine lv_iload_n hx hb dX12_becomes_23 rfl (lv_at hl 1 rfl) ?_
      refine m_iadd X dX12_becomes_24 ?_
      obtain ⟨h5, hf⟩ := ck_some hf
      refine m_iald X hK hP 1 rfl (by decide) h5 dX12_becomes_25 ?_
      refine lv_istore_n (lv' := [(3, .int (z4 (t_now (58 + x1).toNat))), (0, .ref a_t), (1, .int (z4 x1)), (2, .int (z4 x2))]) hx hb dX12_becomes_26 rfl hl (by decide) rfl (fun ls hl => ?_)
      refine lv_iload_n hx hb dX12_becomes_27 rfl (lv_at hl 0 rfl) ?_
      refine lv_iload_n hx hb dX12_becomes_28 rfl (lv_at hl 3 rfl) ?_
      obtain ⟨h6, hf⟩ := ck_some hf
      refine m_icmp_ne X h6 dX12_becomes_29 (tgt := 35) (by decide) (fun (hc_ : ¬ (t_now (58 + x1).toNat = x2)) => ?_) (fun (hc_ : t_now (58 + x1).toNat = x2) => ?_)
      · rw [if_neg hc_] at hf
        refine lv_aload_n hx hb dX12_becomes_35 rfl (lv_at hl 1 rfl) ?_
        obtain ⟨o7, ho, hf⟩ := bd_some hf
        refine m_cVW X hK hP hD hS hA (wr := []) (k_X12_note n a_t a_t_now a_t_read a_t_past a_t_images a_t_isKept a_t_text a_t_metAt a_t_memoryAt a_t_upAt a_t_downAt a_t_isSignal a_t_memories a_t_placeOf a_t_nextPlace a_t_kindOf a_t_newKind a_t_stateOfKind a_t_stateAt a_t_stepTo a_t_far a_t_ways a_t_nextWays a_t_table t_deeds t_letters t_at t_tokenAt t_tokenSort t_tokenValue t_items t_isChanceTold t_areSumsTold t_places t_kinds t_states t_past t_now o7 ho) [0, 2, 1] [] [0, 2, 1] [(a_t, .inr (12, [.ref a_t_now, .ref a_t_read, .ref a_t_past, .int (z4 o7.1), .ref a_t_images, .ref a_t_isKept, .ref a_t_text, .int (z4 t_letters), .int (z4 t_at), .int (z4 t_tokenAt), .int (z4 t_tokenSort), .int (z4 t_tokenValue), .int (z4 t_items), .int (z4 t_isChanceTold), .int (z4 t_areSumsTold), .ref a_t_metAt, .ref a_t_memoryAt, .ref a_t_upAt, .ref a_t_downAt, .ref a_t_isSignal, .ref a_t_memories, .ref a_t_placeOf, .ref a_t_nextPlace, .int (z4 t_places), .ref a_t_kindOf, .ref a_t_newKind, .int (z4 t_kinds), .ref a_t_stateOfKind, .ref a_t_stateAt, .ref a_t_stepTo, .int (z4 t_states), .ref a_t_far, .ref a_t_ways, .ref a_t_nextWays, .ref a_t_table])), (a_t_now, .inl (E 0, 98, .inl (A4 t_now))), (a_t_past, .inl (E 0, 588, .inl (A4 o7.2)))] rfl rfl rfl rfl (by decide) rfl rfl rfl cl_X12 lk_X12_159 co_X12_note dy_X12_note rfl rfl ⟨Nat.le_of_ble_eq_true rfl, Nat.le_of_ble_eq_true rfl⟩ hl.1 rfl (Nat.le_of_ble_eq_true rfl) dX12_becomes_36 (Nat.zero_le _) (Nat.zero_le _) (fun H locs hP hD hS => ?_)
        refine lv_aload_n hx hb dX12_becomes_39 rfl (lv_at hl 1 rfl) ?_
        refine m_get X hK hP cl_X12 iT_X12 0 (by decide) fl_X12_7 0 rfl rfl dX12_becomes_40 ?_
        refine m_bipush X dX12_becomes_43 (by decide) ?_
        refine lv_iload_n hx hb dX12_becomes_45 rfl (lv_at hl 2 rfl) ?_
        refine m_iadd X dX12_becomes_46 ?_
        refine lv_iload_n hx hb dX12_becomes_47 rfl (lv_at hl 3 rfl) ?_
        obtain ⟨h8, hf⟩ := ck_some hf
        refine m_iast X hK hP hD hS 1 rfl (by decide) h8 [(a_t, .inr (12, [.ref a_t_now, .ref a_t_read, .ref a_t_past, .int (z4 o7.1), .ref a_t_images, .ref a_t_isKept, .ref a_t_text, .int (z4 t_letters), .int (z4 t_at), .int (z4 t_tokenAt), .int (z4 t_tokenSort), .int (z4 t_tokenValue), .int (z4 t_items), .int (z4 t_isChanceTold), .int (z4 t_areSumsTold), .ref a_t_metAt, .ref a_t_memoryAt, .ref a_t_upAt, .ref a_t_downAt, .ref a_t_isSignal, .ref a_t_memories, .ref a_t_placeOf, .ref a_t_nextPlace, .int (z4 t_places), .ref a_t_kindOf, .ref a_t_newKind, .int (z4 t_kinds), .ref a_t_stateOfKind, .ref a_t_stateAt, .ref a_t_stepTo, .int (z4 t_states), .ref a_t_far, .ref a_t_ways, .ref a_t_nextWays, .ref a_t_table])), (a_t_now, .inl (E 0, 98, .inl (A4 (up_ t_now (58 + x1).toNat x2)))), (a_t_past, .inl (E 0, 588, .inl (A4 o7.2)))] rfl dX12_becomes_48 (fun H locs hP hD hS => ?_)
        refine lv_iload_n hx hb dX12_becomes_49 rfl (lv_at hl 0 rfl) ?_
        obtain rfl := Option.some.inj hf
        exact ret _ _ _ _ hP hD hS dX12_becomes_50
      · rw [if_pos hc_] at hf
        refine m_bipush X dX12_becomes_32 (by decide) ?_
        obtain rfl := Option.some.inj hf
        exact ret _ _ _ _ hP hD hS dX12_becomes_34
    · rw [if_pos hc_] at hf
      refine m_iconst X dX12_becomes_15 ?_
      obtain rfl := Option.some.inj hf
      exact ret _ _ _ _ hP hD hS dX12_becomes_16
def F_X12_keep (n : Nat)  (t_now : Nat → Int) (t_images : Nat → Int) (t_isKept : Nat → Int) (x1 : Int) : Option (Int × (Nat → Int) × (Nat → Int)) :=
  (F_X12_in n x1 0 1).bind fun o1 =>
  ck (r4 o1) <|
  if o1 = 0 then
    some ((-1), t_images, t_isKept)
  else
    (F_X12_bring n 98 196 t_now t_images 0 (98 * x1)).bind fun o3 =>
    ck (ix_ x1 2) <|
    some (t_now 17, o3, up_ t_isKept (x1).toNat 1)
def rm_X12_keep : Room := { frames := 1, cells := 0, slots := 0, locals := 24 }
set_option maxHeartbeats 4000000 in
set_option maxRecDepth 100000 in
theorem k_X12_keep {l : Launch} {D : va_G} {E : Nat → ClassId} (n : Nat) (a_t a_t_now a_t_read a_t_past a_t_images a_t_isKept a_t_text a_t_metAt a_t_memoryAt a_t_upAt a_t_downAt a_t_isSignal a_t_memories a_t_placeOf a_t_nextPlace a_t_kindOf a_t_newKind a_t_stateOfKind a_t_stateAt a_t_stepTo a_t_far a_t_ways a_t_nextWays a_t_table : Nat) (t_deeds : Int) (t_letters : Int) (t_at : Int) (t_tokenAt : Int) (t_tokenSort : Int) (t_tokenValue : Int) (t_items : Int) (t_isChanceTold : Int) (t_areSumsTold : Int) (t_places : Int) (t_kinds : Int) (t_states : Int) (t_now : Nat → Int) (t_images : Nat → Int) (t_isKept : Nat → Int) (x1 : Int) (res : Int × (Nat → Int) × (Nat → Int)) (hf : F_X12_keep n t_now t_images t_isKept x1 = some res) : MW l yX12_keep (.code yX12_keep cX12_keep 2 (some .int)) rm_X12_keep D E [.ref a_t, .int (z4 x1)] [(a_t, .inr (12, [.ref a_t_now, .ref a_t_read, .ref a_t_past, .int (z4 t_deeds), .ref a_t_images, .ref a_t_isKept, .ref a_t_text, .int (z4 t_letters), .int (z4 t_at), .int (z4 t_tokenAt), .int (z4 t_tokenSort), .int (z4 t_tokenValue), .int (z4 t_items), .int (z4 t_isChanceTold), .int (z4 t_areSumsTold), .ref a_t_metAt, .ref a_t_memoryAt, .ref a_t_upAt, .ref a_t_downAt, .ref a_t_isSignal, .ref a_t_memories, .ref a_t_placeOf, .ref a_t_nextPlace, .int (z4 t_places), .ref a_t_kindOf, .ref a_t_newKind, .int (z4 t_kinds), .ref a_t_stateOfKind, .ref a_t_stateAt, .ref a_t_stepTo, .int (z4 t_states), .ref a_t_far, .ref a_t_ways, .ref a_t_nextWays, .ref a_t_table])), (a_t_now, .inl (E 0, 98, .inl (A4 t_now))), (a_t_images, .inl (E 0, 196, .inl (A4 t_images))), (a_t_isKept, .inl (E 1, 2, .inl (A4 t_isKept)))] (some (.int (z4 res.1))) [(a_t, .inr (12, [.ref a_t_now, .ref a_t_read, .ref a_t_past, .int (z4 t_deeds), .ref a_t_images, .ref a_t_isKept, .ref a_t_text, .int (z4 t_letters), .int (z4 t_at), .int (z4 t_tokenAt), .int (z4 t_tokenSort), .int (z4 t_tokenValue), .int (z4 t_items), .int (z4 t_isChanceTold), .int (z4 t_areSumsTold), .ref a_t_metAt, .ref a_t_memoryAt, .ref a_t_upAt, .ref a_t_downAt, .ref a_t_isSignal, .ref a_t_memories, .ref a_t_placeOf, .ref a_t_nextPlace, .int (z4 t_places), .ref a_t_kindOf, .ref a_t_newKind, .int (z4 t_kinds), .ref a_t_stateOfKind, .ref a_t_stateAt, .ref a_t_stepTo, .int (z4 t_states), .ref a_t_far, .ref a_t_ways, .ref a_t_nextWays, .ref a_t_table])), (a_t_now, .inl (E 0, 98, .inl (A4 t_now))), (a_t_images, .inl (E 0, 196, .inl (A4 res.2.1))), (a_t_isKept, .inl (E 1, 2, .inl (A4 res.2.2)))] := by
  refine MWi (by decide) (Nat.le_of_ble_eq_true rfl) ?_
  intro p e s m args below meth c A Q X hK hP hD hA ret ls hl
  have hS : va_S A s.heap s.heap [] := va_S.rf
  have hx := X.1
  have hb := X.2.1
  have hl : lv_has ls 2 [(0, .ref a_t), (1, .int (z4 x1))] := hl
  unfold F_X12_keep at hf
  refine lv_iload_n hx hb dX12_keep_0 rfl (lv_at hl 1 rfl) ?_
  refine m_iconst X dX12_keep_1 ?_
  refine m_iconst X dX12_keep_2 ?_
  obtain ⟨o1, ho, hf⟩ := bd_some hf
  refine m_cSR X hK (k_X12_in n x1 0 1 o1 ho) (hP.sub (ws' := []) [] rfl) lk_X12_87 co_X12_in dy_X12_in rfl rfl ⟨Nat.le_of_ble_eq_true rfl, Nat.le_of_ble_eq_true rfl⟩ hl.1 rfl (Nat.le_of_ble_eq_true rfl) dX12_keep_3 (Nat.zero_le _) (Nat.zero_le _) ?_
  obtain ⟨h2, hf⟩ := ck_some hf
  refine m_if_ne X h2 dX12_keep_6 (tgt := 11) (by decide) (fun (hc_ : ¬ (o1 = 0)) => ?_) (fun (hc_ : o1 = 0) => ?_)
  · rw [if_neg hc_] at hf
    refine lv_aload_n hx hb dX12_keep_11 rfl (lv_at hl 0 rfl) ?_
    refine m_get X hK hP cl_X12 iT_X12 0 (by decide) fl_X12_7 0 rfl rfl dX12_keep_12 ?_
    refine m_iconst X dX12_keep_15 ?_
    refine lv_aload_n hx hb dX12_keep_16 rfl (lv_at hl 0 rfl) ?_
    refine m_get X hK hP cl_X12 iT_X12 4 (by decide) fl_X12_19 0 rfl rfl dX12_keep_17 ?_
    refine m_bipush X dX12_keep_20 (by decide) ?_
    refine lv_iload_n hx hb dX12_keep_22 rfl (lv_at hl 1 rfl) ?_
    refine m_imul X dX12_keep_23 ?_
    obtain ⟨o3, ho, hf⟩ := bd_some hf
    refine m_cSW X hK hP hD hS hA (wr := [(a_t, .inr (12, [.ref a_t_now, .ref a_t_read, .ref a_t_past, .int (z4 t_deeds), .ref a_t_images, .ref a_t_isKept, .ref a_t_text, .int (z4 t_letters), .int (z4 t_at), .int (z4 t_tokenAt), .int (z4 t_tokenSort), .int (z4 t_tokenValue), .int (z4 t_items), .int (z4 t_isChanceTold), .int (z4 t_areSumsTold), .ref a_t_metAt, .ref a_t_memoryAt, .ref a_t_upAt, .ref a_t_downAt, .ref a_t_isSignal, .ref a_t_memories, .ref a_t_placeOf, .ref a_t_nextPlace, .int (z4 t_places), .ref a_t_kindOf, .ref a_t_newKind, .int (z4 t_kinds), .ref a_t_stateOfKind, .ref a_t_stateAt, .ref a_t_stepTo, .int (z4 t_states), .ref a_t_far, .ref a_t_ways, .ref a_t_nextWays, .ref a_t_table])), (a_t_isKept, .inl (E 1, 2, .inl (A4 t_isKept)))]) (k_X12_bring n a_t_now a_t_images 98 196 (by decide) (by decide) t_now t_images 0 (98 * x1) o3 ho) [1, 2] [0, 3] [0, 2, 3, 1] [(a_t, .inr (12, [.ref a_t_now, .ref a_t_read, .ref a_t_past, .int (z4 t_deeds), .ref a_t_images, .ref a_t_isKept, .ref a_t_text, .int (z4 t_letters), .int (z4 t_at), .int (z4 t_tokenAt), .int (z4 t_tokenSort), .int (z4 t_tokenValue), .int (z4 t_items), .int (z4 t_isChanceTold), .int (z4 t_areSumsTold), .ref a_t_metAt, .ref a_t_memoryAt, .ref a_t_upAt, .ref a_t_downAt, .ref a_t_isSignal, .ref a_t_memories, .ref a_t_placeOf, .ref a_t_nextPlace, .int (z4 t_places), .ref a_t_kindOf, .ref a_t_newKind, .int (z4 t_kinds), .ref a_t_stateOfKind, .ref a_t_stateAt, .ref a_t_stepTo, .int (z4 t_states), .ref a_t_far, .ref a_t_ways, .ref a_t_nextWays, .ref a_t_table])), (a_t_now, .inl (E 0, 98, .inl (A4 t_now))), (a_t_images, .inl (E 0, 196, .inl (A4 o3))), (a_t_isKept, .inl (E 1, 2, .inl (A4 t_isKept)))] rfl rfl rfl rfl (by decide) rfl rfl lk_X12_165 co_X12_bring dy_X12_bring rfl rfl ⟨Nat.le_of_ble_eq_true rfl, Nat.le_of_ble_eq_true rfl⟩ hl.1 rfl (Nat.le_of_ble_eq_true rfl) dX12_keep_24 (Nat.zero_le _) (Nat.zero_le _) (fun H locs hP hD hS => ?_)
    refine lv_aload_n hx hb dX12_keep_27 rfl (lv_at hl 0 rfl) ?_
    refine m_get X hK hP cl_X12 iT_X12 5 (by decide) fl_X12_22 0 rfl rfl dX12_keep_28 ?_
    refine lv_iload_n hx hb dX12_keep_31 rfl (lv_at hl 1 rfl) ?_
    refine m_iconst X dX12_keep_32 ?_
    obtain ⟨h4, hf⟩ := ck_some hf
    refine m_zast X hK hP hD hS 3 rfl (by decide) h4 (by decide) [(a_t, .inr (12, [.ref a_t_now, .ref a_t_read, .ref a_t_past, .int (z4 t_deeds), .ref a_t_images, .ref a_t_isKept, .ref a_t_text, .int (z4 t_letters), .int (z4 t_at), .int (z4 t_tokenAt), .int (z4 t_tokenSort), .int (z4 t_tokenValue), .int (z4 t_items), .int (z4 t_isChanceTold), .int (z4 t_areSumsTold), .ref a_t_metAt, .ref a_t_memoryAt, .ref a_t_upAt, .ref a_t_downAt, .ref a_t_isSignal, .ref a_t_memories, .ref a_t_placeOf, .ref a_t_nextPlace, .int (z4 t_places), .ref a_t_kindOf, .ref a_t_newKind, .int (z4 t_kinds), .ref a_t_stateOfKind, .ref a_t_stateAt, .ref a_t_stepTo, .int (z4 t_states), .ref a_t_far, .ref a_t_ways, .ref a_t_nextWays, .ref a_t_table])), (a_t_now, .inl (E 0, 98, .inl (A4 t_now))), (a_t_images, .inl (E 0, 196, .inl (A4 o3))), (a_t_isKept, .inl (E 1, 2, .inl (A4 (up_ t_isKept (x1).toNat 1))))] rfl dX12_keep_33 (fun H locs hP hD hS => ?_)
    refine lv_aload_n hx hb dX12_keep_34 rfl (lv_at hl 0 rfl) ?_
    refine m_get X hK hP cl_X12 iT_X12 0 (by decide) fl_X12_7 0 rfl rfl dX12_keep_35 ?_
    refine m_bipush X dX12_keep_38 (by decide) ?_
    refine m_iald X hK hP 1 rfl (by decide) (by decide) dX12_keep_40 ?_
    obtain rfl := Option.some.inj hf
    exact ret _ _ _ _ hP hD hS dX12_keep_41
  · rw [if_pos hc_] at hf
    refine m_iconst X dX12_keep_9 ?_
    obtain rfl := Option.some.inj hf
    exact ret _ _ _ _ hP hD hS dX12_keep_10
def F_X12_back (n : Nat)  (t_deeds : Int) (t_isKept : Nat → Int) (t_images : Nat → Int) (t_now : Nat → Int) (x1 : Int) : Option (Int × Int × (Nat → Int)) :=
  (F_X12_in n x1 0 1).bind fun o1 =>
  ck (r4 o1) <|
  if o1 = 0 then
    some ((-1), t_deeds, t_now)
  else
    ck (ix_ x1 2) <|
    ck (r4 (t_isKept (x1).toNat)) <|
    if t_isKept (x1).toNat = 0 then
      some ((-2), t_deeds, t_now)
    else
      (F_X12_bring n 196 98 t_images t_now (98 * x1) 0).bind fun o5 =>
      some (o5 17, 0, o5)
def rm_X12_back : Room := { frames := 1, cells := 0, slots := 0, locals := 24 }
set_option maxHeartbeats 4000000 in
set_option maxRecDepth 100000 in
theorem k_X12_back {l : Launch} {D : va_G} {E : Nat → ClassId} (n : Nat) (a_t a_t_now a_t_read a_t_past a_t_images a_t_isKept a_t_text a_t_metAt a_t_memoryAt a_t_upAt a_t_downAt a_t_isSignal a_t_memories a_t_placeOf a_t_nextPlace a_t_kindOf a_t_newKind a_t_stateOfKind a_t_stateAt a_t_stepTo a_t_far a_t_ways a_t_nextWays a_t_table : Nat) (t_deeds : Int) (t_letters : Int) (t_at : Int) (t_tokenAt : Int) (t_tokenSort : Int) (t_tokenValue : Int) (t_items : Int) (t_isChanceTold : Int) (t_areSumsTold : Int) (t_places : Int) (t_kinds : Int) (t_states : Int) (t_isKept : Nat → Int) (t_images : Nat → Int) (t_now : Nat → Int) (x1 : Int) (res : Int × Int × (Nat → Int)) (hf : F_X12_back n t_deeds t_isKept t_images t_now x1 = some res) : MW l yX12_back (.code yX12_back cX12_back 2 (some .int)) rm_X12_back D E [.ref a_t, .int (z4 x1)] [(a_t, .inr (12, [.ref a_t_now, .ref a_t_read, .ref a_t_past, .int (z4 t_deeds), .ref a_t_images, .ref a_t_isKept, .ref a_t_text, .int (z4 t_letters), .int (z4 t_at), .int (z4 t_tokenAt), .int (z4 t_tokenSort), .int (z4 t_tokenValue), .int (z4 t_items), .int (z4 t_isChanceTold), .int (z4 t_areSumsTold), .ref a_t_metAt, .ref a_t_memoryAt, .ref a_t_upAt, .ref a_t_downAt, .ref a_t_isSignal, .ref a_t_memories, .ref a_t_placeOf, .ref a_t_nextPlace, .int (z4 t_places), .ref a_t_kindOf, .ref a_t_newKind, .int (z4 t_kinds), .ref a_t_stateOfKind, .ref a_t_stateAt, .ref a_t_stepTo, .int (z4 t_states), .ref a_t_far, .ref a_t_ways, .ref a_t_nextWays, .ref a_t_table])), (a_t_isKept, .inl (E 1, 2, .inl (A4 t_isKept))), (a_t_images, .inl (E 0, 196, .inl (A4 t_images))), (a_t_now, .inl (E 0, 98, .inl (A4 t_now)))] (some (.int (z4 res.1))) [(a_t, .inr (12, [.ref a_t_now, .ref a_t_read, .ref a_t_past, .int (z4 res.2.1), .ref a_t_images, .ref a_t_isKept, .ref a_t_text, .int (z4 t_letters), .int (z4 t_at), .int (z4 t_tokenAt), .int (z4 t_tokenSort), .int (z4 t_tokenValue), .int (z4 t_items), .int (z4 t_isChanceTold), .int (z4 t_areSumsTold), .ref a_t_metAt, .ref a_t_memoryAt, .ref a_t_upAt, .ref a_t_downAt, .ref a_t_isSignal, .ref a_t_memories, .ref a_t_placeOf, .ref a_t_nextPlace, .int (z4 t_places), .ref a_t_kindOf, .ref a_t_newKind, .int (z4 t_kinds), .ref a_t_stateOfKind, .ref a_t_stateAt, .ref a_t_stepTo, .int (z4 t_states), .ref a_t_far, .ref a_t_ways, .ref a_t_nextWays, .ref a_t_table])), (a_t_isKept, .inl (E 1, 2, .inl (A4 t_isKept))), (a_t_images, .inl (E 0, 196, .inl (A4 t_images))), (a_t_now, .inl (E 0, 98, .inl (A4 res.2.2)))] := by
  refine MWi (by decide) (Nat.le_of_ble_eq_true rfl) ?_
  intro p e s m args below meth c A Q X hK hP hD hA ret ls hl
  have hS : va_S A s.heap s.heap [] := va_S.rf
  have hx := X.1
  have hb := X.2.1
  have hl : lv_has ls 2 [(0, .ref a_t), (1, .int (z4 x1))] := hl
  unfold F_X12_back at hf
  refine lv_iload_n hx hb dX12_back_0 rfl (lv_at hl 1 rfl) ?_
  refine m_iconst X dX12_back_1 ?_
  refine m_iconst X dX12_back_2 ?_
  obtain ⟨o1, ho, hf⟩ := bd_some hf
  refine m_cSR X hK (k_X12_in n x1 0 1 o1 ho) (hP.sub (ws' := []) [] rfl) lk_X12_87 co_X12_in dy_X12_in rfl rfl ⟨Nat.le_of_ble_eq_true rfl, Nat.le_of_ble_eq_true rfl⟩ hl.1 rfl (Nat.le_of_ble_eq_true rfl) dX12_back_3 (Nat.zero_le _) (Nat.zero_le _) ?_
  obtain ⟨h2, hf⟩ := ck_some hf
  refine m_if_ne X h2 dX12_back_6 (tgt := 11) (by decide) (fun (hc_ : ¬ (o1 = 0)) => ?_) (fun (hc_ : o1 = 0) => ?_)
  · rw [if_neg hc_] at hf
    refine lv_aload_n hx hb dX12_back_11 rfl (lv_at hl 0 rfl) ?_
    refine m_get X hK hP cl_X12 iT_X12 5 (by decide) fl_X12_22 0 rfl rfl dX12_back_12 ?_
    refine lv_iload_n hx hb dX12_back_15 rfl (lv_at hl 1 rfl) ?_
    obtain ⟨h3, hf⟩ := ck_some hf
    refine m_zald X hK hP 1 rfl (by decide) h3 dX12_back_16 ?_
    obtain ⟨h4, hf⟩ := ck_some hf
    refine m_if_ne X h4 dX12_back_17 (tgt := 23) (by decide) (fun (hc_ : ¬ (t_isKept (x1).toNat = 0)) => ?_) (fun (hc_ : t_isKept (x1).toNat = 0) => ?_)
    · rw [if_neg hc_] at hf
      refine lv_aload_n hx hb dX12_back_23 rfl (lv_at hl 0 rfl) ?_
      refine m_get X hK hP cl_X12 iT_X12 4 (by decide) fl_X12_19 0 rfl rfl dX12_back_24 ?_
      refine m_bipush X dX12_back_27 (by decide) ?_
      refine lv_iload_n hx hb dX12_back_29 rfl (lv_at hl 1 rfl) ?_
      refine m_imul X dX12_back_30 ?_
      refine lv_aload_n hx hb dX12_back_31 rfl (lv_at hl 0 rfl) ?_
      refine m_get X hK hP cl_X12 iT_X12 0 (by decide) fl_X12_7 0 rfl rfl dX12_back_32 ?_
      refine m_iconst X dX12_back_35 ?_
      obtain ⟨o5, ho, hf⟩ := bd_some hf
      refine m_cSW X hK hP hD hS hA (wr := [(a_t, .inr (12, [.ref a_t_now, .ref a_t_read, .ref a_t_past, .int (z4 t_deeds), .ref a_t_images, .ref a_t_isKept, .ref a_t_text, .int (z4 t_letters), .int (z4 t_at), .int (z4 t_tokenAt), .int (z4 t_tokenSort), .int (z4 t_tokenValue), .int (z4 t_items), .int (z4 t_isChanceTold), .int (z4 t_areSumsTold), .ref a_t_metAt, .ref a_t_memoryAt, .ref a_t_upAt, .ref a_t_downAt, .ref a_t_isSignal, .ref a_t_memories, .ref a_t_placeOf, .ref a_t_nextPlace, .int (z4 t_places), .ref a_t_kindOf, .ref a_t_newKind, .int (z4 t_kinds), .ref a_t_stateOfKind, .ref a_t_stateAt, .ref a_t_stepTo, .int (z4 t_states), .ref a_t_far, .ref a_t_ways, .ref a_t_nextWays, .ref a_t_table])), (a_t_isKept, .inl (E 1, 2, .inl (A4 t_isKept)))]) (k_X12_bring n a_t_images a_t_now 196 98 (by decide) (by decide) t_images t_now (98 * x1) 0 o5 ho) [2, 3] [0, 1] [0, 1, 2, 3] [(a_t, .inr (12, [.ref a_t_now, .ref a_t_read, .ref a_t_past, .int (z4 t_deeds), .ref a_t_images, .ref a_t_isKept, .ref a_t_text, .int (z4 t_letters), .int (z4 t_at), .int (z4 t_tokenAt), .int (z4 t_tokenSort), .int (z4 t_tokenValue), .int (z4 t_items), .int (z4 t_isChanceTold), .int (z4 t_areSumsTold), .ref a_t_metAt, .ref a_t_memoryAt, .ref a_t_upAt, .ref a_t_downAt, .ref a_t_isSignal, .ref a_t_memories, .ref a_t_placeOf, .ref a_t_nextPlace, .int (z4 t_places), .ref a_t_kindOf, .ref a_t_newKind, .int (z4 t_kinds), .ref a_t_stateOfKind, .ref a_t_stateAt, .ref a_t_stepTo, .int (z4 t_states), .ref a_t_far, .ref a_t_ways, .ref a_t_nextWays, .ref a_t_table])), (a_t_isKept, .inl (E 1, 2, .inl (A4 t_isKept))), (a_t_images, .inl (E 0, 196, .inl (A4 t_images))), (a_t_now, .inl (E 0, 98, .inl (A4 o5)))] rfl rfl rfl rfl (by decide) rfl rfl lk_X12_165 co_X12_bring dy_X12_bring rfl rfl ⟨Nat.le_of_ble_eq_true rfl, Nat.le_of_ble_eq_true rfl⟩ hl.1 rfl (Nat.le_of_ble_eq_true rfl) dX12_back_36 (Nat.zero_le _) (Nat.zero_le _) (fun H locs hP hD hS => ?_)
      refine lv_aload_n hx hb dX12_back_39 rfl (lv_at hl 0 rfl) ?_
      refine m_iconst X dX12_back_40 ?_
      refine m_put X hK hP hD hS cl_X12 iT_X12 tyX12 tyX12_ok nmX12 3 (by decide) fl_X12_162 rfl 0 rfl rfl rfl (Nat.le_of_ble_eq_true rfl) [(a_t, .inr (12, [.ref a_t_now, .ref a_t_read, .ref a_t_past, .int (z4 0), .ref a_t_images, .ref a_t_isKept, .ref a_t_text, .int (z4 t_letters), .int (z4 t_at), .int (z4 t_tokenAt), .int (z4 t_tokenSort), .int (z4 t_tokenValue), .int (z4 t_items), .int (z4 t_isChanceTold), .int (z4 t_areSumsTold), .ref a_t_metAt, .ref a_t_memoryAt, .ref a_t_upAt, .ref a_t_downAt, .ref a_t_isSignal, .ref a_t_memories, .ref a_t_placeOf, .ref a_t_nextPlace, .int (z4 t_places), .ref a_t_kindOf, .ref a_t_newKind, .int (z4 t_kinds), .ref a_t_stateOfKind, .ref a_t_stateAt, .ref a_t_stepTo, .int (z4 t_states), .ref a_t_far, .ref a_t_ways, .ref a_t_nextWays, .ref a_t_table])), (a_t_isKept, .inl (E 1, 2, .inl (A4 t_isKept))), (a_t_images, .inl (E 0, 196, .inl (A4 t_images))), (a_t_now, .inl (E 0, 98, .inl (A4 o5)))] rfl dX12_back_41 (fun H locs hP hD hS => ?_)
      refine lv_aload_n hx hb dX12_back_44 rfl (lv_at hl 0 rfl) ?_
      refine m_get X hK hP cl_X12 iT_X12 0 (by decide) fl_X12_7 0 rfl rfl dX12_back_45 ?_
      refine m_bipush X dX12_back_48 (by decide) ?_
      refine m_iald X hK hP 3 rfl (by decide) (by decide) dX12_back_50 ?_
      obtain rfl := Option.some.inj hf
      exact ret _ _ _ _ hP hD hS dX12_back_51
    · rw [if_pos hc_] at hf
      refine m_bipush X dX12_back_20 (by decide) ?_
      obtain rfl := Option.some.inj hf
      exact ret _ _ _ _ hP hD hS dX12_back_22
  · rw [if_pos hc_] at hf
    refine m_iconst X dX12_back_9 ?_
    obtain rfl := Option.some.inj hf
    exact ret _ _ _ _ hP hD hS dX12_back_10
def F_X12_rule (n : Nat)  (t_now : Nat → Int) (x1 : Int) (x2 : Int) : Option (Int) :=
  (F_X12_in n x1 0 ((t_now 0) - 1)).bind fun o1 =>
  Option.bind (α := Int) (
    ck (r4 o1) <|
    if o1 = 0 then
      some (-1)
    else
      (F_X12_in n x2 0 2).bind fun o4 =>
      ck (r4 o4) <|
      if o4 = 0 then
        some (-1)
      else
        ck (ix_ ((1 + (3 * x1)) + x2) 98) <|
        some (t_now ((1 + (3 * x1)) + x2).toNat)) fun o2 =>
  some o2
def rm_X12_rule : Room := { frames := 1, cells := 0, slots := 0, locals := 22 }
set_option maxHeartbeats 4000000 in
set_option maxRecDepth 100000 in
theorem k_X12_rule {l : Launch} {D : va_G} {E : Nat → ClassId} (n : Nat) (a_t a_t_now a_t_read a_t_past a_t_images a_t_isKept a_t_text a_t_metAt a_t_memoryAt a_t_upAt a_t_downAt a_t_isSignal a_t_memories a_t_placeOf a_t_nextPlace a_t_kindOf a_t_newKind a_t_stateOfKind a_t_stateAt a_t_stepTo a_t_far a_t_ways a_t_nextWays a_t_table : Nat) (t_deeds : Int) (t_letters : Int) (t_at : Int) (t_tokenAt : Int) (t_tokenSort : Int) (t_tokenValue : Int) (t_items : Int) (t_isChanceTold : Int) (t_areSumsTold : Int) (t_places : Int) (t_kinds : Int) (t_states : Int) (t_now : Nat → Int) (x1 : Int) (x2 : Int) (res : Int) (hf : F_X12_rule n t_now x1 x2 = some res) : MR l yX12_rule (.code yX12_rule cX12_rule 3 (some .int)) rm_X12_rule D E [.ref a_t, .int (z4 x1), .int (z4 x2)] [(a_t, .inr (12, [.ref a_t_now, .ref a_t_read, .ref a_t_past, .int (z4 t_deeds), .ref a_t_images, .ref a_t_isKept, .ref a_t_text, .int (z4 t_letters), .int (z4 t_at), .int (z4 t_tokenAt), .int (z4 t_tokenSort), .int (z4 t_tokenValue), .int (z4 t_items), .int (z4 t_isChanceTold), .int (z4 t_areSumsTold), .ref a_t_metAt, .ref a_t_memoryAt, .ref a_t_upAt, .ref a_t_downAt, .ref a_t_isSignal, .ref a_t_memories, .ref a_t_placeOf, .ref a_t_nextPlace, .int (z4 t_places), .ref a_t_kindOf, .ref a_t_newKind, .int (z4 t_kinds), .ref a_t_stateOfKind, .ref a_t_stateAt, .ref a_t_stepTo, .int (z4 t_states), .ref a_t_far, .ref a_t_ways, .ref a_t_nextWays, .ref a_t_table])), (a_t_now, .inl (E 0, 98, .inl (A4 t_now)))] (some (.int (z4 res))) := by
  refine MRi (by decide) (Nat.le_of_ble_eq_true rfl) ?_
  intro p e s m args below meth c Q X hK hP ret ls hl
  have hx := X.1
  have hb := X.2.1
  have hl : lv_has ls 3 [(0, .ref a_t), (1, .int (z4 x1)), (2, .int (z4 x2))] := hl
  unfold F_X12_rule at hf
  refine lv_iload_n hx hb dX12_rule_0 rfl (lv_at hl 1 rfl) ?_
  refine m_iconst X dX12_rule_1 ?_
  refine lv_aload_n hx hb dX12_rule_2 rfl (lv_at hl 0 rfl) ?_
  refine m_get X hK hP cl_X12 iT_X12 0 (by decide) fl_X12_7 0 rfl rfl dX12_rule_3 ?_
  refine m_iconst X dX12_rule_6 ?_
  refine m_iald X hK hP 1 rfl (by decide) (by decide) dX12_rule_7 ?_
  refine m_iconst X dX12_rule_8 ?_
  refine m_isub X dX12_rule_9 ?_
  obtain ⟨o1, ho, hf⟩ := bd_some hf
  refine m_cSR X hK (k_X12_in n x1 0 ((t_now 0) - 1) o1 ho) (hP.sub (ws' := []) [] rfl) lk_X12_87 co_X12_in dy_X12_in rfl rfl ⟨Nat.le_of_ble_eq_true rfl, Nat.le_of_ble_eq_true rfl⟩ hl.1 rfl (Nat.le_of_ble_eq_true rfl) dX12_rule_10 (Nat.zero_le _) (Nat.zero_le _) ?_
  obtain ⟨o2, hj2, hr2⟩ := bd_some hf
  have J2 : ∀ (o_ : Int), o2 = o_ → ∀ (ls : Array Slot), lv_has ls 3 [] → W p l e rm_X12_rule s m args below meth c s.heap [] 0 0 Q (F0 m 41 ls [.int (z4 o_)]) := by
    intro o_ ho_ ls hl 
    subst ho_
    obtain rfl := Option.some.inj hr2
    exact ret _ _ dX12_rule_41
  obtain ⟨h3, hj2⟩ := ck_some hj2
  refine m_if_eq X h3 dX12_rule_13 (tgt := 40) (by decide) (fun (hc_ : o1 = 0) => ?_) (fun (hc_ : ¬ (o1 = 0)) => ?_)
  · rw [if_pos hc_] at hj2
    refine m_iconst X dX12_rule_40 ?_
    exact J2 _ (Option.some.inj hj2).symm _ (lv_sub hl [] rfl) 
  · rw [if_neg hc_] at hj2
    refine lv_iload_n hx hb dX12_rule_16 rfl (lv_at hl 2 rfl) ?_
    refine m_iconst X dX12_rule_17 ?_
    refine m_iconst X dX12_rule_18 ?_
    obtain ⟨o4, ho, hj2⟩ := bd_some hj2
    refine m_cSR X hK (k_X12_in n x2 0 2 o4 ho) (hP.sub (ws' := []) [] rfl) lk_X12_87 co_X12_in dy_X12_in rfl rfl ⟨Nat.le_of_ble_eq_true rfl, Nat.le_of_ble_eq_true rfl⟩ hl.1 rfl (Nat.le_of_ble_eq_true rfl) dX12_rule_19 (Nat.zero_le _) (Nat.zero_le _) ?_
    obtain ⟨h5, hj2⟩ := ck_some hj2
    refine m_if_eq X h5 dX12_rule_22 (tgt := 40) (by decide) (fun (hc_ : o4 = 0) => ?_) (fun (hc_ : ¬ (o4 = 0)) => ?_)
    · rw [if_pos hc_] at hj2
      refine m_iconst X dX12_rule_40 ?_
      exact J2 _ (Option.some.inj hj2).symm _ (lv_sub hl [] rfl) 
    · rw [if_neg hc_] at hj2
      refine lv_aload_n hx hb dX12_rule_25 rfl (lv_at hl 0 rfl) ?_
      refine m_get X hK hP cl_X12 iT_X12 0 (by decide) fl_X12_7 0 rfl rfl dX12_rule_26 ?_
      refine m_iconst X dX12_rule_29 ?_
      refine m_iconst X dX12_rule_30 ?_
      refine lv_iload_n hx hb dX12_rule_31 rfl (lv_at hl 1 rfl) ?_
      refine m_imul X dX12_rule_32 ?_
      refine m_iadd X dX12_rule_33 ?_
      refine lv_iload_n hx hb dX12_rule_34 rfl (lv_at hl 2 rfl) ?_
      refine m_iadd X dX12_rule_35 ?_
      obtain ⟨h6, hj2⟩ := ck_some hj2
      refine m_iald X hK hP 1 rfl (by decide) h6 dX12_rule_36 ?_
      refine lv_goto (tgt := 41) hx hb dX12_rule_37 (by decide) ?_
      exact J2 _ (Option.some.inj hj2).symm _ (lv_sub hl [] rfl) 
def F_X12_chance (n : Nat)  (t_now : Nat → Int) (x1 : Int) : Option (Int) :=
  (F_X12_isSign n x1).bind fun o1 =>
  Option.bind (α := Int) (
    ck (r4 o1) <|
    if o1 = 0 then
      some (-1)
    else
      ck (ix_ (10 + x1) 98) <|
      some (t_now (10 + x1).toNat)) fun o2 =>
  some o2
def rm_X12_chance : Room := { frames := 2, cells := 0, slots := 0, locals := 42 }
set_option maxHeartbeats 4000000 in
set_option maxRecDepth 100000 in
theorem k_X12_chance {l : Launch} {D : va_G} {E : Nat → ClassId} (n : Nat) (a_t a_t_now a_t_read a_t_past a_t_images a_t_isKept a_t_text a_t_metAt a_t_memoryAt a_t_upAt a_t_downAt a_t_isSignal a_t_memories a_t_placeOf a_t_nextPlace a_t_kindOf a_t_newKind a_t_stateOfKind a_t_stateAt a_t_stepTo a_t_far a_t_ways a_t_nextWays a_t_table : Nat) (t_deeds : Int) (t_letters : Int) (t_at : Int) (t_tokenAt : Int) (t_tokenSort : Int) (t_tokenValue : Int) (t_items : Int) (t_isChanceTold : Int) (t_areSumsTold : Int) (t_places : Int) (t_kinds : Int) (t_states : Int) (t_now : Nat → Int) (x1 : Int) (res : Int) (hf : F_X12_chance n t_now x1 = some res) : MR l yX12_chance (.code yX12_chance cX12_chance 2 (some .int)) rm_X12_chance D E [.ref a_t, .int (z4 x1)] [(a_t, .inr (12, [.ref a_t_now, .ref a_t_read, .ref a_t_past, .int (z4 t_deeds), .ref a_t_images, .ref a_t_isKept, .ref a_t_text, .int (z4 t_letters), .int (z4 t_at), .int (z4 t_tokenAt), .int (z4 t_tokenSort), .int (z4 t_tokenValue), .int (z4 t_items), .int (z4 t_isChanceTold), .int (z4 t_areSumsTold), .ref a_t_metAt, .ref a_t_memoryAt, .ref a_t_upAt, .ref a_t_downAt, .ref a_t_isSignal, .ref a_t_memories, .ref a_t_placeOf, .ref a_t_nextPlace, .int (z4 t_places), .ref a_t_kindOf, .ref a_t_newKind, .int (z4 t_kinds), .ref a_t_stateOfKind, .ref a_t_stateAt, .ref a_t_stepTo, .int (z4 t_states), .ref a_t_far, .ref a_t_ways, .ref a_t_nextWays, .ref a_t_table])), (a_t_now, .inl (E 0, 98, .inl (A4 t_now)))] (some (.int (z4 res))) := by
  refine MRi (by decide) (Nat.le_of_ble_eq_true rfl) ?_
  intro p e s m args below meth c Q X hK hP ret ls hl
  have hx := X.1
  have hb := X.2.1
  have hl : lv_has ls 2 [(0, .ref a_t), (1, .int (z4 x1))] := hl
  unfold F_X12_chance at hf
  refine lv_iload_n hx hb dX12_chance_0 rfl (lv_at hl 1 rfl) ?_
  obtain ⟨o1, ho, hf⟩ := bd_some hf
  refine m_cSR X hK (k_X12_isSign n x1 o1 ho) (hP.sub (ws' := []) [] rfl) lk_X12_169 co_X12_isSign dy_X12_isSign rfl rfl ⟨Nat.le_of_ble_eq_true rfl, Nat.le_of_ble_eq_true rfl⟩ hl.1 rfl (Nat.le_of_ble_eq_true rfl) dX12_chance_1 (Nat.zero_le _) (Nat.zero_le _) ?_
  obtain ⟨o2, hj2, hr2⟩ := bd_some hf
  have J2 : ∀ (o_ : Int), o2 = o_ → ∀ (ls : Array Slot), lv_has ls 2 [] → W p l e rm_X12_chance s m args below meth c s.heap [] 0 0 Q (F0 m 20 ls [.int (z4 o_)]) := by
    intro o_ ho_ ls hl 
    subst ho_
    obtain rfl := Option.some.inj hr2
    exact ret _ _ dX12_chance_20
  obtain ⟨h3, hj2⟩ := ck_some hj2
  refine m_if_eq X h3 dX12_chance_4 (tgt := 19) (by decide) (fun (hc_ : o1 = 0) => ?_) (fun (hc_ : ¬ (o1 = 0)) => ?_)
  · rw [if_pos hc_] at hj2
    refine m_iconst X dX12_chance_19 ?_
    exact J2 _ (Option.some.inj hj2).symm _ (lv_sub hl [] rfl) 
  · rw [if_neg hc_] at hj2
    refine lv_aload_n hx hb dX12_chance_7 rfl (lv_at hl 0 rfl) ?_
    refine m_get X hK hP cl_X12 iT_X12 0 (by decide) fl_X12_7 0 rfl rfl dX12_chance_8 ?_
    refine m_bipush X dX12_chance_11 (by decide) ?_
    refine lv_iload_n hx hb dX12_chance_13 rfl (lv_at hl 1 rfl) ?_
    refine m_iadd X dX12_chance_14 ?_
    obtain ⟨h4, hj2⟩ := ck_some hj2
    refine m_iald X hK hP 1 rfl (by decide) h4 dX12_chance_15 ?_
    refine lv_goto (tgt := 20) hx hb dX12_chance_16 (by decide) ?_
    exact J2 _ (Option.some.inj hj2).symm _ (lv_sub hl [] rfl) 
