def F_X12_in (n : Nat)   (x0 : Int) (x1 : Int) (x2 : Int) : Option (Int) :=
  Option.bind (α := Int) (
    ck (r4 x0 ∧ r4 x1) <|
    if x0 < x1 then
      some 0
    else
      ck (r4 x0 ∧ r4 x2) <|
      if x2 < x0 then
        some 0
      else
        some 1) fun o1 =>
  ck (o1 = 0 ∨ o1 = 1) <|
  some o1
def rm_X12_in : Room := { frames := 0, cells := 0, slots := 0, locals := 0 }
set_option maxHeartbeats 4000000 in
set_option maxRecDepth 100000 in
theorem k_X12_in {l : Launch} {D : va_G} {E : Nat → ClassId} (n : Nat) (x0 : Int) (x1 : Int) (x2 : Int) (res : Int) (hf : F_X12_in n x0 x1 x2 = some res) : MR l yX12_in (.code yX12_in cX12_in 3 (some .boolean)) rm_X12_in D E [.int (z4 x0), .int (z4 x1), .int (z4 x2)] [] (some (.int (z4 res))) := by
  refine MRz (by decide) (Nat.le_of_ble_eq_true rfl) ?_
  intro p e s m args below meth c Q X hK hP ret ls hl
  have hx := X.1
  have hb := X.2.1
  have hl : lv_has ls 3 [(0, .int (z4 x0)), (1, .int (z4 x1)), (2, .int (z4 x2))] := hl
  unfold F_X12_in at hf
  refine lv_iload_n hx hb dX12_in_0 rfl (lv_at hl 0 rfl) ?_
  refine lv_iload_n hx hb dX12_in_1 rfl (lv_at hl 1 rfl) ?_
  obtain ⟨o1, hj1, hr1⟩ := bd_some hf
  have J1 : ∀ (o_ : Int), o1 = o_ → ∀ (ls : Array Slot), lv_has ls 3 [] → W p l e rm_X12_in s m args below meth c s.heap [] 0 0 Q (F0 m 15 ls [.int (z4 o_)]) := by
    intro o_ ho_ ls hl 
    subst ho_
    obtain ⟨h4, hr1⟩ := ck_some hr1
    obtain rfl := Option.some.inj hr1
    exact ret _ _ h4 dX12_in_15
  obtain ⟨h2, hj1⟩ := ck_some hj1
  refine m_icmp_lt X h2 dX12_in_2 (tgt := 14) (by decide) (fun (hc_ : x0 < x1) => ?_) (fun (hc_ : ¬ (x0 < x1)) => ?_)
  · rw [if_pos hc_] at hj1
    refine m_iconst X dX12_in_14 ?_
    exact J1 _ (Option.some.inj hj1).symm _ (lv_sub hl [] rfl) 
  · rw [if_neg hc_] at hj1
    refine lv_iload_n hx hb dX12_in_5 rfl (lv_at hl 0 rfl) ?_
    refine lv_iload_n hx hb dX12_in_6 rfl (lv_at hl 2 rfl) ?_
    obtain ⟨h3, hj1⟩ := ck_some hj1
    refine m_icmp_gt X h3 dX12_in_7 (tgt := 14) (by decide) (fun (hc_ : x2 < x0) => ?_) (fun (hc_ : ¬ (x2 < x0)) => ?_)
    · rw [if_pos hc_] at hj1
      refine m_iconst X dX12_in_14 ?_
      exact J1 _ (Option.some.inj hj1).symm _ (lv_sub hl [] rfl) 
    · rw [if_neg hc_] at hj1
      refine m_iconst X dX12_in_10 ?_
      refine lv_goto (tgt := 15) hx hb dX12_in_11 (by decide) ?_
      exact J1 _ (Option.some.inj hj1).symm _ (lv_sub hl [] rfl) 
def F_X12_begin_L2 (n : Nat) (v2_1 : Int) (t_read_l2 : Nat → Int) : Option ((Int × (Nat → Int)) ⊕ ((Nat → Int))) :=
  ck (r4 v2_1) <|
  if v2_1 < 17 then
    ck (ix_ v2_1 98) <|
    some (.inl (v2_1 + 1, up_ t_read_l2 (v2_1).toNat 0))
  else
    some (.inr t_read_l2)
def F_X12_begin (n : Nat)  (t_read : Nat → Int)  : Option ((Nat → Int)) :=
  (lp_ (fun (q : Int × (Nat → Int)) => F_X12_begin_L2 n q.1 q.2) n (0, t_read)).bind fun o1 =>
  some (up_ (up_ (up_ (up_ (up_ (up_ (up_ o1 10 1) 11 2) 12 4) 13 2) 14 1) 15 1) 16 4)
def rm_X12_begin : Room := { frames := 0, cells := 0, slots := 0, locals := 0 }
set_option maxHeartbeats 4000000 in
set_option maxRecDepth 100000 in
theorem k_X12_begin {l : Launch} {D : va_G} {E : Nat → ClassId} (n : Nat) (a_t a_t_now a_t_read a_t_past a_t_images a_t_isKept a_t_text a_t_metAt a_t_memoryAt a_t_upAt a_t_downAt a_t_isSignal a_t_memories a_t_placeOf a_t_nextPlace a_t_kindOf a_t_newKind a_t_stateOfKind a_t_stateAt a_t_stepTo a_t_far a_t_ways a_t_nextWays a_t_table : Nat) (t_deeds : Int) (t_letters : Int) (t_at : Int) (t_tokenAt : Int) (t_tokenSort : Int) (t_tokenValue : Int) (t_items : Int) (t_isChanceTold : Int) (t_areSumsTold : Int) (t_places : Int) (t_kinds : Int) (t_states : Int) (t_read : Nat → Int) (res : (Nat → Int)) (hf : F_X12_begin n t_read = some res) : MW l yX12_begin (.code yX12_begin cX12_begin 2 none) rm_X12_begin D E [.ref a_t] [(a_t, .inr (12, [.ref a_t_now, .ref a_t_read, .ref a_t_past, .int (z4 t_deeds), .ref a_t_images, .ref a_t_isKept, .ref a_t_text, .int (z4 t_letters), .int (z4 t_at), .int (z4 t_tokenAt), .int (z4 t_tokenSort), .int (z4 t_tokenValue), .int (z4 t_items), .int (z4 t_isChanceTold), .int (z4 t_areSumsTold), .ref a_t_metAt, .ref a_t_memoryAt, .ref a_t_upAt, .ref a_t_downAt, .ref a_t_isSignal, .ref a_t_memories, .ref a_t_placeOf, .ref a_t_nextPlace, .int (z4 t_places), .ref a_t_kindOf, .ref a_t_newKind, .int (z4 t_kinds), .ref a_t_stateOfKind, .ref a_t_stateAt, .ref a_t_stepTo, .int (z4 t_states), .ref a_t_far, .ref a_t_ways, .ref a_t_nextWays, .ref a_t_table])), (a_t_read, .inl (E 0, 98, .inl (A4 t_read)))] none [(a_t, .inr (12, [.ref a_t_now, .ref a_t_read, .ref a_t_past, .int (z4 t_deeds), .ref a_t_images, .ref a_t_isKept, .ref a_t_text, .int (z4 t_letters), .int (z4 t_at), .int (z4 t_tokenAt), .int (z4 t_tokenSort), .int (z4 t_tokenValue), .int (z4 t_items), .int (z4 t_isChanceTold), .int (z4 t_areSumsTold), .ref a_t_metAt, .ref a_t_memoryAt, .ref a_t_upAt, .ref a_t_downAt, .ref a_t_isSignal, .ref a_t_memories, .ref a_t_placeOf, .ref a_t_nextPlace, .int (z4 t_places), .ref a_t_kindOf, .ref a_t_newKind, .int (z4 t_kinds), .ref a_t_stateOfKind, .ref a_t_stateAt, .ref a_t_stepTo, .int (z4 t_states), .ref a_t_far, .ref a_t_ways, .ref a_t_nextWays, .ref a_t_table])), (a_t_read, .inl (E 0, 98, .inl (A4 res)))] := by
  refine MWv (by decide) (Nat.le_of_ble_eq_true rfl) ?_
  intro p e s m args below meth c A Q X hK hP hD hA ret ls hl
  have hS : va_S A s.heap s.heap [] := va_S.rf
  have hx := X.1
  have hb := X.2.1
  have hl : lv_has ls 2 [(0, .ref a_t)] := hl
  unfold F_X12_begin at hf
  refine m_iconst X dX12_begin_0 ?_
  refine lv_istore_n (lv' := [(1, .int (z4 0)), (0, .ref a_t)]) hx hb dX12_begin_1 rfl hl (by decide) rfl (fun ls hl => ?_)
  obtain ⟨o1, hj1, hr1⟩ := bd_some hf
  have E1_0 : ∀ (o_ : (Nat → Int)), o1 = o_ → ∀ (H : Heap) (locs : List Loc) (ls : Array Slot), lv_has ls 2 [(0, .ref a_t)] → va_P D vwCl [(a_t, .inr (12, [.ref a_t_now, .ref a_t_read, .ref a_t_past, .int (z4 t_deeds), .ref a_t_images, .ref a_t_isKept, .ref a_t_text, .int (z4 t_letters), .int (z4 t_at), .int (z4 t_tokenAt), .int (z4 t_tokenSort), .int (z4 t_tokenValue), .int (z4 t_items), .int (z4 t_isChanceTold), .int (z4 t_areSumsTold), .ref a_t_metAt, .ref a_t_memoryAt, .ref a_t_upAt, .ref a_t_downAt, .ref a_t_isSignal, .ref a_t_memories, .ref a_t_placeOf, .ref a_t_nextPlace, .int (z4 t_places), .ref a_t_kindOf, .ref a_t_newKind, .int (z4 t_kinds), .ref a_t_stateOfKind, .ref a_t_stateAt, .ref a_t_stepTo, .int (z4 t_states), .ref a_t_far, .ref a_t_ways, .ref a_t_nextWays, .ref a_t_table])), (a_t_read, .inl (E 0, 98, .inl (A4 o_)))] H → va_D A [(a_t, .inr (12, [.ref a_t_now, .ref a_t_read, .ref a_t_past, .int (z4 t_deeds), .ref a_t_images, .ref a_t_isKept, .ref a_t_text, .int (z4 t_letters), .int (z4 t_at), .int (z4 t_tokenAt), .int (z4 t_tokenSort), .int (z4 t_tokenValue), .int (z4 t_items), .int (z4 t_isChanceTold), .int (z4 t_areSumsTold), .ref a_t_metAt, .ref a_t_memoryAt, .ref a_t_upAt, .ref a_t_downAt, .ref a_t_isSignal, .ref a_t_memories, .ref a_t_placeOf, .ref a_t_nextPlace, .int (z4 t_places), .ref a_t_kindOf, .ref a_t_newKind, .int (z4 t_kinds), .ref a_t_stateOfKind, .ref a_t_stateAt, .ref a_t_stepTo, .int (z4 t_states), .ref a_t_far, .ref a_t_ways, .ref a_t_nextWays, .ref a_t_table])), (a_t_read, .inl (E 0, 98, .inl (A4 o_)))] → va_S A s.heap H locs → W p l e rm_X12_begin s m args below meth c H locs 0 0 Q (F0 m 21 ls []) := by
    intro o_ ho_ H locs ls hl hP hD hS
    subst ho_
    refine lv_aload_n hx hb dX12_begin_21 rfl (lv_at hl 0 rfl) ?_
    refine m_get X hK hP cl_X12 iT_X12 1 (by decide) fl_X12_13 0 rfl rfl dX12_begin_22 ?_
    refine m_bipush X dX12_begin_25 (by decide) ?_
    refine m_iconst X dX12_begin_27 ?_
    refine m_iast X hK hP hD hS 1 rfl (by decide) (by decide) [(a_t, .inr (12, [.ref a_t_now, .ref a_t_read, .ref a_t_past, .int (z4 t_deeds), .ref a_t_images, .ref a_t_isKept, .ref a_t_text, .int (z4 t_letters), .int (z4 t_at), .int (z4 t_tokenAt), .int (z4 t_tokenSort), .int (z4 t_tokenValue), .int (z4 t_items), .int (z4 t_isChanceTold), .int (z4 t_areSumsTold), .ref a_t_metAt, .ref a_t_memoryAt, .ref a_t_upAt, .ref a_t_downAt, .ref a_t_isSignal, .ref a_t_memories, .ref a_t_placeOf, .ref a_t_nextPlace, .int (z4 t_places), .ref a_t_kindOf, .ref a_t_newKind, .int (z4 t_kinds), .ref a_t_stateOfKind, .ref a_t_stateAt, .ref a_t_stepTo, .int (z4 t_states), .ref a_t_far, .ref a_t_ways, .ref a_t_nextWays, .ref a_t_table])), (a_t_read, .inl (E 0, 98, .inl (A4 (up_ o1 10 1))))] rfl dX12_begin_28 (fun H locs hP hD hS => ?_)
    refine lv_aload_n hx hb dX12_begin_29 rfl (lv_at hl 0 rfl) ?_
    refine m_get X hK hP cl_X12 iT_X12 1 (by decide) fl_X12_13 0 rfl rfl dX12_begin_30 ?_
    refine m_bipush X dX12_begin_33 (by decide) ?_
    refine m_iconst X dX12_begin_35 ?_
    refine m_iast X hK hP hD hS 1 rfl (by decide) (by decide) [(a_t, .inr (12, [.ref a_t_now, .ref a_t_read, .ref a_t_past, .int (z4 t_deeds), .ref a_t_images, .ref a_t_isKept, .ref a_t_text, .int (z4 t_letters), .int (z4 t_at), .int (z4 t_tokenAt), .int (z4 t_tokenSort), .int (z4 t_tokenValue), .int (z4 t_items), .int (z4 t_isChanceTold), .int (z4 t_areSumsTold), .ref a_t_metAt, .ref a_t_memoryAt, .ref a_t_upAt, .ref a_t_downAt, .ref a_t_isSignal, .ref a_t_memories, .ref a_t_placeOf, .ref a_t_nextPlace, .int (z4 t_places), .ref a_t_kindOf, .ref a_t_newKind, .int (z4 t_kinds), .ref a_t_stateOfKind, .ref a_t_stateAt, .ref a_t_stepTo, .int (z4 t_states), .ref a_t_far, .ref a_t_ways, .ref a_t_nextWays, .ref a_t_table])), (a_t_read, .inl (E 0, 98, .inl (A4 (up_ (up_ o1 10 1) 11 2))))] rfl dX12_begin_36 (fun H locs hP hD hS => ?_)
    refine lv_aload_n hx hb dX12_begin_37 rfl (lv_at hl 0 rfl) ?_
    refine m_get X hK hP cl_X12 iT_X12 1 (by decide) fl_X12_13 0 rfl rfl dX12_begin_38 ?_
    refine m_bipush X dX12_begin_41 (by decide) ?_
    refine m_iconst X dX12_begin_43 ?_
    refine m_iast X hK hP hD hS 1 rfl (by decide) (by decide) [(a_t, .inr (12, [.ref a_t_now, .ref a_t_read, .ref a_t_past, .int (z4 t_deeds), .ref a_t_images, .ref a_t_isKept, .ref a_t_text, .int (z4 t_letters), .int (z4 t_at), .int (z4 t_tokenAt), .int (z4 t_tokenSort), .int (z4 t_tokenValue), .int (z4 t_items), .int (z4 t_isChanceTold), .int (z4 t_areSumsTold), .ref a_t_metAt, .ref a_t_memoryAt, .ref a_t_upAt, .ref a_t_downAt, .ref a_t_isSignal, .ref a_t_memories, .ref a_t_placeOf, .ref a_t_nextPlace, .int (z4 t_places), .ref a_t_kindOf, .ref a_t_newKind, .int (z4 t_kinds), .ref a_t_stateOfKind, .ref a_t_stateAt, .ref a_t_stepTo, .int (z4 t_states), .ref a_t_far, .ref a_t_ways, .ref a_t_nextWays, .ref a_t_table])), (a_t_read, .inl (E 0, 98, .inl (A4 (up_ (up_ (up_ o1 10 1) 11 2) 12 4))))] rfl dX12_begin_44 (fun H locs hP hD hS => ?_)
    refine lv_aload_n hx hb dX12_begin_45 rfl (lv_at hl 0 rfl) ?_
    refine m_get X hK hP cl_X12 iT_X12 1 (by decide) fl_X12_13 0 rfl rfl dX12_begin_46 ?_
    refine m_bipush X dX12_begin_49 (by decide) ?_
    refine m_iconst X dX12_begin_51 ?_
    refine m_iast X hK hP hD hS 1 rfl (by decide) (by decide) [(a_t, .inr (12, [.ref a_t_now, .ref a_t_read, .ref a_t_past, .int (z4 t_deeds), .ref a_t_images, .ref a_t_isKept, .ref a_t_text, .int (z4 t_letters), .int (z4 t_at), .int (z4 t_tokenAt), .int (z4 t_tokenSort), .int (z4 t_tokenValue), .int (z4 t_items), .int (z4 t_isChanceTold), .int (z4 t_areSumsTold), .ref a_t_metAt, .ref a_t_memoryAt, .ref a_t_upAt, .ref a_t_downAt, .ref a_t_isSignal, .ref a_t_memories, .ref a_t_placeOf, .ref a_t_nextPlace, .int (z4 t_places), .ref a_t_kindOf, .ref a_t_newKind, .int (z4 t_kinds), .ref a_t_stateOfKind, .ref a_t_stateAt, .ref a_t_stepTo, .int (z4 t_states), .ref a_t_far, .ref a_t_ways, .ref a_t_nextWays, .ref a_t_table])), (a_t_read, .inl (E 0, 98, .inl (A4 (up_ (up_ (up_ (up_ o1 10 1) 11 2) 12 4) 13 2))))] rfl dX12_begin_52 (fun H locs hP hD hS => ?_)
    refine lv_aload_n hx hb dX12_begin_53 rfl (lv_at hl 0 rfl) ?_
    refine m_get X hK hP cl_X12 iT_X12 1 (by decide) fl_X12_13 0 rfl rfl dX12_begin_54 ?_
    refine m_bipush X dX12_begin_57 (by decide) ?_
    refine m_iconst X dX12_begin_59 ?_
    refine m_iast X hK hP hD hS 1 rfl (by decide) (by decide) [(a_t, .inr (12, [.ref a_t_now, .ref a_t_read, .ref a_t_past, .int (z4 t_deeds), .ref a_t_images, .ref a_t_isKept, .ref a_t_text, .int (z4 t_letters), .int (z4 t_at), .int (z4 t_tokenAt), .int (z4 t_tokenSort), .int (z4 t_tokenValue), .int (z4 t_items), .int (z4 t_isChanceTold), .int (z4 t_areSumsTold), .ref a_t_metAt, .ref a_t_memoryAt, .ref a_t_upAt, .ref a_t_downAt, .ref a_t_isSignal, .ref a_t_memories, .ref a_t_placeOf, .ref a_t_nextPlace, .int (z4 t_places), .ref a_t_kindOf, .ref a_t_newKind, .int (z4 t_kinds), .ref a_t_stateOfKind, .ref a_t_stateAt, .ref a_t_stepTo, .int (z4 t_states), .ref a_t_far, .ref a_t_ways, .ref a_t_nextWays, .ref a_t_table])), (a_t_read, .inl (E 0, 98, .inl (A4 (up_ (up_ (up_ (up_ (up_ o1 10 1) 11 2) 12 4) 13 2) 14 1))))] rfl dX12_begin_60 (fun H locs hP hD hS => ?_)
    refine lv_aload_n hx hb dX12_begin_61 rfl (lv_at hl 0 rfl) ?_
    refine m_get X hK hP cl_X12 iT_X12 1 (by decide) fl_X12_13 0 rfl rfl dX12_begin_62 ?_
    refine m_bipush X dX12_begin_65 (by decide) ?_
    refine m_iconst X dX12_begin_67 ?_
    refine m_iast X hK hP hD hS 1 rfl (by decide) (by decide) [(a_t, .inr (12, [.ref a_t_now, .ref a_t_read, .ref a_t_past, .int (z4 t_deeds), .ref a_t_images, .ref a_t_isKept, .ref a_t_text, .int (z4 t_letters), .int (z4 t_at), .int (z4 t_tokenAt), .int (z4 t_tokenSort), .int (z4 t_tokenValue), .int (z4 t_items), .int (z4 t_isChanceTold), .int (z4 t_areSumsTold), .ref a_t_metAt, .ref a_t_memoryAt, .ref a_t_upAt, .ref a_t_downAt, .ref a_t_isSignal, .ref a_t_memories, .ref a_t_placeOf, .ref a_t_nextPlace, .int (z4 t_places), .ref a_t_kindOf, .ref a_t_newKind, .int (z4 t_kinds), .ref a_t_stateOfKind, .ref a_t_stateAt, .ref a_t_stepTo, .int (z4 t_states), .ref a_t_far, .ref a_t_ways, .ref a_t_nextWays, .ref a_t_table])), (a_t_read, .inl (E 0, 98, .inl (A4 (up_ (up_ (up_ (up_ (up_ (up_ o1 10 1) 11 2) 12 4) 13 2) 14 1) 15 1))))] rfl dX12_begin_68 (fun H locs hP hD hS => ?_)
    refine lv_aload_n hx hb dX12_begin_69 rfl (lv_at hl 0 rfl) ?_
    refine m_get X hK hP cl_X12 iT_X12 1 (by decide) fl_X12_13 0 rfl rfl dX12_begin_70 ?_
    refine m_bipush X dX12_begin_73 (by decide) ?_
    refine m_iconst X dX12_begin_75 ?_
    refine m_iast X hK hP hD hS 1 rfl (by decide) (by decide) [(a_t, .inr (12, [.ref a_t_now, .ref a_t_read, .ref a_t_past, .int (z4 t_deeds), .ref a_t_images, .ref a_t_isKept, .ref a_t_text, .int (z4 t_letters), .int (z4 t_at), .int (z4 t_tokenAt), .int (z4 t_tokenSort), .int (z4 t_tokenValue), .int (z4 t_items), .int (z4 t_isChanceTold), .int (z4 t_areSumsTold), .ref a_t_metAt, .ref a_t_memoryAt, .ref a_t_upAt, .ref a_t_downAt, .ref a_t_isSignal, .ref a_t_memories, .ref a_t_placeOf, .ref a_t_nextPlace, .int (z4 t_places), .ref a_t_kindOf, .ref a_t_newKind, .int (z4 t_kinds), .ref a_t_stateOfKind, .ref a_t_stateAt, .ref a_t_stepTo, .int (z4 t_states), .ref a_t_far, .ref a_t_ways, .ref a_t_nextWays, .ref a_t_table])), (a_t_read, .inl (E 0, 98, .inl (A4 (up_ (up_ (up_ (up_ (up_ (up_ (up_ o1 10 1) 11 2) 12 4) 13 2) 14 1) 15 1) 16 4))))] rfl dX12_begin_76 (fun H locs hP hD hS => ?_)
    obtain rfl := Option.some.inj hr1
    exact ret _ _ _ _ hP hD hS dX12_begin_77
  have L1 : ∀ (k_ : Nat) (v2_1 : Int) (t_read_l2 : Nat → Int), ∀ (H : Heap) (locs : List Loc) (ls : Array Slot), lv_has ls 2 [(0, .ref a_t), (1, .int (z4 v2_1))] → va_P D vwCl [(a_t, .inr (12, [.ref a_t_now, .ref a_t_read, .ref a_t_past, .int (z4 t_deeds), .ref a_t_images, .ref a_t_isKept, .ref a_t_text, .int (z4 t_letters), .int (z4 t_at), .int (z4 t_tokenAt), .int (z4 t_tokenSort), .int (z4 t_tokenValue), .int (z4 t_items), .int (z4 t_isChanceTold), .int (z4 t_areSumsTold), .ref a_t_metAt, .ref a_t_memoryAt, .ref a_t_upAt, .ref a_t_downAt, .ref a_t_isSignal, .ref a_t_memories, .ref a_t_placeOf, .ref a_t_nextPlace, .int (z4 t_places), .ref a_t_kindOf, .ref a_t_newKind, .int (z4 t_kinds), .ref a_t_stateOfKind, .ref a_t_stateAt, .ref a_t_stepTo, .int (z4 t_states), .ref a_t_far, .ref a_t_ways, .ref a_t_nextWays, .ref a_t_table])), (a_t_read, .inl (E 0, 98, .inl (A4 t_read_l2)))] H → va_D A [(a_t, .inr (12, [.ref a_t_now, .ref a_t_read, .ref a_t_past, .int (z4 t_deeds), .ref a_t_images, .ref a_t_isKept, .ref a_t_text, .int (z4 t_letters), .int (z4 t_at), .int (z4 t_tokenAt), .int (z4 t_tokenSort), .int (z4 t_tokenValue), .int (z4 t_items), .int (z4 t_isChanceTold), .int (z4 t_areSumsTold), .ref a_t_metAt, .ref a_t_memoryAt, .ref a_t_upAt, .ref a_t_downAt, .ref a_t_isSignal, .ref a_t_memories, .ref a_t_placeOf, .ref a_t_nextPlace, .int (z4 t_places), .ref a_t_kindOf, .ref a_t_newKind, .int (z4 t_kinds), .ref a_t_stateOfKind, .ref a_t_stateAt, .ref a_t_stepTo, .int (z4 t_states), .ref a_t_far, .ref a_t_ways, .ref a_t_nextWays, .ref a_t_table])), (a_t_read, .inl (E 0, 98, .inl (A4 t_read_l2)))] → va_S A s.heap H locs → lp_ (fun (q : Int × (Nat → Int)) => F_X12_begin_L2 n q.1 q.2) k_ (v2_1, t_read_l2) = some o1 → W p l e rm_X12_begin s m args below meth c H locs 0 0 Q (F0 m 2 ls []) := by
    intro k_
    induction k_ with
    | zero =>
      intro v2_1 t_read_l2 H locs ls hl hP hD hS hq_; exact (lp_zero hq_).elim
    | succ k_ ih1 =>
      intro v2_1 t_read_l2 H locs ls hl hP hD hS hq_
      obtain ⟨t_1, hb1, hq1⟩ := lp_some hq_
      replace hb1 : F_X12_begin_L2 n v2_1 t_read_l2 = some t_1 := hb1
      unfold F_X12_begin_L2 at hb1
      refine lv_iload_n hx hb dX12_begin_2 rfl (lv_at hl 1 rfl) ?_
      refine m_bipush X dX12_begin_3 (by decide) ?_
      obtain ⟨h2, hb1⟩ := ck_some hb1
      refine m_icmp_ge X ⟨h2, ⟨by decide, by decide⟩⟩ dX12_begin_5 (tgt := 21) (by decide) (fun (hc_ : ¬ (v2_1 < 17)) => ?_) (fun (hc_ : v2_1 < 17) => ?_)
      · rw [if_neg hc_] at hb1
        obtain rfl := Option.some.inj hb1
        exact E1_0 _ (Option.some.inj hq1).symm _ _ _ (lv_sub hl [0] rfl) hP hD hS
      · rw [if_pos hc_] at hb1
        refine lv_aload_n hx hb dX12_begin_8 rfl (lv_at hl 0 rfl) ?_
        refine m_get X hK hP cl_X12 iT_X12 1 (by decide) fl_X12_13 0 rfl rfl dX12_begin_9 ?_
        refine lv_iload_n hx hb dX12_begin_12 rfl (lv_at hl 1 rfl) ?_
        refine m_iconst X dX12_begin_13 ?_
        obtain ⟨h3, hb1⟩ := ck_some hb1
        refine m_iast X hK hP hD hS 1 rfl (by decide) h3 [(a_t, .inr (12, [.ref a_t_now, .ref a_t_read, .ref a_t_past, .int (z4 t_deeds), .ref a_t_images, .ref a_t_isKept, .ref a_t_text, .int (z4 t_letters), .int (z4 t_at), .int (z4 t_tokenAt), .int (z4 t_tokenSort), .int (z4 t_tokenValue), .int (z4 t_items), .int (z4 t_isChanceTold), .int (z4 t_areSumsTold), .ref a_t_metAt, .ref a_t_memoryAt, .ref a_t_upAt, .ref a_t_downAt, .ref a_t_isSignal, .ref a_t_memories, .ref a_t_placeOf, .ref a_t_nextPlace, .int (z4 t_places), .ref a_t_kindOf, .ref a_t_newKind, .int (z4 t_kinds), .ref a_t_stateOfKind, .ref a_t_stateAt, .ref a_t_stepTo, .int (z4 t_states), .ref a_t_far, .ref a_t_ways, .ref a_t_nextWays, .ref a_t_table])), (a_t_read, .inl (E 0, 98, .inl (A4 (up_ t_read_l2 (v2_1).toNat 0))))] rfl dX12_begin_14 (fun H locs hP hD hS => ?_)
        refine m_iinc X 1 [(1, .int (z4 (v2_1 + 1))), (0, .ref a_t)] dX12_begin_15 hl rfl (by decide) rfl (fun ls hl => ?_)
        refine lv_goto (tgt := 2) hx hb dX12_begin_18 (by decide) ?_
        obtain rfl := Option.some.inj hb1
        exact ih1 _ _ _ _ _ (lv_sub hl [1, 0] rfl) hP hD hS hq1
  exact L1 n _ _ _ _ _ (lv_sub hl [1, 0] rfl) hP hD hS hj1
def F_X12_takeRead_L2 (n : Nat) (t_read : Nat → Int) (v2_1 : Int) (t_now_l2 : Nat → Int) : Option ((Int × (Nat → Int)) ⊕ ((Nat → Int))) :=
  ck (r4 v2_1) <|
  if v2_1 < 17 then
    ck (ix_ v2_1 98) <|
    ck (ix_ v2_1 98) <|
    some (.inl (v2_1 + 1, up_ t_now_l2 (v2_1).toNat (t_read (v2_1).toNat)))
  else
    some (.inr t_now_l2)
def F_X12_takeRead (n : Nat)  (t_read : Nat → Int) (t_now : Nat → Int)  : Option ((Nat → Int)) :=
  (lp_ (fun (q : Int × (Nat → Int)) => F_X12_takeRead_L2 n t_read q.1 q.2) n (0, t_now)).bind fun o1 =>
  some o1
def rm_X12_takeRead : Room := { frames := 0, cells := 0, slots := 0, locals := 0 }
set_option maxHeartbeats 4000000 in
set_option maxRecDepth 100000 in
theorem k_X12_takeRead {l : Launch} {D : va_G} {E : Nat → ClassId} (n : Nat) (a_t a_t_now a_t_read a_t_past a_t_images a_t_isKept a_t_text a_t_metAt a_t_memoryAt a_t_upAt a_t_downAt a_t_isSignal a_t_memories a_t_placeOf a_t_nextPlace a_t_kindOf a_t_newKind a_t_stateOfKind a_t_stateAt a_t_stepTo a_t_far a_t_ways a_t_nextWays a_t_table : Nat) (t_deeds : Int) (t_letters : Int) (t_at : Int) (t_tokenAt : Int) (t_tokenSort : Int) (t_tokenValue : Int) (t_items : Int) (t_isChanceTold : Int) (t_areSumsTold : Int) (t_places : Int) (t_kinds : Int) (t_states : Int) (t_read : Nat → Int) (t_now : Nat → Int) (res : (Nat → Int)) (hf : F_X12_takeRead n t_read t_now = some res) : MW l yX12_takeRead (.code yX12_takeRead cX12_takeRead 2 none) rm_X12_takeRead D E [.ref a_t] [(a_t, .inr (12, [.ref a_t_now, .ref a_t_read, .ref a_t_past, .int (z4 t_deeds), .ref a_t_images, .ref a_t_isKept, .ref a_t_text, .int (z4 t_letters), .int (z4 t_at), .int (z4 t_tokenAt), .int (z4 t_tokenSort), .int (z4 t_tokenValue), .int (z4 t_items), .int (z4 t_isChanceTold), .int (z4 t_areSumsTold), .ref a_t_metAt, .ref a_t_memoryAt, .ref a_t_upAt, .ref a_t_downAt, .ref a_t_isSignal, .ref a_t_memories, .ref a_t_placeOf, .ref a_t_nextPlace, .int (z4 t_places), .ref a_t_kindOf, .ref a_t_newKind, .int (z4 t_kinds), .ref a_t_stateOfKind, .ref a_t_stateAt, .ref a_t_stepTo, .int (z4 t_states), .ref a_t_far, .ref a_t_ways, .ref a_t_nextWays, .ref a_t_table])), (a_t_read, .inl (E 0, 98, .inl (A4 t_read))), (a_t_now, .inl (E 0, 98, .inl (A4 t_now)))] none [(a_t, .inr (12, [.ref a_t_now, .ref a_t_read, .ref a_t_past, .int (z4 t_deeds), .ref a_t_images, .ref a_t_isKept, .ref a_t_text, .int (z4 t_letters), .int (z4 t_at), .int (z4 t_tokenAt), .int (z4 t_tokenSort), .int (z4 t_tokenValue), .int (z4 t_items), .int (z4 t_isChanceTold), .int (z4 t_areSumsTold), .ref a_t_metAt, .ref a_t_memoryAt, .ref a_t_upAt, .ref a_t_downAt, .ref a_t_isSignal, .ref a_t_memories, .ref a_t_placeOf, .ref a_t_nextPlace, .int (z4 t_places), .ref a_t_kindOf, .ref a_t_newKind, .int (z4 t_kinds), .ref a_t_stateOfKind, .ref a_t_stateAt, .ref a_t_stepTo, .int (z4 t_states), .ref a_t_far, .ref a_t_ways, .ref a_t_nextWays, .ref a_t_table])), (a_t_read, .inl (E 0, 98, .inl (A4 t_read))), (a_t_now, .inl (E 0, 98, .inl (A4 res)))] := by
  refine MWv (by decide) (Nat.le_of_ble_eq_true rfl) ?_
  intro p e s m args below meth c A Q X hK hP hD hA ret ls hl
  have hS : va_S A s.heap s.heap [] := va_S.rf
  have hx := X.1
  have hb := X.2.1
  have hl : lv_has ls 2 [(0, .ref a_t)] := hl
  unfold F_X12_takeRead at hf
  refine m_iconst X dX12_takeRead_0 ?_
  refine lv_istore_n (lv' := [(1, .int (z4 0)), (0, .ref a_t)]) hx hb dX12_takeRead_1 rfl hl (by decide) rfl (fun ls hl => ?_)
  obtain ⟨o1, hj1, hr1⟩ := bd_some hf
  have E1_0 : ∀ (o_ : (Nat → Int)), o1 = o_ → ∀ (H : Heap) (locs : List Loc) (ls : Array Slot), lv_has ls 2 [] → va_P D vwCl [(a_t, .inr (12, [.ref a_t_now, .ref a_t_read, .ref a_t_past, .int (z4 t_deeds), .ref a_t_images, .ref a_t_isKept, .ref a_t_text, .int (z4 t_letters), .int (z4 t_at), .int (z4 t_tokenAt), .int (z4 t_tokenSort), .int (z4 t_tokenValue), .int (z4 t_items), .int (z4 t_isChanceTold), .int (z4 t_areSumsTold), .ref a_t_metAt, .ref a_t_memoryAt, .ref a_t_upAt, .ref a_t_downAt, .ref a_t_isSignal, .ref a_t_memories, .ref a_t_placeOf, .ref a_t_nextPlace, .int (z4 t_places), .ref a_t_kindOf, .ref a_t_newKind, .int (z4 t_kinds), .ref a_t_stateOfKind, .ref a_t_stateAt, .ref a_t_stepTo, .int (z4 t_states), .ref a_t_far, .ref a_t_ways, .ref a_t_nextWays, .ref a_t_table])), (a_t_read, .inl (E 0, 98, .inl (A4 t_read))), (a_t_now, .inl (E 0, 98, .inl (A4 o_)))] H → va_D A [(a_t, .inr (12, [.ref a_t_now, .ref a_t_read, .ref a_t_past, .int (z4 t_deeds), .ref a_t_images, .ref a_t_isKept, .ref a_t_text, .int (z4 t_letters), .int (z4 t_at), .int (z4 t_tokenAt), .int (z4 t_tokenSort), .int (z4 t_tokenValue), .int (z4 t_items), .int (z4 t_isChanceTold), .int (z4 t_areSumsTold), .ref a_t_metAt, .ref a_t_memoryAt, .ref a_t_upAt, .ref a_t_downAt, .ref a_t_isSignal, .ref a_t_memories, .ref a_t_placeOf, .ref a_t_nextPlace, .int (z4 t_places), .ref a_t_kindOf, .ref a_t_newKind, .int (z4 t_kinds), .ref a_t_stateOfKind, .ref a_t_stateAt, .ref a_t_stepTo, .int (z4 t_states), .ref a_t_far, .ref a_t_ways, .ref a_t_nextWays, .ref a_t_table])), (a_t_read, .inl (E 0, 98, .inl (A4 t_read))), (a_t_now, .inl (E 0, 98, .inl (A4 o_)))] → va_S A s.heap H locs → W p l e rm_X12_takeRead s m args below meth c H locs 0 0 Q (F0 m 26 ls []) := by
    intro o_ ho_ H locs ls hl hP hD hS
    subst ho_
    obtain rfl := Option.some.inj hr1
    exact ret _ _ _ _ hP hD hS dX12_takeRead_26
  have L1 : ∀ (k_ : Nat) (v2_1 : Int) (t_now_l2 : Nat → Int), ∀ (H : Heap) (locs : List Loc) (ls : Array Slot), lv_has ls 2 [(0, .ref a_t), (1, .int (z4 v2_1))] → va_P D vwCl [(a_t, .inr (12, [.ref a_t_now, .ref a_t_read, .ref a_t_past, .int (z4 t_deeds), .ref a_t_images, .ref a_t_isKept, .ref a_t_text, .int (z4 t_letters), .int (z4 t_at), .int (z4 t_tokenAt), .int (z4 t_tokenSort), .int (z4 t_tokenValue), .int (z4 t_items), .int (z4 t_isChanceTold), .int (z4 t_areSumsTold), .ref a_t_metAt, .ref a_t_memoryAt, .ref a_t_upAt, .ref a_t_downAt, .ref a_t_isSignal, .ref a_t_memories, .ref a_t_placeOf, .ref a_t_nextPlace, .int (z4 t_places), .ref a_t_kindOf, .ref a_t_newKind, .int (z4 t_kinds), .ref a_t_stateOfKind, .ref a_t_stateAt, .ref a_t_stepTo, .int (z4 t_states), .ref a_t_far, .ref a_t_ways, .ref a_t_nextWays, .ref a_t_table])), (a_t_read, .inl (E 0, 98, .inl (A4 t_read))), (a_t_now, .inl (E 0, 98, .inl (A4 t_now_l2)))] H → va_D A [(a_t, .inr (12, [.ref a_t_now, .ref a_t_read, .ref a_t_past, .int (z4 t_deeds), .ref a_t_images, .ref a_t_isKept, .ref a_t_text, .int (z4 t_letters), .int (z4 t_at), .int (z4 t_tokenAt), .int (z4 t_tokenSort), .int (z4 t_tokenValue), .int (z4 t_items), .int (z4 t_isChanceTold), .int (z4 t_areSumsTold), .ref a_t_metAt, .ref a_t_memoryAt, .ref a_t_upAt, .ref a_t_downAt, .ref a_t_isSignal, .ref a_t_memories, .ref a_t_placeOf, .ref a_t_nextPlace, .int (z4 t_places), .ref a_t_kindOf, .ref a_t_newKind, .int (z4 t_kinds), .ref a_t_stateOfKind, .ref a_t_stateAt, .ref a_t_stepTo, .int (z4 t_states), .ref a_t_far, .ref a_t_ways, .ref a_t_nextWays, .ref a_t_table])), (a_t_read, .inl (E 0, 98, .inl (A4 t_read))), (a_t_now, .inl (E 0, 98, .inl (A4 t_now_l2)))] → va_S A s.heap H locs → lp_ (fun (q : Int × (Nat → Int)) => F_X12_takeRead_L2 n t_read q.1 q.2) k_ (v2_1, t_now_l2) = some o1 → W p l e rm_X12_takeRead s m args below meth c H locs 0 0 Q (F0 m 2 ls []) := by
    intro k_
    induction k_ with
    | zero =>
      intro v2_1 t_now_l2 H locs ls hl hP hD hS hq_; exact (lp_zero hq_).elim
    | succ k_ ih1 =>
      intro v2_1 t_now_l2 H locs ls hl hP hD hS hq_
      obtain ⟨t_1, hb1, hq1⟩ := lp_some hq_
      replace hb1 : F_X12_takeRead_L2 n t_read v2_1 t_now_l2 = some t_1 := hb1
      unfold F_X12_takeRead_L2 at hb1
      refine lv_iload_n hx hb dX12_takeRead_2 rfl (lv_at hl 1 rfl) ?_
      refine m_bipush X dX12_takeRead_3 (by decide) ?_
      obtain ⟨h2, hb1⟩ := ck_some hb1
      refine m_icmp_ge X ⟨h2, ⟨by decide, by decide⟩⟩ dX12_takeRead_5 (tgt := 26) (by decide) (fun (hc_ : ¬ (v2_1 < 17)) => ?_) (fun (hc_ : v2_1 < 17) => ?_)
      · rw [if_neg hc_] at hb1
        obtain rfl := Option.some.inj hb1
        exact E1_0 _ (Option.some.inj hq1).symm _ _ _ (lv_sub hl [] rfl) hP hD hS
      · rw [if_pos hc_] at hb1
        refine lv_aload_n hx hb dX12_takeRead_8 rfl (lv_at hl 0 rfl) ?_
        refine m_get X hK hP cl_X12 iT_X12 0 (by decide) fl_X12_7 0 rfl rfl dX12_takeRead_9 ?_
        refine lv_iload_n hx hb dX12_takeRead_12 rfl (lv_at hl 1 rfl) ?_
        refine lv_aload_n hx hb dX12_takeRead_13 rfl (lv_at hl 0 rfl) ?_
        refine m_get X hK hP cl_X12 iT_X12 1 (by decide) fl_X12_13 0 rfl rfl dX12_takeRead_14 ?_
        refine lv_iload_n hx hb dX12_takeRead_17 rfl (lv_at hl 1 rfl) ?_
        obtain ⟨h3, hb1⟩ := ck_some hb1
        refine m_iald X hK hP 1 rfl (by decide) h3 dX12_takeRead_18 ?_
        obtain ⟨h4, hb1⟩ := ck_some hb1
        refine m_iast X hK hP hD hS 2 rfl (by decide) h4 [(a_t, .inr (12, [.ref a_t_now, .ref a_t_read, .ref a_t_past, .int (z4 t_deeds), .ref a_t_images, .ref a_t_isKept, .ref a_t_text, .int (z4 t_letters), .int (z4 t_at), .int (z4 t_tokenAt), .int (z4 t_tokenSort), .int (z4 t_tokenValue), .int (z4 t_items), .int (z4 t_isChanceTold), .int (z4 t_areSumsTold), .ref a_t_metAt, .ref a_t_memoryAt, .ref a_t_upAt, .ref a_t_downAt, .ref a_t_isSignal, .ref a_t_memories, .ref a_t_placeOf, .ref a_t_nextPlace, .int (z4 t_places), .ref a_t_kindOf, .ref a_t_newKind, .int (z4 t_kinds), .ref a_t_stateOfKind, .ref a_t_stateAt, .ref a_t_stepTo, .int (z4 t_states), .ref a_t_far, .ref a_t_ways, .ref a_t_nextWays, .ref a_t_table])), (a_t_read, .inl (E 0, 98, .inl (A4 t_read))), (a_t_now, .inl (E 0, 98, .inl (A4 (up_ t_now_l2 (v2_1).toNat (t_read (v2_1).toNat)))))] rfl dX12_takeRead_19 (fun H locs hP hD hS => ?_)
        refine m_iinc X 1 [(1, .int (z4 (v2_1 + 1))), (0, .ref a_t)] dX12_takeRead_20 hl rfl (by decide) rfl (fun ls hl => ?_)
        refine lv_goto (tgt := 2) hx hb dX12_takeRead_23 (by decide) ?_
        obtain rfl := Option.some.inj hb1
        exact ih1 _ _ _ _ _ (lv_sub hl [1, 0] rfl) hP hD hS hq1
  exact L1 n _ _ _ _ _ (lv_sub hl [1, 0] rfl) hP hD hS hj1
def F_X12_isLetter (n : Nat)   (x0 : Int) : Option (Int) :=
  (F_X12_in n x0 97 122).bind fun o1 =>
  ck (o1 = 0 ∨ o1 = 1) <|
  some o1
def rm_X12_isLetter : Room := { frames := 1, cells := 0, slots := 0, locals := 22 }
set_option maxHeartbeats 4000000 in
set_option maxRecDepth 100000 in
theorem k_X12_isLetter {l : Launch} {D : va_G} {E : Nat → ClassId} (n : Nat) (x0 : Int) (res : Int) (hf : F_X12_isLetter n x0 = some res) : MR l yX12_isLetter (.code yX12_isLetter cX12_isLetter 1 (some .boolean)) rm_X12_isLetter D E [.int (z4 x0)] [] (some (.int (z4 res))) := by
  refine MRz (by decide) (Nat.le_of_ble_eq_true rfl) ?_
  intro p e s m args below meth c Q X hK hP ret ls hl
  have hx := X.1
  have hb := X.2.1
  have hl : lv_has ls 1 [(0, .int (z4 x0))] := hl
  unfold F_X12_isLetter at hf
  refine lv_iload_n hx hb dX12_isLetter_0 rfl (lv_at hl 0 rfl) ?_
  refine m_bipush X dX12_isLetter_1 (by decide) ?_
  refine m_bipush X dX12_isLetter_3 (by decide) ?_
  obtain ⟨o1, ho, hf⟩ := bd_some hf
  refine m_cSR X hK (k_X12_in n x0 97 122 o1 ho) (hP.sub (ws' := []) [] rfl) lk_X12_87 co_X12_in dy_X12_in rfl rfl ⟨Nat.le_of_ble_eq_true rfl, Nat.le_of_ble_eq_true rfl⟩ hl.1 rfl (Nat.le_of_ble_eq_true rfl) dX12_isLetter_5 (Nat.zero_le _) (Nat.zero_le _) ?_
  obtain ⟨h2, hf⟩ := ck_some hf
  obtain rfl := Option.some.inj hf
  exact ret _ _ h2 dX12_isLetter_8
def F_X12_isFigure (n : Nat)   (x0 : Int) : Option (Int) :=
  (F_X12_in n x0 48 57).bind fun o1 =>
  ck (o1 = 0 ∨ o1 = 1) <|
  some o1
def rm_X12_isFigure : Room := { frames := 1, cells := 0, slots := 0, locals := 22 }
set_option maxHeartbeats 4000000 in
set_option maxRecDepth 100000 in
theorem k_X12_isFigure {l : Launch} {D : va_G} {E : Nat → ClassId} (n : Nat) (x0 : Int) (res : Int) (hf : F_X12_isFigure n x0 = some res) : MR l yX12_isFigure (.code yX12_isFigure cX12_isFigure 1 (some .boolean)) rm_X12_isFigure D E [.int (z4 x0)] [] (some (.int (z4 res))) := by
  refine MRz (by decide) (Nat.le_of_ble_eq_true rfl) ?_
  intro p e s m args below meth c Q X hK hP ret ls hl
  have hx := X.1
  have hb := X.2.1
  have hl : lv_has ls 1 [(0, .int (z4 x0))] := hl
  unfold F_X12_isFigure at hf
  refine lv_iload_n hx hb dX12_isFigure_0 rfl (lv_at hl 0 rfl) ?_
  refine m_bipush X dX12_isFigure_1 (by decide) ?_
  refine m_bipush X dX12_isFigure_3 (by decide) ?_
  obtain ⟨o1, ho, hf⟩ := bd_some hf
  refine m_cSR X hK (k_X12_in n x0 48 57 o1 ho) (hP.sub (ws' := []) [] rfl) lk_X12_87 co_X12_in dy_X12_in rfl rfl ⟨Nat.le_of_ble_eq_true rfl, Nat.le_of_ble_eq_true rfl⟩ hl.1 rfl (Nat.le_of_ble_eq_true rfl) dX12_isFigure_5 (Nat.zero_le _) (Nat.zero_le _) ?_
  obtain ⟨h2, hf⟩ := ck_some hf
  obtain rfl := Option.some.inj hf
  exact ret _ _ h2 dX12_isFigure_8
def F_X12_isWord (n : Nat)  (t_tokenAt : Int) (t_text : Nat → Int) (x1 : Int) (x2 : Int) (x3 : Int) (x4 : Int) : Option (Int) :=
  ck (ix_ t_tokenAt 120) <|
  Option.bind (α := Int) (
    ck (r4 (t_text (t_tokenAt).toNat) ∧ r4 x1) <|
    if t_text (t_tokenAt).toNat = x1 then
      ck (ix_ (t_tokenAt + 1) 120) <|
      ck (r4 (t_text (t_tokenAt + 1).toNat) ∧ r4 x2) <|
      if t_text (t_tokenAt + 1).toNat = x2 then
        ck (ix_ (t_tokenAt + 2) 120) <|
        ck (r4 (t_text (t_tokenAt + 2).toNat) ∧ r4 x3) <|
        if t_text (t_tokenAt + 2).toNat = x3 then
          ck (ix_ (t_tokenAt + 3) 120) <|
          ck (r4 (t_text (t_tokenAt + 3).toNat) ∧ r4 x4) <|
          if t_text (t_tokenAt + 3).toNat = x4 then
            some 1
          else
            some 0
        else
          some 0
      else
        some 0
    else
      some 0) fun o2 =>
  ck (o2 = 0 ∨ o2 = 1) <|
  some o2
def rm_X12_isWord : Room := { frames := 0, cells := 0, slots := 0, locals := 0 }
set_option maxHeartbeats 4000000 in
set_option maxRecDepth 100000 in
theorem k_X12_isWord {l : Launch} {D : va_G} {E : Nat → ClassId} (n : Nat) (a_t a_t_now a_t_read a_t_past a_t_images a_t_isKept a_t_text a_t_metAt a_t_memoryAt a_t_upAt a_t_downAt a_t_isSignal a_t_memories a_t_placeOf a_t_nextPlace a_t_kindOf a_t_newKind a_t_stateOfKind a_t_stateAt a_t_stepTo a_t_far a_t_ways a_t_nextWays a_t_table : Nat) (t_deeds : Int) (t_letters : Int) (t_at : Int) (t_tokenAt : Int) (t_tokenSort : Int) (t_tokenValue : Int) (t_items : Int) (t_isChanceTold : Int) (t_areSumsTold : Int) (t_places : Int) (t_kinds : Int) (t_states : Int) (t_text : Nat → Int) (x1 : Int) (x2 : Int) (x3 : Int) (x4 : Int) (res : Int) (hf : F_X12_isWord n t_tokenAt t_text x1 x2 x3 x4 = some res) : MR l yX12_isWord (.code yX12_isWord cX12_isWord 5 (some .boolean)) rm_X12_isWord D E [.ref a_t, .int (z4 x1), .int (z4 x2), .int (z4 x3), .int (z4 x4)] [(a_t, .inr (12, [.ref a_t_now, .ref a_t_read, .ref a_t_past, .int (z4 t_deeds), .ref a_t_images, .ref a_t_isKept, .ref a_t_text, .int (z4 t_letters), .int (z4 t_at), .int (z4 t_tokenAt), .int (z4 t_tokenSort), .int (z4 t_tokenValue), .int (z4 t_items), .int (z4 t_isChanceTold), .int (z4 t_areSumsTold), .ref a_t_metAt, .ref a_t_memoryAt, .ref a_t_upAt, .ref a_t_downAt, .ref a_t_isSignal, .ref a_t_memories, .ref a_t_placeOf, .ref a_t_nextPlace, .int (z4 t_places), .ref a_t_kindOf, .ref a_t_newKind, .int (z4 t_kinds), .ref a_t_stateOfKind, .ref a_t_stateAt, .ref a_t_stepTo, .int (z4 t_states), .ref a_t_far, .ref a_t_ways, .ref a_t_nextWays, .ref a_t_table])), (a_t_text, .inl (E 0, 120, .inl (A4 t_text)))] (some (.int (z4 res))) := by
  refine MRz (by decide) (Nat.le_of_ble_eq_true rfl) ?_
  intro p e s m args below meth c Q X hK hP ret ls hl
  have hx := X.1
  have hb := X.2.1
  have hl : lv_has ls 5 [(0, .ref a_t), (1, .int (z4 x1)), (2, .int (z4 x2)), (3, .int (z4 x3)), (4, .int (z4 x4))] := hl
  unfold F_X12_isWord at hf
  refine lv_aload_n hx hb dX12_isWord_0 rfl (lv_at hl 0 rfl) ?_
  refine m_get X hK hP cl_X12 iT_X12 6 (by decide) fl_X12_26 0 rfl rfl dX12_isWord_1 ?_
  refine lv_aload_n hx hb dX12_isWord_4 rfl (lv_at hl 0 rfl) ?_
  refine m_get X hK hP cl_X12 iT_X12 9 (by decide) fl_X12_91 0 rfl rfl dX12_isWord_5 ?_
  obtain ⟨h1, hf⟩ := ck_some hf
  refine m_iald X hK hP 1 rfl (by decide) h1 dX12_isWord_8 ?_
  refine lv_iload_n hx hb dX12_isWord_9 rfl (lv_at hl 1 rfl) ?_
  obtain ⟨o2, hj2, hr2⟩ := bd_some hf
  have J2 : ∀ (o_ : Int), o2 = o_ → ∀ (ls : Array Slot), lv_has ls 5 [] → W p l e rm_X12_isWord s m args below meth c s.heap [] 0 0 Q (F0 m 64 ls [.int (z4 o_)]) := by
    intro o_ ho_ ls hl 
    subst ho_
    obtain ⟨h10, hr2⟩ := ck_some hr2
    obtain rfl := Option.some.inj hr2
    exact ret _ _ h10 dX12_isWord_64
  obtain ⟨h3, hj2⟩ := ck_some hj2
  refine m_icmp_ne X h3 dX12_isWord_10 (tgt := 63) (by decide) (fun (hc_ : ¬ (t_text (t_tokenAt).toNat = x1)) => ?_) (fun (hc_ : t_text (t_tokenAt).toNat = x1) => ?_)
  · rw [if_neg hc_] at hj2
    refine m_iconst X dX12_isWord_63 ?_
    exact J2 _ (Option.some.inj hj2).symm _ (lv_sub hl [] rfl) 
  · rw [if_pos hc_] at hj2
    refine lv_aload_n hx hb dX12_isWord_13 rfl (lv_at hl 0 rfl) ?_
    refine m_get X hK hP cl_X12 iT_X12 6 (by decide) fl_X12_26 0 rfl rfl dX12_isWord_14 ?_
    refine lv_aload_n hx hb dX12_isWord_17 rfl (lv_at hl 0 rfl) ?_
    refine m_get X hK hP cl_X12 iT_X12 9 (by decide) fl_X12_91 0 rfl rfl dX12_isWord_18 ?_
    refine m_iconst X dX12_isWord_21 ?_
    refine m_iadd X dX12_isWord_22 ?_
    obtain ⟨h4, hj2⟩ := ck_some hj2
    refine m_iald X hK hP 1 rfl (by decide) h4 dX12_isWord_23 ?_
    refine lv_iload_n hx hb dX12_isWord_24 rfl (lv_at hl 2 rfl) ?_
    obtain ⟨h5, hj2⟩ := ck_some hj2
    refine m_icmp_ne X h5 dX12_isWord_25 (tgt := 63) (by decide) (fun (hc_ : ¬ (t_text (t_tokenAt + 1).toNat = x2)) => ?_) (fun (hc_ : t_text (t_tokenAt + 1).toNat = x2) => ?_)
    · rw [if_neg hc_] at hj2
      refine m_iconst X dX12_isWord_63 ?_
      exact J2 _ (Option.some.inj hj2).symm _ (lv_sub hl [] rfl) 
    · rw [if_pos hc_] at hj2
      refine lv_aload_n hx hb dX12_isWord_28 rfl (lv_at hl 0 rfl) ?_
      refine m_get X hK hP cl_X12 iT_X12 6 (by decide) fl_X12_26 0 rfl rfl dX12_isWord_29 ?_
      refine lv_aload_n hx hb dX12_isWord_32 rfl (lv_at hl 0 rfl) ?_
      refine m_get X hK hP cl_X12 iT_X12 9 (by decide) fl_X12_91 0 rfl rfl dX12_isWord_33 ?_
      refine m_iconst X dX12_isWord_36 ?_
      refine m_iadd X dX12_isWord_37 ?_
      obtain ⟨h6, hj2⟩ := ck_some hj2
      refine m_iald X hK hP 1 rfl (by decide) h6 dX12_isWord_38 ?_
      refine lv_iload_n hx hb dX12_isWord_39 rfl (lv_at hl 3 rfl) ?_
      obtain ⟨h7, hj2⟩ := ck_some hj2
      refine m_icmp_ne X h7 dX12_isWord_40 (tgt := 63) (by decide) (fun (hc_ : ¬ (t_text (t_tokenAt + 2).toNat = x3)) => ?_) (fun (hc_ : t_text (t_tokenAt + 2).toNat = x3) => ?_)
      · rw [if_neg hc_] at hj2
        refine m_iconst X dX12_isWord_63 ?_
        exact J2 _ (Option.some.inj hj2).symm _ (lv_sub hl [] rfl) 
      · rw [if_pos hc_] at hj2
        refine lv_aload_n hx hb dX12_isWord_43 rfl (lv_at hl 0 rfl) ?_
        refine m_get X hK hP cl_X12 iT_X12 6 (by decide) fl_X12_26 0 rfl rfl dX12_isWord_44 ?_
        refine lv_aload_n hx hb dX12_isWord_47 rfl (lv_at hl 0 rfl) ?_
        refine m_get X hK hP cl_X12 iT_X12 9 (by decide) fl_X12_91 0 rfl rfl dX12_isWord_48 ?_
        refine m_iconst X dX12_isWord_51 ?_
        refine m_iadd X dX12_isWord_52 ?_
        obtain ⟨h8, hj2⟩ := ck_some hj2
        refine m_iald X hK hP 1 rfl (by decide) h8 dX12_isWord_53 ?_
        refine lv_iload hx hb dX12_isWord_54 (lv_at hl 4 rfl) ?_
        obtain ⟨h9, hj2⟩ := ck_some hj2
        refine m_icmp_ne X h9 dX12_isWord_56 (tgt := 63) (by decide) (fun (hc_ : ¬ (t_text (t_tokenAt + 3).toNat = x4)) => ?_) (fun (hc_ : t_text (t_tokenAt + 3).toNat = x4) => ?_)
        · rw [if_neg hc_] at hj2
          refine m_iconst X dX12_isWord_63 ?_
          exact J2 _ (Option.some.inj hj2).symm _ (lv_sub hl [] rfl) 
        · rw [if_pos hc_] at hj2
          refine m_iconst X dX12_isWord_59 ?_
          refine lv_goto (tgt := 64) hx hb dX12_isWord_60 (by decide) ?_
          exact J2 _ (Option.some.inj hj2).symm _ (lv_sub hl [] rfl) 
def F_X12_wordOf (n : Nat)  (t_tokenAt : Int) (t_text : Nat → Int) (x1 : Int) : Option (Int) :=
  ck (r4 x1) <|
  if x1 = 4 then
    (F_X12_isWord n t_tokenAt t_text 114 117 108 101).bind fun o12 =>
    Option.bind (α := Int) (
      ck (r4 o12) <|
      if o12 = 0 then
        (F_X12_isWord n t_tokenAt t_text 115 117 109 115).bind fun o15 =>
        ck (r4 o15) <|
        if o15 = 0 then
          some 3
        else
          some 6
      else
        some 4) fun o13 =>
    some o13
  else
    Option.bind (α := Int) (
      ck (r4 x1) <|
      if x1 = 6 then
        (F_X12_isWord n t_tokenAt t_text 99 104 97 110).bind fun o4 =>
        ck (r4 o4) <|
        if o4 = 0 then
          some 0
        else
          ck (ix_ (t_tokenAt + 4) 120) <|
          ck (r4 (t_text (t_tokenAt + 4).toNat)) <|
          if t_text (t_tokenAt + 4).toNat = 99 then
            ck (ix_ (t_tokenAt + 5) 120) <|
            ck (r4 (t_text (t_tokenAt + 5).toNat)) <|
            if t_text (t_tokenAt + 5).toNat = 101 then
              some 1
            else
              some 0
          else
            some 0
      else
        some 0) fun o2 =>
    Option.bind (α := Int) (
      ck (r4 o2) <|
      if o2 = 0 then
        some 3
      else
        some 5) fun o10 =>
    some o10
def rm_X12_wordOf : Room := { frames := 1, cells := 0, slots := 0, locals := 24 }
set_option maxHeartbeats 4000000 in
set_option maxRecDepth 100000 in
theorem k_X12_wordOf {l : Launch} {D : va_G} {E : Nat → ClassId} (n : Nat) (a_t a_t_now a_t_read a_t_past a_t_images a_t_isKept a_t_text a_t_metAt a_t_memoryAt a_t_upAt a_t_downAt a_t_isSignal a_t_memories a_t_placeOf a_t_nextPlace a_t_kindOf a_t_newKind a_t_stateOfKind a_t_stateAt a_t_stepTo a_t_far a_t_ways a_t_nextWays a_t_table : Nat) (t_deeds : Int) (t_letters : Int) (t_at : Int) (t_tokenAt : Int) (t_tokenSort : Int) (t_tokenValue : Int) (t_items : Int) (t_isChanceTold : Int) (t_areSumsTold : Int) (t_places : Int) (t_kinds : Int) (t_states : Int) (t_text : Nat → Int) (x1 : Int) (res : Int) (hf : F_X12_wordOf n t_tokenAt t_text x1 = some res) : MR l yX12_wordOf (.code yX12_wordOf cX12_wordOf 3 (some .int)) rm_X12_wordOf D E [.ref a_t, .int (z4 x1)] [(a_t, .inr (12, [.ref a_t_now, .ref a_t_read, .ref a_t_past, .int (z4 t_deeds), .ref a_t_images, .ref a_t_isKept, .ref a_t_text, .int (z4 t_letters), .int (z4 t_at), .int (z4 t_tokenAt), .int (z4 t_tokenSort), .int (z4 t_tokenValue), .int (z4 t_items), .int (z4 t_isChanceTold), .int (z4 t_areSumsTold), .ref a_t_metAt, .ref a_t_memoryAt, .ref a_t_upAt, .ref a_t_downAt, .ref a_t_isSignal, .ref a_t_memories, .ref a_t_placeOf, .ref a_t_nextPlace, .int (z4 t_places), .ref a_t_kindOf, .ref a_t_newKind, .int (z4 t_kinds), .ref a_t_stateOfKind, .ref a_t_stateAt, .ref a_t_stepTo, .int (z4 t_states), .ref a_t_far, .ref a_t_ways, .ref a_t_nextWays, .ref a_t_table])), (a_t_text, .inl (E 0, 120, .inl (A4 t_text)))] (some (.int (z4 res))) := by
  refine MRi (by decide) (Nat.le_of_ble_eq_true rfl) ?_
  intro p e s m args below meth c Q X hK hP ret ls hl
  have hx := X.1
  have hb := X.2.1
  have hl : lv_has ls 3 [(0, .ref a_t), (1, .int (z4 x1))] := hl
  unfold F_X12_wordOf at hf
  refine lv_iload_n hx hb dX12_wordOf_0 rfl (lv_at hl 1 rfl) ?_
  refine m_iconst X dX12_wordOf_1 ?_
  obtain ⟨h1, hf⟩ := ck_some hf
  refine m_icmp_ne X ⟨h1, ⟨by decide, by decide⟩⟩ dX12_wordOf_2 (tgt := 46) (by decide) (fun (hc_ : ¬ (x1 = 4)) => ?_) (fun (hc_ : x1 = 4) => ?_)
  · rw [if_neg hc_] at hf
    refine lv_iload_n hx hb dX12_wordOf_46 rfl (lv_at hl 1 rfl) ?_
    refine m_bipush X dX12_wordOf_47 (by decide) ?_
    obtain ⟨o2, hj2, hr2⟩ := bd_some hf
    have J2 : ∀ (o_ : Int), o2 = o_ → ∀ (ls : Array Slot), lv_has ls 3 [] → W p l e rm_X12_wordOf s m args below meth c s.heap [] 0 0 Q (F0 m 104 ls [.int (z4 o_)]) := by
      intro o_ ho_ ls hl 
      subst ho_
      refine lv_istore_n (lv' := [(2, .int (z4 o2))]) hx hb dX12_wordOf_104 rfl hl (by decide) rfl (fun ls hl => ?_)
      refine lv_iload_n hx hb dX12_wordOf_105 rfl (lv_at hl 0 rfl) ?_
      obtain ⟨o10, hj10, hr10⟩ := bd_some hr2
      have J10 : ∀ (o_ : Int), o10 = o_ → ∀ (ls : Array Slot), lv_has ls 3 [] → W p l e rm_X12_wordOf s m args below meth c s.heap [] 0 0 Q (F0 m 114 ls [.int (z4 o_)]) := by
        intro o_ ho_ ls hl 
        subst ho_
        obtain rfl := Option.some.inj hr10
        exact ret _ _ dX12_wordOf_114
      obtain ⟨h11, hj10⟩ := ck_some hj10
      refine m_if_eq X h11 dX12_wordOf_106 (tgt := 113) (by decide) (fun (hc_ : o2 = 0) => ?_) (fun (hc_ : ¬ (o2 = 0)) => ?_)
      · rw [if_pos hc_] at hj10
        refine m_iconst X dX12_wordOf_113 ?_
        exact J10 _ (Option.some.inj hj10).symm _ (lv_sub hl [] rfl) 
      · rw [if_neg hc_] at hj10
        refine m_iconst X dX12_wordOf_109 ?_
        refine lv_goto (tgt := 114) hx hb dX12_wordOf_110 (by decide) ?_
        exact J10 _ (Option.some.inj hj10).symm _ (lv_sub hl [] rfl) 
    obtain ⟨h3, hj2⟩ := ck_some hj2
    refine m_icmp_ne X ⟨h3, ⟨by decide, by decide⟩⟩ dX12_wordOf_49 (tgt := 103) (by decide) (fun (hc_ : ¬ (x1 = 6)) => ?_) (fun (hc_ : x1 = 6) => ?_)
    · rw [if_neg hc_] at hj2
      refine m_iconst X dX12_wordOf_103 ?_
      exact J2 _ (Option.some.inj hj2).symm _ (lv_sub hl [] rfl) 
    · rw [if_pos hc_] at hj2
      refine lv_aload_n hx hb dX12_wordOf_52 rfl (lv_at hl 0 rfl) ?_
      refine m_bipush X dX12_wordOf_53 (by decide) ?_
      refine m_bipush X dX12_wordOf_55 (by decide) ?_
      refine m_bipush X dX12_wordOf_57 (by decide) ?_
      refine m_bipush X dX12_wordOf_59 (by decide) ?_
      obtain ⟨o4, ho, hj2⟩ := bd_some hj2
      refine m_cVR X hK (k_X12_isWord n a_t a_t_now a_t_read a_t_past a_t_images a_t_isKept a_t_text a_t_metAt a_t_memoryAt a_t_upAt a_t_downAt a_t_isSignal a_t_memories a_t_placeOf a_t_nextPlace a_t_kindOf a_t_newKind a_t_stateOfKind a_t_stateAt a_t_stepTo a_t_far a_t_ways a_t_nextWays a_t_table t_deeds t_letters t_at t_tokenAt t_tokenSort t_tokenValue t_items t_isChanceTold t_areSumsTold t_places t_kinds t_states t_text 99 104 97 110 o4 ho) (hP.sub [0, 1] rfl) rfl cl_X12 lk_X12_95 co_X12_isWord dy_X12_isWord rfl rfl ⟨Nat.le_of_ble_eq_true rfl, Nat.le_of_ble_eq_true rfl⟩ hl.1 rfl (Nat.le_of_ble_eq_true rfl) dX12_wordOf_61 (Nat.zero_le _) (Nat.zero_le _) ?_
      obtain ⟨h5, hj2⟩ := ck_some hj2
      refine m_if_eq X h5 dX12_wordOf_64 (tgt := 103) (by decide) (fun (hc_ : o4 = 0) => ?_) (fun (hc_ : ¬ (o4 = 0)) => ?_)
      · rw [if_pos hc_] at hj2
        refine m_iconst X dX12_wordOf_103 ?_
        exact J2 _ (Option.some.inj hj2).symm _ (lv_sub hl [] rfl) 
      · rw [if_neg hc_] at hj2
        refine lv_aload_n hx hb dX12_wordOf_67 rfl (lv_at hl 0 rfl) ?_
        refine m_get X hK hP cl_X12 iT_X12 6 (by decide) fl_X12_26 0 rfl rfl dX12_wordOf_68 ?_
        refine lv_aload_n hx hb dX12_wordOf_71 rfl (lv_at hl 0 rfl) ?_
        refine m_get X hK hP cl_X12 iT_X12 9 (by decide) fl_X12_91 0 rfl rfl dX12_wordOf_72 ?_
        refine m_iconst X dX12_wordOf_75 ?_
        refine m_iadd X dX12_wordOf_76 ?_
        obtain ⟨h6, hj2⟩ := ck_some hj2
        refine m_iald X hK hP 1 rfl (by decide) h6 dX12_wordOf_77 ?_
        refine m_bipush X dX12_wordOf_78 (by decide) ?_
        obtain ⟨h7, hj2⟩ := ck_some hj2
        refine m_icmp_ne X ⟨h7, ⟨by decide, by decide⟩⟩ dX12_wordOf_80 (tgt := 103) (by decide) (fun (hc_ : ¬ (t_text (t_tokenAt + 4).toNat = 99)) => ?_) (fun (hc_ : t_text (t_tokenAt + 4).toNat = 99) => ?_)
        · rw [if_neg hc_] at hj2
          refine m_iconst X dX12_wordOf_103 ?_
          exact J2 _ (Option.some.inj hj2).symm _ (lv_sub hl [] rfl) 
        · rw [if_pos hc_] at hj2
          refine lv_aload_n hx hb dX12_wordOf_83 rfl (lv_at hl 0 rfl) ?_
          refine m_get X hK hP cl_X12 iT_X12 6 (by decide) fl_X12_26 0 rfl rfl dX12_wordOf_84 ?_
          refine lv_aload_n hx hb dX12_wordOf_87 rfl (lv_at hl 0 rfl) ?_
          refine m_get X hK hP cl_X12 iT_X12 9 (by decide) fl_X12_91 0 rfl rfl dX12_wordOf_88 ?_
          refine m_iconst X dX12_wordOf_91 ?_
          refine m_iadd X dX12_wordOf_92 ?_
          obtain ⟨h8, hj2⟩ := ck_some hj2
          refine m_iald X hK hP 1 rfl (by decide) h8 dX12_wordOf_93 ?_
          refine m_bipush X dX12_wordOf_94 (by decide) ?_
          obtain ⟨h9, hj2⟩ := ck_some hj2
          refine m_icmp_ne X ⟨h9, ⟨by decide, by decide⟩⟩ dX12_wordOf_96 (tgt := 103) (by decide) (fun (hc_ : ¬ (t_text (t_tokenAt + 5).toNat = 101)) => ?_) (fun (hc_ : t_text (t_tokenAt + 5).toNat = 101) => ?_)
          · rw [if_neg hc_] at hj2
            refine m_iconst X dX12_wordOf_103 ?_
            exact J2 _ (Option.some.inj hj2).symm _ (lv_sub hl [] rfl) 
          · rw [if_pos hc_] at hj2
            refine m_iconst X dX12_wordOf_99 ?_
            refine lv_goto (tgt := 104) hx hb dX12_wordOf_100 (by decide) ?_
            exact J2 _ (Option.some.inj hj2).symm _ (lv_sub hl [] rfl) 
  · rw [if_pos hc_] at hf
    refine lv_aload_n hx hb dX12_wordOf_5 rfl (lv_at hl 0 rfl) ?_
    refine m_bipush X dX12_wordOf_6 (by decide) ?_
    refine m_bipush X dX12_wordOf_8 (by decide) ?_
    refine m_bipush X dX12_wordOf_10 (by decide) ?_
    refine m_bipush X dX12_wordOf_12 (by decide) ?_
    obtain ⟨o12, ho, hf⟩ := bd_some hf
    refine m_cVR X hK (k_X12_isWord n a_t a_t_now a_t_read a_t_past a_t_images a_t_isKept a_t_text a_t_metAt a_t_memoryAt a_t_upAt a_t_downAt a_t_isSignal a_t_memories a_t_placeOf a_t_nextPlace a_t_kindOf a_t_newKind a_t_stateOfKind a_t_stateAt a_t_stepTo a_t_far a_t_ways a_t_nextWays a_t_table t_deeds t_letters t_at t_tokenAt t_tokenSort t_tokenValue t_items t_isChanceTold t_areSumsTold t_places t_kinds t_states t_text 114 117 108 101 o12 ho) (hP.sub [0, 1] rfl) rfl cl_X12 lk_X12_95 co_X12_isWord dy_X12_isWord rfl rfl ⟨Nat.le_of_ble_eq_true rfl, Nat.le_of_ble_eq_true rfl⟩ hl.1 rfl (Nat.le_of_ble_eq_true rfl) dX12_wordOf_14 (Nat.zero_le _) (Nat.zero_le _) ?_
    obtain ⟨o13, hj13, hr13⟩ := bd_some hf
    have J13 : ∀ (o_ : Int), o13 = o_ → ∀ (ls : Array Slot), lv_has ls 3 [] → W p l e rm_X12_wordOf s m args below meth c s.heap [] 0 0 Q (F0 m 45 ls [.int (z4 o_)]) := by
      intro o_ ho_ ls hl 
      subst ho_
      obtain rfl := Option.some.inj hr13
      exact ret _ _ dX12_wordOf_45
    obtain ⟨h14, hj13⟩ := ck_some hj13
    refine m_if_eq X h14 dX12_wordOf_17 (tgt := 24) (by decide) (fun (hc_ : o12 = 0) => ?_) (fun (hc_ : ¬ (o12 = 0)) => ?_)
    · rw [if_pos hc_] at hj13
      refine lv_aload_n hx hb dX12_wordOf_24 rfl (lv_at hl 0 rfl) ?_
      refine m_bipush X dX12_wordOf_25 (by decide) ?_
      refine m_bipush X dX12_wordOf_27 (by decide) ?_
      refine m_bipush X dX12_wordOf_29 (by decide) ?_
      refine m_bipush X dX12_wordOf_31 (by decide) ?_
      obtain ⟨o15, ho, hj13⟩ := bd_some hj13
      refine m_cVR X hK (k_X12_isWord n a_t a_t_now a_t_read a_t_past a_t_images a_t_isKept a_t_text a_t_metAt a_t_memoryAt a_t_upAt a_t_downAt a_t_isSignal a_t_memories a_t_placeOf a_t_nextPlace a_t_kindOf a_t_newKind a_t_stateOfKind a_t_stateAt a_t_stepTo a_t_far a_t_ways a_t_nextWays a_t_table t_deeds t_letters t_at t_tokenAt t_tokenSort t_tokenValue t_items t_isChanceTold t_areSumsTold t_places t_kinds t_states t_text 115 117 109 115 o15 ho) (hP.sub [0, 1] rfl) rfl cl_X12 lk_X12_95 co_X12_isWord dy_X12_isWord rfl rfl ⟨Nat.le_of_ble_eq_true rfl, Nat.le_of_ble_eq_true rfl⟩ hl.1 rfl (Nat.le_of_ble_eq_true rfl) dX12_wordOf_33 (Nat.zero_le _) (Nat.zero_le _) ?_
      obtain ⟨h16, hj13⟩ := ck_some hj13
      refine m_if_eq X h16 dX12_wordOf_36 (tgt := 44) (by decide) (fun (hc_ : o15 = 0) => ?_) (fun (hc_ : ¬ (o15 = 0)) => ?_)
      · rw [if_pos hc_] at hj13
        refine m_iconst X dX12_wordOf_44 ?_
        exact J13 _ (Option.some.inj hj13).symm _ (lv_sub hl [] rfl) 
      · rw [if_neg hc_] at hj13
        refine m_bipush X dX12_wordOf_39 (by decide) ?_
        refine lv_goto (tgt := 45) hx hb dX12_wordOf_41 (by decide) ?_
        exact J13 _ (Option.some.inj hj13).symm _ (lv_sub hl [] rfl) 
    · rw [if_neg hc_] at hj13
      refine m_iconst X dX12_wordOf_20 ?_
      refine lv_goto (tgt := 45) hx hb dX12_wordOf_21 (by decide) ?_
      exact J13 _ (Option.some.inj hj13).symm _ (lv_sub hl [] rfl) 
def F_X12_scan_L0 (n : Nat) (t_letters : Int) (t_text : Nat → Int) (t_at_l0 : Int) : Option ((Int) ⊕ (Int)) :=
  ck (r4 t_at_l0 ∧ r4 t_letters) <|
  if t_at_l0 < t_letters then
    ck (ix_ t_at_l0 120) <|
    ck (r4 (t_text (t_at_l0).toNat)) <|
    if t_text (t_at_l0).toNat = 32 then
      some (.inl (t_at_l0 + 1))
    else
      some (.inr t_at_l0)
  else
    some (.inr t_at_l0)
def F_X12_scan_L228 (n : Nat) (t_letters : Int) (t_text : Nat → Int) (t_at_l228 : Int) : Option ((Int) ⊕ (Int)) :=
  ck (r4 t_at_l228 ∧ r4 t_letters) <|
  if t_at_l228 < t_letters then
    ck (ix_ t_at_l228 120) <|
    (F_X12_isLetter n (t_text (t_at_l228).toNat)).bind fun o19 =>
    ck (r4 o19) <|
    if o19 = 0 then
      some (.inr t_at_l228)
    else
      some (.inl (t_at_l228 + 1))
  else
    some (.inr t_at_l228)
def F_X12_scan_L102 (n : Nat) (t_letters : Int) (t_text : Nat → Int) (t_at_l102 : Int) (t_tokenValue_l102 : Int) : Option ((Int × Int) ⊕ (Int × Int)) :=
  ck (r4 t_at_l102 ∧ r4 t_letters) <|
  if t_at_l102 < t_letters then
    ck (ix_ t_at_l102 120) <|
    (F_X12_isFigure n (t_text (t_at_l102).toNat)).bind fun o25 =>
    ck (r4 o25) <|
    if o25 = 0 then
      some (.inr (t_at_l102, t_tokenValue_l102))
    else
      Option.bind (α := Int) (
        ck (r4 t_tokenValue_l102) <|
        if 99 < t_tokenValue_l102 then
          some t_tokenValue_l102
        else
          ck (ix_ t_at_l102 120) <|
          some (((10 * t_tokenValue_l102) + (t_text (t_at_l102).toNat)) - 48)) fun o27 =>
      some (.inl (t_at_l102 + 1, o27))
  else
    some (.inr (t_at_l102, t_tokenValue_l102))
def F_X12_scan (n : Nat)  (t_letters : Int) (t_at : Int) (t_tokenValue : Int) (t_text : Nat → Int)  : Option (Int × Int × Int × Int) :=
  (lp_ (fun (q : Int) => F_X12_scan_L0 n t_letters t_text q) n t_at).bind fun o1 =>
  Option.bind (α := Int) (
    ck (r4 o1 ∧ r4 t_letters) <|
    if o1 < t_letters then
      ck (ix_ o1 120) <|
      some (t_text (o1).toNat)
    else
      some 0) fun o5 =>
  Option.bind (α := Int × Int × Int) (
    ck (r4 o1 ∧ r4 t_letters) <|
    if o1 = t_letters then
      some (o1, 2, t_tokenValue)
    else
      (F_X12_isFigure n o5).bind fun o10 =>
      ck (r4 o10) <|
      if o10 = 0 then
        (F_X12_isLetter n o5).bind fun o12 =>
        ck (r4 o12) <|
        if o12 = 0 then
          Option.bind (α := Int) (
            ck (r4 o5) <|
            if o5 = 59 then
              some o5
            else
              some 3) fun o14 =>
          some (o1 + 1, o14, t_tokenValue)
        else
          (lp_ (fun (q : Int) => F_X12_scan_L228 n t_letters t_text q) n o1).bind fun o16 =>
          (F_X12_wordOf n o1 t_text (o16 - o1)).bind fun o21 =>
          some (o16, o21, t_tokenValue)
      else
        (lp_ (fun (q : Int × Int) => F_X12_scan_L102 n t_letters t_text q.1 q.2) n (o1, 0)).bind fun o22 =>
        Option.bind (α := Int) (
          ck (r4 o22.2) <|
          if 99 < o22.2 then
            some 3
          else
            ck (r4 o5) <|
            if o5 = 48 then
              ck (r4 o22.1 ∧ r4 (o1 + 1)) <|
              if o1 + 1 < o22.1 then
                some 3
              else
                some 1
            else
              some 1) fun o30 =>
        some (o22.1, o30, o22.2)) fun o8 =>
  some (o8.1, o1, o8.2.1, o8.2.2)
def rm_X12_scan : Room := { frames := 2, cells := 0, slots := 0, locals := 46 }
set_option maxHeartbeats 4000000 in
set_option maxRecDepth 100000 in
theorem k_X12_scan {l : Launch} {D : va_G} {E : Nat → ClassId} (n : Nat) (a_t a_t_now a_t_read a_t_past a_t_images a_t_isKept a_t_text a_t_metAt a_t_memoryAt a_t_upAt a_t_downAt a_t_isSignal a_t_memories a_t_placeOf a_t_nextPlace a_t_kindOf a_t_newKind a_t_stateOfKind a_t_stateAt a_t_stepTo a_t_far a_t_ways a_t_nextWays a_t_table : Nat) (t_deeds : Int) (t_letters : Int) (t_at : Int) (t_tokenAt : Int) (t_tokenSort : Int) (t_tokenValue : Int) (t_items : Int) (t_isChanceTold : Int) (t_areSumsTold : Int) (t_places : Int) (t_kinds : Int) (t_states : Int) (t_text : Nat → Int) (res : Int × Int × Int × Int) (hf : F_X12_scan n t_letters t_at t_tokenValue t_text = some res) : MW l yX12_scan (.code yX12_scan cX12_scan 2 none) rm_X12_scan D E [.ref a_t] [(a_t, .inr (12, [.ref a_t_now, .ref a_t_read, .ref a_t_past, .int (z4 t_deeds), .ref a_t_images, .ref a_t_isKept, .ref a_t_text, .int (z4 t_letters), .int (z4 t_at), .int (z4 t_tokenAt), .int (z4 t_tokenSort), .int (z4 t_tokenValue), .int (z4 t_items), .int (z4 t_isChanceTold), .int (z4 t_areSumsTold), .ref a_t_metAt, .ref a_t_memoryAt, .ref a_t_upAt, .ref a_t_downAt, .ref a_t_isSignal, .ref a_t_memories, .ref a_t_placeOf, .ref a_t_nextPlace, .int (z4 t_places), .ref a_t_kindOf, .ref a_t_newKind, .int (z4 t_kinds), .ref a_t_stateOfKind, .ref a_t_stateAt, .ref a_t_stepTo, .int (z4 t_states), .ref a_t_far, .ref a_t_ways, .ref a_t_nextWays, .ref a_t_table])), (a_t_text, .inl (E 0, 120, .inl (A4 t_text)))] none [(a_t, .inr (12, [.ref a_t_now, .ref a_t_read, .ref a_t_past, .int (z4 t_deeds), .ref a_t_images, .ref a_t_isKept, .ref a_t_text, .int (z4 t_letters), .int (z4 res.1), .int (z4 res.2.1), .int (z4 res.2.2.1), .int (z4 res.2.2.2), .int (z4 t_items), .int (z4 t_isChanceTold), .int (z4 t_areSumsTold), .ref a_t_metAt, .ref a_t_memoryAt, .ref a_t_upAt, .ref a_t_downAt, .ref a_t_isSignal, .ref a_t_memories, .ref a_t_placeOf, .ref a_t_nextPlace, .int (z4 t_places), .ref a_t_kindOf, .ref a_t_newKind, .int (z4 t_kinds), .ref a_t_stateOfKind, .ref a_t_stateAt, .ref a_t_stepTo, .int (z4 t_states), .ref a_t_far, .ref a_t_ways, .ref a_t_nextWays, .ref a_t_table])), (a_t_text, .inl (E 0, 120, .inl (A4 t_text)))] := by
  refine MWv (by decide) (Nat.le_of_ble_eq_true rfl) ?_
  intro p e s m args below meth c A Q X hK hP hD hA ret ls hl
  have hS : va_S A s.heap s.heap [] := va_S.rf
  have hx := X.1
  have hb := X.2.1
  have hl : lv_has ls 2 [(0, .ref a_t)] := hl
  unfold F_X12_scan at hf
  obtain ⟨o1, hj1, hr1⟩ := bd_some hf
  have E1_0 : ∀ (o_ : Int), o1 = o_ → ∀ (H : Heap) (locs : List Loc) (ls : Array Slot), lv_has ls 2 [(0, .ref a_t)] → va_P D vwCl [(a_t, .inr (12, [.ref a_t_now, .ref a_t_read, .ref a_t_past, .int (z4 t_deeds), .ref a_t_images, .ref a_t_isKept, .ref a_t_text, .int (z4 t_letters), .int (z4 o_), .int (z4 t_tokenAt), .int (z4 t_tokenSort), .int (z4 t_tokenValue), .int (z4 t_items), .int (z4 t_isChanceTold), .int (z4 t_areSumsTold), .ref a_t_metAt, .ref a_t_memoryAt, .ref a_t_upAt, .ref a_t_downAt, .ref a_t_isSignal, .ref a_t_memories, .ref a_t_placeOf, .ref a_t_nextPlace, .int (z4 t_places), .ref a_t_kindOf, .ref a_t_newKind, .int (z4 t_kinds), .ref a_t_stateOfKind, .ref a_t_stateAt, .ref a_t_stepTo, .int (z4 t_states), .ref a_t_far, .ref a_t_ways, .ref a_t_nextWays, .ref a_t_table])), (a_t_text, .inl (E 0, 120, .inl (A4 t_text)))] H → va_D A [(a_t, .inr (12, [.ref a_t_now, .ref a_t_read, .ref a_t_past, .int (z4 t_deeds), .ref a_t_images, .ref a_t_isKept, .ref a_t_text, .int (z4 t_letters), .int (z4 o_), .int (z4 t_tokenAt), .int (z4 t_tokenSort), .int (z4 t_tokenValue), .int (z4 t_items), .int (z4 t_isChanceTold), .int (z4 t_areSumsTold), .ref a_t_metAt, .ref a_t_memoryAt, .ref a_t_upAt, .ref a_t_downAt, .ref a_t_isSignal, .ref a_t_memories, .ref a_t_placeOf, .ref a_t_nextPlace, .int (z4 t_places), .ref a_t_kindOf, .ref a_t_newKind, .int (z4 t_kinds), .ref a_t_stateOfKind, .ref a_t_stateAt, .ref a_t_stepTo, .int (z4 t_states), .ref a_t_far, .ref a_t_ways, .ref a_t_nextWays, .ref a_t_table])), (a_t_text, .inl (E 0, 120, .inl (A4 t_text)))] → va_S A s.heap H locs → W p l e rm_X12_scan s m args below meth c H locs 0 0 Q (F0 m 38 ls []) := by
    intro o_ ho_ H locs ls hl hP hD hS
    subst ho_
    refine lv_aload_n hx hb dX12_scan_38 rfl (lv_at hl 0 rfl) ?_
    refine lv_aload_n hx hb dX12_scan_39 rfl (lv_at hl 0 rfl) ?_
    refine m_get X hK hP cl_X12 iT_X12 8 (by decide) fl_X12_99 0 rfl rfl dX12_scan_40 ?_
    refine m_put X hK hP hD hS cl_X12 iT_X12 tyX12 tyX12_ok nmX12 9 (by decide) fl_X12_91 rfl 0 rfl rfl rfl (Nat.le_of_ble_eq_true rfl) [(a_t, .inr (12, [.ref a_t_now, .ref a_t_read, .ref a_t_past, .int (z4 t_deeds), .ref a_t_images, .ref a_t_isKept, .ref a_t_text, .int (z4 t_letters), .int (z4 o1), .int (z4 o1), .int (z4 t_tokenSort), .int (z4 t_tokenValue), .int (z4 t_items), .int (z4 t_isChanceTold), .int (z4 t_areSumsTold), .ref a_t_metAt, .ref a_t_memoryAt, .ref a_t_upAt, .ref a_t_downAt, .ref a_t_isSignal, .ref a_t_memories, .ref a_t_placeOf, .ref a_t_nextPlace, .int (z4 t_places), .ref a_t_kindOf, .ref a_t_newKind, .int (z4 t_kinds), .ref a_t_stateOfKind, .ref a_t_stateAt, .ref a_t_stepTo, .int (z4 t_states), .ref a_t_far, .ref a_t_ways, .ref a_t_nextWays, .ref a_t_table])), (a_t_text, .inl (E 0, 120, .inl (A4 t_text)))] rfl dX12_scan_43 (fun H locs hP hD hS => ?_)
    refine lv_aload_n hx hb dX12_scan_46 rfl (lv_at hl 0 rfl) ?_
    refine m_get X hK hP cl_X12 iT_X12 8 (by decide) fl_X12_99 0 rfl rfl dX12_scan_47 ?_
    refine lv_aload_n hx hb dX12_scan_50 rfl (lv_at hl 0 rfl) ?_
    refine m_get X hK hP cl_X12 iT_X12 7 (by decide) fl_X12_102 0 rfl rfl dX12_scan_51 ?_
    obtain ⟨o5, hj5, hr5⟩ := bd_some hr1
    have J5 : ∀ (o_ : Int), o5 = o_ → ∀ (H : Heap) (locs : List Loc) (ls : Array Slot), lv_has ls 2 [(0, .ref a_t)] → va_P D vwCl [(a_t, .inr (12, [.ref a_t_now, .ref a_t_read, .ref a_t_past, .int (z4 t_deeds), .ref a_t_images, .ref a_t_isKept, .ref a_t_text, .int (z4 t_letters), .int (z4 o1), .int (z4 o1), .int (z4 t_tokenSort), .int (z4 t_tokenValue), .int (z4 t_items), .int (z4 t_isChanceTold), .int (z4 t_areSumsTold), .ref a_t_metAt, .ref a_t_memoryAt, .ref a_t_upAt, .ref a_t_downAt, .ref a_t_isSignal, .ref a_t_memories, .ref a_t_placeOf, .ref a_t_nextPlace, .int (z4 t_places), .ref a_t_kindOf, .ref a_t_newKind, .int (z4 t_kinds), .ref a_t_stateOfKind, .ref a_t_stateAt, .ref a_t_stepTo, .int (z4 t_states), .ref a_t_far, .ref a_t_ways, .ref a_t_nextWays, .ref a_t_table])), (a_t_text, .inl (E 0, 120, .inl (A4 t_text)))] H → va_D A [(a_t, .inr (12, [.ref a_t_now, .ref a_t_read, .ref a_t_past, .int (z4 t_deeds), .ref a_t_images, .ref a_t_isKept, .ref a_t_text, .int (z4 t_letters), .int (z4 o1), .int (z4 o1), .int (z4 t_tokenSort), .int (z4 t_tokenValue), .int (z4 t_items), .int (z4 t_isChanceTold), .int (z4 t_areSumsTold), .ref a_t_metAt, .ref a_t_memoryAt, .ref a_t_upAt, .ref a_t_downAt, .ref a_t_isSignal, .ref a_t_memories, .ref a_t_placeOf, .ref a_t_nextPlace, .int (z4 t_places), .ref a_t_kindOf, .ref a_t_newKind, .int (z4 t_kinds), .ref a_t_stateOfKind, .ref a_t_stateAt, .ref a_t_stepTo, .int (z4 t_states), .ref a_t_far, .ref a_t_ways, .ref a_t_nextWays, .ref a_t_table])), (a_t_text, .inl (E 0, 120, .inl (A4 t_text)))] → va_S A s.heap H locs → W p l e rm_X12_scan s m args below meth c H locs 0 0 Q (F0 m 70 ls [.int (z4 o_)]) := by
      intro o_ ho_ H locs ls hl hP hD hS
      subst ho_
      refine lv_istore_n (lv' := [(1, .int (z4 o5)), (0, .ref a_t)]) hx hb dX12_scan_70 rfl hl (by decide) rfl (fun ls hl => ?_)
      refine lv_aload_n hx hb dX12_scan_71 rfl (lv_at hl 1 rfl) ?_
      refine m_get X hK hP cl_X12 iT_X12 8 (by decide) fl_X12_99 0 rfl rfl dX12_scan_72 ?_
      refine lv_aload_n hx hb dX12_scan_75 rfl (lv_at hl 1 rfl) ?_
      refine m_get X hK hP cl_X12 iT_X12 7 (by decide) fl_X12_102 0 rfl rfl dX12_scan_76 ?_
      obtain ⟨o8, hj8, hr8⟩ := bd_some hr5
      have J8 : ∀ (o_ : Int × Int × Int), o8 = o_ → ∀ (H : Heap) (locs : List Loc) (ls : Array Slot), lv_has ls 2 [] → va_P D vwCl [(a_t, .inr (12, [.ref a_t_now, .ref a_t_read, .ref a_t_past, .int (z4 t_deeds), .ref a_t_images, .ref a_t_isKept, .ref a_t_text, .int (z4 t_letters), .int (z4 o_.1), .int (z4 o1), .int (z4 o_.2.1), .int (z4 o_.2.2), .int (z4 t_items), .int (z4 t_isChanceTold), .int (z4 t_areSumsTold), .ref a_t_metAt, .ref a_t_memoryAt, .ref a_t_upAt, .ref a_t_downAt, .ref a_t_isSignal, .ref a_t_memories, .ref a_t_placeOf, .ref a_t_nextPlace, .int (z4 t_places), .ref a_t_kindOf, .ref a_t_newKind, .int (z4 t_kinds), .ref a_t_stateOfKind, .ref a_t_stateAt, .ref a_t_stepTo, .int (z4 t_states), .ref a_t_far, .ref a_t_ways, .ref a_t_nextWays, .ref a_t_table])), (a_t_text, .inl (E 0, 120, .inl (A4 t_text)))] H → va_D A [(a_t, .inr (12, [.ref a_t_now, .ref a_t_read, .ref a_t_past, .int (z4 t_deeds), .ref a_t_images, .ref a_t_isKept, .ref a_t_text, .int (z4 t_letters), .int (z4 o_.1), .int (z4 o1), .int (z4 o_.2.1), .int (z4 o_.2.2), .int (z4 t_items), .int (z4 t_isChanceTold), .int (z4 t_areSumsTold), .ref a_t_metAt, .ref a_t_memoryAt, .ref a_t_upAt, .ref a_t_downAt, .ref a_t_isSignal, .ref a_t_memories, .ref a_t_placeOf, .ref a_t_nextPlace, .int (z4 t_places), .ref a_t_kindOf, .ref a_t_newKind, .int (z4 t_kinds), .ref a_t_stateOfKind, .ref a_t_stateAt, .ref a_t_stepTo, .int (z4 t_states), .ref a_t_far, .ref a_t_ways, .ref a_t_nextWays, .ref a_t_table])), (a_t_text, .inl (E 0, 120, .inl (A4 t_text)))] → va_S A s.heap H locs → W p l e rm_X12_scan s m args below meth c H locs 0 0 Q (F0 m 312 ls []) := by
        intro o_ ho_ H locs ls hl hP hD hS
        subst ho_
        obtain rfl := Option.some.inj hr8
        exact ret _ _ _ _ hP hD hS dX12_scan_312
      obtain ⟨h9, hj8⟩ := ck_some hj8
      refine m_icmp_ne X h9 dX12_scan_79 (tgt := 90) (by decide) (fun (hc_ : ¬ (o1 = t_letters)) => ?_) (fun (hc_ : o1 = t_letters) => ?_)
      · rw [if_neg hc_] at hj8
        refine lv_iload_n hx hb dX12_scan_90 rfl (lv_at hl 0 rfl) ?_
        obtain ⟨o10, ho, hj8⟩ := bd_some hj8
        refine m_cSR X hK (k_X12_isFigure n o5 o10 ho) (hP.sub (ws' := []) [] rfl) lk_X12_108 co_X12_isFigure dy_X12_isFigure rfl rfl ⟨Nat.le_of_ble_eq_true rfl, Nat.le_of_ble_eq_true rfl⟩ hl.1 rfl (Nat.le_of_ble_eq_true rfl) dX12_scan_91 (Nat.zero_le _) (Nat.zero_le _) ?_
        obtain ⟨h11, hj8⟩ := ck_some hj8
        refine m_if_eq X h11 dX12_scan_94 (tgt := 221) (by decide) (fun (hc_ : o10 = 0) => ?_) (fun (hc_ : ¬ (o10 = 0)) => ?_)
        · rw [if_pos hc_] at hj8
          refine lv_iload_n hx hb dX12_scan_221 rfl (lv_at hl 0 rfl) ?_
          obtain ⟨o12, ho, hj8⟩ := bd_some hj8
          refine m_cSR X hK (k_X12_isLetter n o5 o12 ho) (hP.sub (ws' := []) [] rfl) lk_X12_115 co_X12_isLetter dy_X12_isLetter rfl rfl ⟨Nat.le_of_ble_eq_true rfl, Nat.le_of_ble_eq_true rfl⟩ hl.1 rfl (Nat.le_of_ble_eq_true rfl) dX12_scan_222 (Nat.zero_le _) (Nat.zero_le _) ?_
          obtain ⟨h13, hj8⟩ := ck_some hj8
          refine m_if_eq X h13 dX12_scan_225 (tgt := 287) (by decide) (fun (hc_ : o12 = 0) => ?_) (fun (hc_ : ¬ (o12 = 0)) => ?_)
          · rw [if_pos hc_] at hj8
            refine lv_aload_n hx hb dX12_scan_287 rfl (lv_at hl 1 rfl) ?_
            refine lv_iload_n hx hb dX12_scan_288 rfl (lv_at hl 0 rfl) ?_
            refine m_bipush X dX12_scan_289 (by decide) ?_
            obtain ⟨o14, hj14, hr14⟩ := bd_some hj8
            have J14 : ∀ (o_ : Int), o14 = o_ → ∀ (H : Heap) (locs : List Loc) (ls : Array Slot), lv_has ls 2 [(0, .ref a_t)] → va_P D vwCl [(a_t, .inr (12, [.ref a_t_now, .ref a_t_read, .ref a_t_past, .int (z4 t_deeds), .ref a_t_images, .ref a_t_isKept, .ref a_t_text, .int (z4 t_letters), .int (z4 o1), .int (z4 o1), .int (z4 t_tokenSort), .int (z4 t_tokenValue), .int (z4 t_items), .int (z4 t_isChanceTold), .int (z4 t_areSumsTold), .ref a_t_metAt, .ref a_t_memoryAt, .ref a_t_upAt, .ref a_t_downAt, .ref a_t_isSignal, .ref a_t_memories, .ref a_t_placeOf, .ref a_t_nextPlace, .int (z4 t_places), .ref a_t_kindOf, .ref a_t_newKind, .int (z4 t_kinds), .ref a_t_stateOfKind, .ref a_t_stateAt, .ref a_t_stepTo, .int (z4 t_states), .ref a_t_far, .ref a_t_ways, .ref a_t_nextWays, .ref a_t_table])), (a_t_text, .inl (E 0, 120, .inl (A4 t_text)))] H → va_D A [(a_t, .inr (12, [.ref a_t_now, .ref a_t_read, .ref a_t_past, .int (z4 t_deeds), .ref a_t_images, .ref a_t_isKept, .ref a_t_text, .int (z4 t_letters), .int (z4 o1), .int (z4 o1), .int (z4 t_tokenSort), .int (z4 t_tokenValue), .int (z4 t_items), .int (z4 t_isChanceTold), .int (z4 t_areSumsTold), .ref a_t_metAt, .ref a_t_memoryAt, .ref a_t_upAt, .ref a_t_downAt, .ref a_t_isSignal, .ref a_t_memories, .ref a_t_placeOf, .ref a_t_nextPlace, .int (z4 t_places), .ref a_t_kindOf, .ref a_t_newKind, .int (z4 t_kinds), .ref a_t_stateOfKind, .ref a_t_stateAt, .ref a_t_stepTo, .int (z4 t_states), .ref a_t_far, .ref a_t_ways, .ref a_t_nextWays, .ref a_t_table])), (a_t_text, .inl (E 0, 120, .inl (A4 t_text)))] → va_S A s.heap H locs → W p l e rm_X12_scan s m args below meth c H locs 0 0 Q (F0 m 299 ls [.int (z4 o_), .ref a_t]) := by
              intro o_ ho_ H locs ls hl hP hD hS
              subst ho_
              refine m_put X hK hP hD hS cl_X12 iT_X12 tyX12 tyX12_ok nmX12 10 (by decide) fl_X12_105 rfl 0 rfl rfl rfl (Nat.le_of_ble_eq_true rfl) [(a_t, .inr (12, [.ref a_t_now, .ref a_t_read, .ref a_t_past, .int (z4 t_deeds), .ref a_t_images, .ref a_t_isKept, .ref a_t_text, .int (z4 t_letters), .int (z4 o1), .int (z4 o1), .int (z4 o14), .int (z4 t_tokenValue), .int (z4 t_items), .int (z4 t_isChanceTold), .int (z4 t_areSumsTold), .ref a_t_metAt, .ref a_t_memoryAt, .ref a_t_upAt, .ref a_t_downAt, .ref a_t_isSignal, .ref a_t_memories, .ref a_t_placeOf, .ref a_t_nextPlace, .int (z4 t_places), .ref a_t_kindOf, .ref a_t_newKind, .int (z4 t_kinds), .ref a_t_stateOfKind, .ref a_t_stateAt, .ref a_t_stepTo, .int (z4 t_states), .ref a_t_far, .ref a_t_ways, .ref a_t_nextWays, .ref a_t_table])), (a_t_text, .inl (E 0, 120, .inl (A4 t_text)))] rfl dX12_scan_299 (fun H locs hP hD hS => ?_)
              refine lv_aload_n hx hb dX12_scan_302 rfl (lv_at hl 0 rfl) ?_
              refine lv_dup hx hb dX12_scan_303 rfl ?_
              refine m_get X hK hP cl_X12 iT_X12 8 (by decide) fl_X12_99 0 rfl rfl dX12_scan_304 ?_
              refine m_iconst X dX12_scan_307 ?_
              refine m_iadd X dX12_scan_308 ?_
              refine m_put X hK hP hD hS cl_X12 iT_X12 tyX12 tyX12_ok nmX12 8 (by decide) fl_X12_99 rfl 0 rfl rfl rfl (Nat.le_of_ble_eq_true rfl) [(a_t, .inr (12, [.ref a_t_now, .ref a_t_read, .ref a_t_past, .int (z4 t_deeds), .ref a_t_images, .ref a_t_isKept, .ref a_t_text, .int (z4 t_letters), .int (z4 (o1 + 1)), .int (z4 o1), .int (z4 o14), .int (z4 t_tokenValue), .int (z4 t_items), .int (z4 t_isChanceTold), .int (z4 t_areSumsTold), .ref a_t_metAt, .ref a_t_memoryAt, .ref a_t_upAt, .ref a_t_downAt, .ref a_t_isSignal, .ref a_t_memories, .ref a_t_placeOf, .ref a_t_nextPlace, .int (z4 t_places), .ref a_t_kindOf, .ref a_t_newKind, .int (z4 t_kinds), .ref a_t_stateOfKind, .ref a_t_stateAt, .ref a_t_stepTo, .int (z4 t_states), .ref a_t_far, .ref a_t_ways, .ref a_t_nextWays, .ref a_t_table])), (a_t_text, .inl (E 0, 120, .inl (A4 t_text)))] rfl dX12_scan_309 (fun H locs hP hD hS => ?_)
              exact J8 _ (Option.some.inj hr14).symm _ _ _ (lv_sub hl [] rfl) hP hD hS
            obtain ⟨h15, hj14⟩ := ck_some hj14
            refine m_icmp_ne X ⟨h15, ⟨by decide, by decide⟩⟩ dX12_scan_291 (tgt := 298) (by decide) (fun (hc_ : ¬ (o5 = 59)) => ?_) (fun (hc_ : o5 = 59) => ?_)
            · rw [if_neg hc_] at hj14
              refine m_iconst X dX12_scan_298 ?_
              exact J14 _ (Option.some.inj hj14).symm _ _ _ (lv_sub hl [1] rfl) hP hD hS
            · rw [if_pos hc_] at hj14
              refine lv_iload_n hx hb dX12_scan_294 rfl (lv_at hl 0 rfl) ?_
              refine lv_goto (tgt := 299) hx hb dX12_scan_295 (by decide) ?_
              exact J14 _ (Option.some.inj hj14).symm _ _ _ (lv_sub hl [1] rfl) hP hD hS
          · rw [if_neg hc_] at hj8
            obtain ⟨o16, hj16, hr16⟩ := bd_some hj8
            have E16_0 : ∀ (o_ : Int), o16 = o_ → ∀ (H : Heap) (locs : List Loc) (ls : Array Slot), lv_has ls 2 [(0, .ref a_t)] → va_P D vwCl [(a_t, .inr (12, [.ref a_t_now, .ref a_t_read, .ref a_t_past, .int (z4 t_deeds), .ref a_t_images, .ref a_t_isKept, .ref a_t_text, .int (z4 t_letters), .int (z4 o_), .int (z4 o1), .int (z4 t_tokenSort), .int (z4 t_tokenValue), .int (z4 t_items), .int (z4 t_isChanceTold), .int (z4 t_areSumsTold), .ref a_t_metAt, .ref a_t_memoryAt, .ref a_t_upAt, .ref a_t_downAt, .ref a_t_isSignal, .ref a_t_memories, .ref a_t_placeOf, .ref a_t_nextPlace, .int (z4 t_places), .ref a_t_kindOf, .ref a_t_newKind, .int (z4 t_kinds), .ref a_t_stateOfKind, .ref a_t_stateAt, .ref a_t_stepTo, .int (z4 t_states), .ref a_t_far, .ref a_t_ways, .ref a_t_nextWays, .ref a_t_table])), (a_t_text, .inl (E 0, 120, .inl (A4 t_text)))] H → va_D A [(a_t, .inr (12, [.ref a_t_now, .ref a_t_read, .ref a_t_past, .int (z4 t_deeds), .ref a_t_images, .ref a_t_isKept, .ref a_t_text, .int (z4 t_letters), .int (z4 o_), .int (z4 o1), .int (z4 t_tokenSort), .int (z4 t_tokenValue), .int (z4 t_items), .int (z4 t_isChanceTold), .int (z4 t_areSumsTold), .ref a_t_metAt, .ref a_t_memoryAt, .ref a_t_upAt, .ref a_t_downAt, .ref a_t_isSignal, .ref a_t_memories, .ref a_t_placeOf, .ref a_t_nextPlace, .int (z4 t_places), .ref a_t_kindOf, .ref a_t_newKind, .int (z4 t_kinds), .ref a_t_stateOfKind, .ref a_t_stateAt, .ref a_t_stepTo, .int (z4 t_states), .ref a_t_far, .ref a_t_ways, .ref a_t_nextWays, .ref a_t_table])), (a_t_text, .inl (E 0, 120, .inl (A4 t_text)))] → va_S A s.heap H locs → W p l e rm_X12_scan s m args below meth c H locs 0 0 Q (F0 m 267 ls []) := by
              intro o_ ho_ H locs ls hl hP hD hS
              subst ho_
              refine lv_aload_n hx hb dX12_scan_267 rfl (lv_at hl 0 rfl) ?_
              refine lv_aload_n hx hb dX12_scan_268 rfl (lv_at hl 0 rfl) ?_
              refine lv_aload_n hx hb dX12_scan_269 rfl (lv_at hl 0 rfl) ?_
              refine m_get X hK hP cl_X12 iT_X12 8 (by decide) fl_X12_99 0 rfl rfl dX12_scan_270 ?_
              refine lv_aload_n hx hb dX12_scan_273 rfl (lv_at hl 0 rfl) ?_
              refine m_get X hK hP cl_X12 iT_X12 9 (by decide) fl_X12_91 0 rfl rfl dX12_scan_274 ?_
              refine m_isub X dX12_scan_277 ?_
              obtain ⟨o21, ho, hr16⟩ := bd_some hr16
              refine m_cVR X hK (k_X12_wordOf n a_t a_t_now a_t_read a_t_past a_t_images a_t_isKept a_t_text a_t_metAt a_t_memoryAt a_t_upAt a_t_downAt a_t_isSignal a_t_memories a_t_placeOf a_t_nextPlace a_t_kindOf a_t_newKind a_t_stateOfKind a_t_stateAt a_t_stepTo a_t_far a_t_ways a_t_nextWays a_t_table t_deeds t_letters o16 o1 t_tokenSort t_tokenValue t_items t_isChanceTold t_areSumsTold t_places t_kinds t_states t_text (o16 - o1) o21 ho) (hP.sub [0, 1] rfl) rfl cl_X12 lk_X12_118 co_X12_wordOf dy_X12_wordOf rfl rfl ⟨Nat.le_of_ble_eq_true rfl, Nat.le_of_ble_eq_true rfl⟩ hl.1 rfl (Nat.le_of_ble_eq_true rfl) dX12_scan_278 (Nat.zero_le _) (Nat.zero_le _) ?_
              refine m_put X hK hP hD hS cl_X12 iT_X12 tyX12 tyX12_ok nmX12 10 (by decide) fl_X12_105 rfl 0 rfl rfl rfl (Nat.le_of_ble_eq_true rfl) [(a_t, .inr (12, [.ref a_t_now, .ref a_t_read, .ref a_t_past, .int (z4 t_deeds), .ref a_t_images, .ref a_t_isKept, .ref a_t_text, .int (z4 t_letters), .int (z4 o16), .int (z4 o1), .int (z4 o21), .int (z4 t_tokenValue), .int (z4 t_items), .int (z4 t_isChanceTold), .int (z4 t_areSumsTold), .ref a_t_metAt, .ref a_t_memoryAt, .ref a_t_upAt, .ref a_t_downAt, .ref a_t_isSignal, .ref a_t_memories, .ref a_t_placeOf, .ref a_t_nextPlace, .int (z4 t_places), .ref a_t_kindOf, .ref a_t_newKind, .int (z4 t_kinds), .ref a_t_stateOfKind, .ref a_t_stateAt, .ref a_t_stepTo, .int (z4 t_states), .ref a_t_far, .ref a_t_ways, .ref a_t_nextWays, .ref a_t_table])), (a_t_text, .inl (E 0, 120, .inl (A4 t_text)))] rfl dX12_scan_281 (fun H locs hP hD hS => ?_)
              refine lv_goto (tgt := 312) hx hb dX12_scan_284 (by decide) ?_
              exact J8 _ (Option.some.inj hr16).symm _ _ _ (lv_sub hl [] rfl) hP hD hS
            have L16 : ∀ (k_ : Nat) (t_at_l228 : Int), ∀ (H : Heap) (locs : List Loc) (ls : Array Slot), lv_has ls 2 [(0, .ref a_t)] → va_P D vwCl [(a_t, .inr (12, [.ref a_t_now, .ref a_t_read, .ref a_t_past, .int (z4 t_deeds), .ref a_t_images, .ref a_t_isKept, .ref a_t_text, .int (z4 t_letters), .int (z4 t_at_l228), .int (z4 o1), .int (z4 t_tokenSort), .int (z4 t_tokenValue), .int (z4 t_items), .int (z4 t_isChanceTold), .int (z4 t_areSumsTold), .ref a_t_metAt, .ref a_t_memoryAt, .ref a_t_upAt, .ref a_t_downAt, .ref a_t_isSignal, .ref a_t_memories, .ref a_t_placeOf, .ref a_t_nextPlace, .int (z4 t_places), .ref a_t_kindOf, .ref a_t_newKind, .int (z4 t_kinds), .ref a_t_stateOfKind, .ref a_t_stateAt, .ref a_t_stepTo, .int (z4 t_states), .ref a_t_far, .ref a_t_ways, .ref a_t_nextWays, .ref a_t_table])), (a_t_text, .inl (E 0, 120, .inl (A4 t_text)))] H → va_D A [(a_t, .inr (12, [.ref a_t_now, .ref a_t_read, .ref a_t_past, .int (z4 t_deeds), .ref a_t_images, .ref a_t_isKept, .ref a_t_text, .int (z4 t_letters), .int (z4 t_at_l228), .int (z4 o1), .int (z4 t_tokenSort), .int (z4 t_tokenValue), .int (z4 t_items), .int (z4 t_isChanceTold), .int (z4 t_areSumsTold), .ref a_t_metAt, .ref a_t_memoryAt, .ref a_t_upAt, .ref a_t_downAt, .ref a_t_isSignal, .ref a_t_memories, .ref a_t_placeOf, .ref a_t_nextPlace, .int (z4 t_places), .ref a_t_kindOf, .ref a_t_newKind, .int (z4 t_kinds), .ref a_t_stateOfKind, .ref a_t_stateAt, .ref a_t_stepTo, .int (z4 t_states), .ref a_t_far, .ref a_t_ways, .ref a_t_nextWays, .ref a_t_table])), (a_t_text, .inl (E 0, 120, .inl (A4 t_text)))] → va_S A s.heap H locs → lp_ (fun (q : Int) => F_X12_scan_L228 n t_letters t_text q) k_ t_at_l228 = some o16 → W p l e rm_X12_scan s m args below meth c H locs 0 0 Q (F0 m 228 ls []) := by
              intro k_
              induction k_ with
              | zero =>
                intro t_at_l228 H locs ls hl hP hD hS hq_; exact (lp_zero hq_).elim
              | succ k_ ih16 =>
                intro t_at_l228 H locs ls hl hP hD hS hq_
                obtain ⟨t_16, hb16, hq16⟩ := lp_some hq_
                replace hb16 : F_X12_scan_L228 n t_letters t_text t_at_l228 = some t_16 := hb16
                unfold F_X12_scan_L228 at hb16
                refine lv_aload_n hx hb dX12_scan_228 rfl (lv_at hl 0 rfl) ?_
                refine m_get X hK hP cl_X12 iT_X12 8 (by decide) fl_X12_99 0 rfl rfl dX12_scan_229 ?_
                refine lv_aload_n hx hb dX12_scan_232 rfl (lv_at hl 0 rfl) ?_
                refine m_get X hK hP cl_X12 iT_X12 7 (by decide) fl_X12_102 0 rfl rfl dX12_scan_233 ?_
                obtain ⟨h17, hb16⟩ := ck_some hb16
                refine m_icmp_ge X h17 dX12_scan_236 (tgt := 267) (by decide) (fun (hc_ : ¬ (t_at_l228 < t_letters)) => ?_) (fun (hc_ : t_at_l228 < t_letters) => ?_)
                · rw [if_neg hc_] at hb16
                  obtain rfl := Option.some.inj hb16
                  exact E16_0 _ (Option.some.inj hq16).symm _ _ _ (lv_sub hl [0] rfl) hP hD hS
                · rw [if_pos hc_] at hb16
                  refine lv_aload_n hx hb dX12_scan_239 rfl (lv_at hl 0 rfl) ?_
                  refine m_get X hK hP cl_X12 iT_X12 6 (by decide) fl_X12_26 0 rfl rfl dX12_scan_240 ?_
                  refine lv_aload_n hx hb dX12_scan_243 rfl (lv_at hl 0 rfl) ?_
                  refine m_get X hK hP cl_X12 iT_X12 8 (by decide) fl_X12_99 0 rfl rfl dX12_scan_244 ?_
                  obtain ⟨h18, hb16⟩ := ck_some hb16
                  refine m_iald X hK hP 1 rfl (by decide) h18 dX12_scan_247 ?_
                  obtain ⟨o19, ho, hb16⟩ := bd_some hb16
                  refine m_cSR X hK (k_X12_isLetter n (t_text (t_at_l228).toNat) o19 ho) (hP.sub (ws' := []) [] rfl) lk_X12_115 co_X12_isLetter dy_X12_isLetter rfl rfl ⟨Nat.le_of_ble_eq_true rfl, Nat.le_of_ble_eq_true rfl⟩ hl.1 rfl (Nat.le_of_ble_eq_true rfl) dX12_scan_248 (Nat.zero_le _) (Nat.zero_le _) ?_
                  obtain ⟨h20, hb16⟩ := ck_some hb16
                  refine m_if_eq X h20 dX12_scan_251 (tgt := 267) (by decide) (fun (hc_ : o19 = 0) => ?_) (fun (hc_ : ¬ (o19 = 0)) => ?_)
                  · rw [if_pos hc_] at hb16
                    obtain rfl := Option.some.inj hb16
                    exact E16_0 _ (Option.some.inj hq16).symm _ _ _ (lv_sub hl [0] rfl) hP hD hS
                  · rw [if_neg hc_] at hb16
                    refine lv_aload_n hx hb dX12_scan_254 rfl (lv_at hl 0 rfl) ?_
                    refine lv_dup hx hb dX12_scan_255 rfl ?_
                    refine m_get X hK hP cl_X12 iT_X12 8 (by decide) fl_X12_99 0 rfl rfl dX12_scan_256 ?_
                    refine m_iconst X dX12_scan_259 ?_
                    refine m_iadd X dX12_scan_260 ?_
                    refine m_put X hK hP hD hS cl_X12 iT_X12 tyX12 tyX12_ok nmX12 8 (by decide) fl_X12_99 rfl 0 rfl rfl rfl (Nat.le_of_ble_eq_true rfl) [(a_t, .inr (12, [.ref a_t_now, .ref a_t_read, .ref a_t_past, .int (z4 t_deeds), .ref a_t_images, .ref a_t_isKept, .ref a_t_text, .int (z4 t_letters), .int (z4 (t_at_l228 + 1)), .int (z4 o1), .int (z4 t_tokenSort), .int (z4 t_tokenValue), .int (z4 t_items), .int (z4 t_isChanceTold), .int (z4 t_areSumsTold), .ref a_t_metAt, .ref a_t_memoryAt, .ref a_t_upAt, .ref a_t_downAt, .ref a_t_isSignal, .ref a_t_memories, .ref a_t_placeOf, .ref a_t_nextPlace, .int (z4 t_places), .ref a_t_kindOf, .ref a_t_newKind, .int (z4 t_kinds), .ref a_t_stateOfKind, .ref a_t_stateAt, .ref a_t_stepTo, .int (z4 t_states), .ref a_t_far, .ref a_t_ways, .ref a_t_nextWays, .ref a_t_table])), (a_t_text, .inl (E 0, 120, .inl (A4 t_text)))] rfl dX12_scan_261 (fun H locs hP hD hS => ?_)
                    refine lv_goto (tgt := 228) hx hb dX12_scan_264 (by decide) ?_
                    obtain rfl := Option.some.inj hb16
                    exact ih16 _ _ _ _ (lv_sub hl [0] rfl) hP hD hS hq16
            exact L16 n _ _ _ _ (lv_sub hl [1] rfl) hP hD hS hj16
        · rw [if_neg hc_] at hj8
          refine lv_aload_n hx hb dX12_scan_97 rfl (lv_at hl 1 rfl) ?_
          refine m_iconst X dX12_scan_98 ?_
          refine m_put X hK hP hD hS cl_X12 iT_X12 tyX12 tyX12_ok nmX12 11 (by decide) fl_X12_112 rfl 0 rfl rfl rfl (Nat.le_of_ble_eq_true rfl) [(a_t, .inr (12, [.ref a_t_now, .ref a_t_read, .ref a_t_past, .int (z4 t_deeds), .ref a_t_images, .ref a_t_isKept, .ref a_t_text, .int (z4 t_letters), .int (z4 o1), .int (z4 o1), .int (z4 t_tokenSort), .int (z4 0), .int (z4 t_items), .int (z4 t_isChanceTold), .int (z4 t_areSumsTold), .ref a_t_metAt, .ref a_t_memoryAt, .ref a_t_upAt, .ref a_t_downAt, .ref a_t_isSignal, .ref a_t_memories, .ref a_t_placeOf, .ref a_t_nextPlace, .int (z4 t_places), .ref a_t_kindOf, .ref a_t_newKind, .int (z4 t_kinds), .ref a_t_stateOfKind, .ref a_t_stateAt, .ref a_t_stepTo, .int (z4 t_states), .ref a_t_far, .ref a_t_ways, .ref a_t_nextWays, .ref a_t_table])), (a_t_text, .inl (E 0, 120, .inl (A4 t_text)))] rfl dX12_scan_99 (fun H locs hP hD hS => ?_)
          obtain ⟨o22, hj22, hr22⟩ := bd_some hj8
          have E22_0 : ∀ (o_ : Int × Int), o22 = o_ → ∀ (H : Heap) (locs : List Loc) (ls : Array Slot), lv_has ls 2 [(0, .ref a_t), (1, .int (z4 o5))] → va_P D vwCl [(a_t, .inr (12, [.ref a_t_now, .ref a_t_read, .ref a_t_past, .int (z4 t_deeds), .ref a_t_images, .ref a_t_isKept, .ref a_t_text, .int (z4 t_letters), .int (z4 o_.1), .int (z4 o1), .int (z4 t_tokenSort), .int (z4 o_.2), .int (z4 t_items), .int (z4 t_isChanceTold), .int (z4 t_areSumsTold), .ref a_t_metAt, .ref a_t_memoryAt, .ref a_t_upAt, .ref a_t_downAt, .ref a_t_isSignal, .ref a_t_memories, .ref a_t_placeOf, .ref a_t_nextPlace, .int (z4 t_places), .ref a_t_kindOf, .ref a_t_newKind, .int (z4 t_kinds), .ref a_t_stateOfKind, .ref a_t_stateAt, .ref a_t_stepTo, .int (z4 t_states), .ref a_t_far, .ref a_t_ways, .ref a_t_nextWays, .ref a_t_table])), (a_t_text, .inl (E 0, 120, .inl (A4 t_text)))] H → va_D A [(a_t, .inr (12, [.ref a_t_now, .ref a_t_read, .ref a_t_past, .int (z4 t_deeds), .ref a_t_images, .ref a_t_isKept, .ref a_t_text, .int (z4 t_letters), .int (z4 o_.1), .int (z4 o1), .int (z4 t_tokenSort), .int (z4 o_.2), .int (z4 t_items), .int (z4 t_isChanceTold), .int (z4 t_areSumsTold), .ref a_t_metAt, .ref a_t_memoryAt, .ref a_t_upAt, .ref a_t_downAt, .ref a_t_isSignal, .ref a_t_memories, .ref a_t_placeOf, .ref a_t_nextPlace, .int (z4 t_places), .ref a_t_kindOf, .ref a_t_newKind, .int (z4 t_kinds), .ref a_t_stateOfKind, .ref a_t_stateAt, .ref a_t_stepTo, .int (z4 t_states), .ref a_t_far, .ref a_t_ways, .ref a_t_nextWays, .ref a_t_table])), (a_t_text, .inl (E 0, 120, .inl (A4 t_text)))] → va_S A s.heap H locs → W p l e rm_X12_scan s m args below meth c H locs 0 0 Q (F0 m 181 ls []) := by
            intro o_ ho_ H locs ls hl hP hD hS
            subst ho_
            refine lv_aload_n hx hb dX12_scan_181 rfl (lv_at hl 0 rfl) ?_
            refine lv_aload_n hx hb dX12_scan_182 rfl (lv_at hl 0 rfl) ?_
            refine m_get X hK hP cl_X12 iT_X12 11 (by decide) fl_X12_112 0 rfl rfl dX12_scan_183 ?_
            refine m_bipush X dX12_scan_186 (by decide) ?_
            obtain ⟨o30, hj30, hr30⟩ := bd_some hr22
            have J30 : ∀ (o_ : Int), o30 = o_ → ∀ (H : Heap) (locs : List Loc) (ls : Array Slot), lv_has ls 2 [] → va_P D vwCl [(a_t, .inr (12, [.ref a_t_now, .ref a_t_read, .ref a_t_past, .int (z4 t_deeds), .ref a_t_images, .ref a_t_isKept, .ref a_t_text, .int (z4 t_letters), .int (z4 o22.1), .int (z4 o1), .int (z4 t_tokenSort), .int (z4 o22.2), .int (z4 t_items), .int (z4 t_isChanceTold), .int (z4 t_areSumsTold), .ref a_t_metAt, .ref a_t_memoryAt, .ref a_t_upAt, .ref a_t_downAt, .ref a_t_isSignal, .ref a_t_memories, .ref a_t_placeOf, .ref a_t_nextPlace, .int (z4 t_places), .ref a_t_kindOf, .ref a_t_newKind, .int (z4 t_kinds), .ref a_t_stateOfKind, .ref a_t_stateAt, .ref a_t_stepTo, .int (z4 t_states), .ref a_t_far, .ref a_t_ways, .ref a_t_nextWays, .ref a_t_table])), (a_t_text, .inl (E 0, 120, .inl (A4 t_text)))] H → va_D A [(a_t, .inr (12, [.ref a_t_now, .ref a_t_read, .ref a_t_past, .int (z4 t_deeds), .ref a_t_images, .ref a_t_isKept, .ref a_t_text, .int (z4 t_letters), .int (z4 o22.1), .int (z4 o1), .int (z4 t_tokenSort), .int (z4 o22.2), .int (z4 t_items), .int (z4 t_isChanceTold), .int (z4 t_areSumsTold), .ref a_t_metAt, .ref a_t_memoryAt, .ref a_t_upAt, .ref a_t_downAt, .ref a_t_isSignal, .ref a_t_memories, .ref a_t_placeOf, .ref a_t_nextPlace, .int (z4 t_places), .ref a_t_kindOf, .ref a_t_newKind, .int (z4 t_kinds), .ref a_t_stateOfKind, .ref a_t_stateAt, .ref a_t_stepTo, .int (z4 t_states), .ref a_t_far, .ref a_t_ways, .ref a_t_nextWays, .ref a_t_table])), (a_t_text, .inl (E 0, 120, .inl (A4 t_text)))] → va_S A s.heap H locs → W p l e rm_X12_scan s m args below meth c H locs 0 0 Q (F0 m 215 ls [.int (z4 o_), .ref a_t]) := by
              intro o_ ho_ H locs ls hl hP hD hS
              subst ho_
              refine m_put X hK hP hD hS cl_X12 iT_X12 tyX12 tyX12_ok nmX12 10 (by decide) fl_X12_105 rfl 0 rfl rfl rfl (Nat.le_of_ble_eq_true rfl) [(a_t, .inr (12, [.ref a_t_now, .ref a_t_read, .ref a_t_past, .int (z4 t_deeds), .ref a_t_images, .ref a_t_isKept, .ref a_t_text, .int (z4 t_letters), .int (z4 o22.1), .int (z4 o1), .int (z4 o30), .int (z4 o22.2), .int (z4 t_items), .int (z4 t_isChanceTold), .int (z4 t_areSumsTold), .ref a_t_metAt, .ref a_t_memoryAt, .ref a_t_upAt, .ref a_t_downAt, .ref a_t_isSignal, .ref a_t_memories, .ref a_t_placeOf, .ref a_t_nextPlace, .int (z4 t_places), .ref a_t_kindOf, .ref a_t_newKind, .int (z4 t_kinds), .ref a_t_stateOfKind, .ref a_t_stateAt, .ref a_t_stepTo, .int (z4 t_states), .ref a_t_far, .ref a_t_ways, .ref a_t_nextWays, .ref a_t_table])), (a_t_text, .inl (E 0, 120, .inl (A4 t_text)))] rfl dX12_scan_215 (fun H locs hP hD hS => ?_)
              refine lv_goto (tgt := 312) hx hb dX12_scan_218 (by decide) ?_
              exact J8 _ (Option.some.inj hr30).symm _ _ _ (lv_sub hl [] rfl) hP hD hS
            obtain ⟨h31, hj30⟩ := ck_some hj30
            refine m_icmp_gt X ⟨h31, ⟨by decide, by decide⟩⟩ dX12_scan_188 (tgt := 210) (by decide) (fun (hc_ : 99 < o22.2) => ?_) (fun (hc_ : ¬ (99 < o22.2)) => ?_)
            · rw [if_pos hc_] at hj30
              refine m_iconst X dX12_scan_210 ?_
              refine lv_goto (tgt := 215) hx hb dX12_scan_211 (by decide) ?_
              exact J30 _ (Option.some.inj hj30).symm _ _ _ (lv_sub hl [] rfl) hP hD hS
            · rw [if_neg hc_] at hj30
              refine lv_iload_n hx hb dX12_scan_191 rfl (lv_at hl 1 rfl) ?_
              refine m_bipush X dX12_scan_192 (by decide) ?_
              obtain ⟨h32, hj30⟩ := ck_some hj30
              refine m_icmp_ne X ⟨h32, ⟨by decide, by decide⟩⟩ dX12_scan_194 (tgt := 214) (by decide) (fun (hc_ : ¬ (o5 = 48)) => ?_) (fun (hc_ : o5 = 48) => ?_)
              · rw [if_neg hc_] at hj30
                refine m_iconst X dX12_scan_214 ?_
                exact J30 _ (Option.some.inj hj30).symm _ _ _ (lv_sub hl [] rfl) hP hD hS
              · rw [if_pos hc_] at hj30
                refine lv_aload_n hx hb dX12_scan_197 rfl (lv_at hl 0 rfl) ?_
                refine m_get X hK hP cl_X12 iT_X12 8 (by decide) fl_X12_99 0 rfl rfl dX12_scan_198 ?_
                refine lv_aload_n hx hb dX12_scan_201 rfl (lv_at hl 0 rfl) ?_
                refine m_get X hK hP cl_X12 iT_X12 9 (by decide) fl_X12_91 0 rfl rfl dX12_scan_202 ?_
                refine m_iconst X dX12_scan_205 ?_
                refine m_iadd X dX12_scan_206 ?_
                obtain ⟨h33, hj30⟩ := ck_some hj30
                refine m_icmp_le X h33 dX12_scan_207 (tgt := 214) (by decide) (fun (hc_ : ¬ (o1 + 1 < o22.1)) => ?_) (fun (hc_ : o1 + 1 < o22.1) => ?_)
                · rw [if_neg hc_] at hj30
                  refine m_iconst X dX12_scan_214 ?_
                  exact J30 _ (Option.some.inj hj30).symm _ _ _ (lv_sub hl [] rfl) hP hD hS
                · rw [if_pos hc_] at hj30
                  refine m_iconst X dX12_scan_210 ?_
                  refine lv_goto (tgt := 215) hx hb dX12_scan_211 (by decide) ?_
                  exact J30 _ (Option.some.inj hj30).symm _ _ _ (lv_sub hl [] rfl) hP hD hS
          have L22 : ∀ (k_ : Nat) (t_at_l102 : Int) (t_tokenValue_l102 : Int), ∀ (H : Heap) (locs : List Loc) (ls : Array Slot), lv_has ls 2 [(0, .ref a_t), (1, .int (z4 o5))] → va_P D vwCl [(a_t, .inr (12, [.ref a_t_now, .ref a_t_read, .ref a_t_past, .int (z4 t_deeds), .ref a_t_images, .ref a_t_isKept, .ref a_t_text, .int (z4 t_letters), .int (z4 t_at_l102), .int (z4 o1), .int (z4 t_tokenSort), .int (z4 t_tokenValue_l102), .int (z4 t_items), .int (z4 t_isChanceTold), .int (z4 t_areSumsTold), .ref a_t_metAt, .ref a_t_memoryAt, .ref a_t_upAt, .ref a_t_downAt, .ref a_t_isSignal, .ref a_t_memories, .ref a_t_placeOf, .ref a_t_nextPlace, .int (z4 t_places), .ref a_t_kindOf, .ref a_t_newKind, .int (z4 t_kinds), .ref a_t_stateOfKind, .ref a_t_stateAt, .ref a_t_stepTo, .int (z4 t_states), .ref a_t_far, .ref a_t_ways, .ref a_t_nextWays, .ref a_t_table])), (a_t_text, .inl (E 0, 120, .inl (A4 t_text)))] H → va_D A [(a_t, .inr (12, [.ref a_t_now, .ref a_t_read, .ref a_t_past, .int (z4 t_deeds), .ref a_t_images, .ref a_t_isKept, .ref a_t_text, .int (z4 t_letters), .int (z4 t_at_l102), .int (z4 o1), .int (z4 t_tokenSort), .int (z4 t_tokenValue_l102), .int (z4 t_items), .int (z4 t_isChanceTold), .int (z4 t_areSumsTold), .ref a_t_metAt, .ref a_t_memoryAt, .ref a_t_upAt, .ref a_t_downAt, .ref a_t_isSignal, .ref a_t_memories, .ref a_t_placeOf, .ref a_t_nextPlace, .int (z4 t_places), .ref a_t_kindOf, .ref a_t_newKind, .int (z4 t_kinds), .ref a_t_stateOfKind, .ref a_t_stateAt, .ref a_t_stepTo, .int (z4 t_states), .ref a_t_far, .ref a_t_ways, .ref a_t_nextWays, .ref a_t_table])), (a_t_text, .inl (E 0, 120, .inl (A4 t_text)))] → va_S A s.heap H locs → lp_ (fun (q : Int × Int) => F_X12_scan_L102 n t_letters t_text q.1 q.2) k_ (t_at_l102, t_tokenValue_l102) = some o22 → W p l e rm_X12_scan s m args below meth c H locs 0 0 Q (F0 m 102 ls []) := by
            intro k_
            induction k_ with
            | zero =>
              intro t_at_l102 t_tokenValue_l102 H locs ls hl hP hD hS hq_; exact (lp_zero hq_).elim
            | succ k_ ih22 =>
              intro t_at_l102 t_tokenValue_l102 H locs ls hl hP hD hS hq_
              obtain ⟨t_22, hb22, hq22⟩ := lp_some hq_
              replace hb22 : F_X12_scan_L102 n t_letters t_text t_at_l102 t_tokenValue_l102 = some t_22 := hb22
              unfold F_X12_scan_L102 at hb22
              refine lv_aload_n hx hb dX12_scan_102 rfl (lv_at hl 0 rfl) ?_
              refine m_get X hK hP cl_X12 iT_X12 8 (by decide) fl_X12_99 0 rfl rfl dX12_scan_103 ?_
              refine lv_aload_n hx hb dX12_scan_106 rfl (lv_at hl 0 rfl) ?_
              refine m_get X hK hP cl_X12 iT_X12 7 (by decide) fl_X12_102 0 rfl rfl dX12_scan_107 ?_
              obtain ⟨h23, hb22⟩ := ck_some hb22
              refine m_icmp_ge X h23 dX12_scan_110 (tgt := 181) (by decide) (fun (hc_ : ¬ (t_at_l102 < t_letters)) => ?_) (fun (hc_ : t_at_l102 < t_letters) => ?_)
              · rw [if_neg hc_] at hb22
                obtain rfl := Option.some.inj hb22
                exact E22_0 _ (Option.some.inj hq22).symm _ _ _ (lv_sub hl [0, 1] rfl) hP hD hS
              · rw [if_pos hc_] at hb22
                refine lv_aload_n hx hb dX12_scan_113 rfl (lv_at hl 0 rfl) ?_
                refine m_get X hK hP cl_X12 iT_X12 6 (by decide) fl_X12_26 0 rfl rfl dX12_scan_114 ?_
                refine lv_aload_n hx hb dX12_scan_117 rfl (lv_at hl 0 rfl) ?_
                refine m_get X hK hP cl_X12 iT_X12 8 (by decide) fl_X12_99 0 rfl rfl dX12_scan_118 ?_
                obtain ⟨h24, hb22⟩ := ck_some hb22
                refine m_iald X hK hP 1 rfl (by decide) h24 dX12_scan_121 ?_
                obtain ⟨o25, ho, hb22⟩ := bd_some hb22
                refine m_cSR X hK (k_X12_isFigure n (t_text (t_at_l102).toNat) o25 ho) (hP.sub (ws' := []) [] rfl) lk_X12_108 co_X12_isFigure dy_X12_isFigure rfl rfl ⟨Nat.le_of_ble_eq_true rfl, Nat.le_of_ble_eq_true rfl⟩ hl.1 rfl (Nat.le_of_ble_eq_true rfl) dX12_scan_122 (Nat.zero_le _) (Nat.zero_le _) ?_
                obtain ⟨h26, hb22⟩ := ck_some hb22
                refine m_if_eq X h26 dX12_scan_125 (tgt := 181) (by decide) (fun (hc_ : o25 = 0) => ?_) (fun (hc_ : ¬ (o25 = 0)) => ?_)
                · rw [if_pos hc_] at hb22
                  obtain rfl := Option.some.inj hb22
                  exact E22_0 _ (Option.some.inj hq22).symm _ _ _ (lv_sub hl [0, 1] rfl) hP hD hS
                · rw [if_neg hc_] at hb22
                  refine lv_aload_n hx hb dX12_scan_128 rfl (lv_at hl 0 rfl) ?_
                  refine lv_aload_n hx hb dX12_scan_129 rfl (lv_at hl 0 rfl) ?_
                  refine m_get X hK hP cl_X12 iT_X12 11 (by decide) fl_X12_112 0 rfl rfl dX12_scan_130 ?_
                  refine m_bipush X dX12_scan_133 (by decide) ?_
                  obtain ⟨o27, hj27, hr27⟩ := bd_some hb22
                  have J27 : ∀ (o_ : Int), o27 = o_ → ∀ (H : Heap) (locs : List Loc) (ls : Array Slot), lv_has ls 2 [(0, .ref a_t), (1, .int (z4 o5))] → va_P D vwCl [(a_t, .inr (12, [.ref a_t_now, .ref a_t_read, .ref a_t_past, .int (z4 t_deeds), .ref a_t_images, .ref a_t_isKept, .ref a_t_text, .int (z4 t_letters), .int (z4 t_at_l102), .int (z4 o1), .int (z4 t_tokenSort), .int (z4 t_tokenValue_l102), .int (z4 t_items), .int (z4 t_isChanceTold), .int (z4 t_areSumsTold), .ref a_t_metAt, .ref a_t_memoryAt, .ref a_t_upAt, .ref a_t_downAt, .ref a_t_isSignal, .ref a_t_memories, .ref a_t_placeOf, .ref a_t_nextPlace, .int (z4 t_places), .ref a_t_kindOf, .ref a_t_newKind, .int (z4 t_kinds), .ref a_t_stateOfKind, .ref a_t_stateAt, .ref a_t_stepTo, .int (z4 t_states), .ref a_t_far, .ref a_t_ways, .ref a_t_nextWays, .ref a_t_table])), (a_t_text, .inl (E 0, 120, .inl (A4 t_text)))] H → va_D A [(a_t, .inr (12, [.ref a_t_now, .ref a_t_read, .ref a_t_past, .int (z4 t_deeds), .ref a_t_images, .ref a_t_isKept, .ref a_t_text, .int (z4 t_letters), .int (z4 t_at_l102), .int (z4 o1), .int (z4 t_tokenSort), .int (z4 t_tokenValue_l102), .int (z4 t_items), .int (z4 t_isChanceTold), .int (z4 t_areSumsTold), .ref a_t_metAt, .ref a_t_memoryAt, .ref a_t_upAt, .ref a_t_downAt, .ref a_t_isSignal, .ref a_t_memories, .ref a_t_placeOf, .ref a_t_nextPlace, .int (z4 t_places), .ref a_t_kindOf, .ref a_t_newKind, .int (z4 t_kinds), .ref a_t_stateOfKind, .ref a_t_stateAt, .ref a_t_stepTo, .int (z4 t_states), .ref a_t_far, .ref a_t_ways, .ref a_t_nextWays, .ref a_t_table])), (a_t_text, .inl (E 0, 120, .inl (A4 t_text)))] → va_S A s.heap H locs → W p l e rm_X12_scan s m args below meth c H locs 0 0 Q (F0 m 165 ls [.int (z4 o_), .ref a_t]) := by
                    intro o_ ho_ H locs ls hl hP hD hS
                    subst ho_
                    refine m_put X hK hP hD hS cl_X12 iT_X12 tyX12 tyX12_ok nmX12 11 (by decide) fl_X12_112 rfl 0 rfl rfl rfl (Nat.le_of_ble_eq_true rfl) [(a_t, .inr (12, [.ref a_t_now, .ref a_t_read, .ref a_t_past, .int (z4 t_deeds), .ref a_t_images, .ref a_t_isKept, .ref a_t_text, .int (z4 t_letters), .int (z4 t_at_l102), .int (z4 o1), .int (z4 t_tokenSort), .int (z4 o27), .int (z4 t_items), .int (z4 t_isChanceTold), .int (z4 t_areSumsTold), .ref a_t_metAt, .ref a_t_memoryAt, .ref a_t_upAt, .ref a_t_downAt, .ref a_t_isSignal, .ref a_t_memories, .ref a_t_placeOf, .ref a_t_nextPlace, .int (z4 t_places), .ref a_t_kindOf, .ref a_t_newKind, .int (z4 t_kinds), .ref a_t_stateOfKind, .ref a_t_stateAt, .ref a_t_stepTo, .int (z4 t_states), .ref a_t_far, .ref a_t_ways, .ref a_t_nextWays, .ref a_t_table])), (a_t_text, .inl (E 0, 120, .inl (A4 t_text)))] rfl dX12_scan_165 (fun H locs hP hD hS => ?_)
                    refine lv_aload_n hx hb dX12_scan_168 rfl (lv_at hl 0 rfl) ?_
                    refine lv_dup hx hb dX12_scan_169 rfl ?_
                    refine m_get X hK hP cl_X12 iT_X12 8 (by decide) fl_X12_99 0 rfl rfl dX12_scan_170 ?_
                    refine m_iconst X dX12_scan_173 ?_
                    refine m_iadd X dX12_scan_174 ?_
                    refine m_put X hK hP hD hS cl_X12 iT_X12 tyX12 tyX12_ok nmX12 8 (by decide) fl_X12_99 rfl 0 rfl rfl rfl (Nat.le_of_ble_eq_true rfl) [(a_t, .inr (12, [.ref a_t_now, .ref a_t_read, .ref a_t_past, .int (z4 t_deeds), .ref a_t_images, .ref a_t_isKept, .ref a_t_text, .int (z4 t_letters), .int (z4 (t_at_l102 + 1)), .int (z4 o1), .int (z4 t_tokenSort), .int (z4 o27), .int (z4 t_items), .int (z4 t_isChanceTold), .int (z4 t_areSumsTold), .ref a_t_metAt, .ref a_t_memoryAt, .ref a_t_upAt, .ref a_t_downAt, .ref a_t_isSignal, .ref a_t_memories, .ref a_t_placeOf, .ref a_t_nextPlace, .int (z4 t_places), .ref a_t_kindOf, .ref a_t_newKind, .int (z4 t_kinds), .ref a_t_stateOfKind, .ref a_t_stateAt, .ref a_t_stepTo, .int (z4 t_states), .ref a_t_far, .ref a_t_ways, .ref a_t_nextWays, .ref a_t_table])), (a_t_text, .inl (E 0, 120, .inl (A4 t_text)))] rfl dX12_scan_175 (fun H locs hP hD hS => ?_)
                    refine lv_goto (tgt := 102) hx hb dX12_scan_178 (by decide) ?_
                    obtain rfl := Option.some.inj hr27
                    exact ih22 _ _ _ _ _ (lv_sub hl [0, 1] rfl) hP hD hS hq22
                  obtain ⟨h28, hj27⟩ := ck_some hj27
                  refine m_icmp_le X ⟨h28, ⟨by decide, by decide⟩⟩ dX12_scan_135 (tgt := 145) (by decide) (fun (hc_ : ¬ (99 < t_tokenValue_l102)) => ?_) (fun (hc_ : 99 < t_tokenValue_l102) => ?_)
                  · rw [if_neg hc_] at hj27
                    refine m_bipush X dX12_scan_145 (by decide) ?_
                    refine lv_aload_n hx hb dX12_scan_147 rfl (lv_at hl 0 rfl) ?_
                    refine m_get X hK hP cl_X12 iT_X12 11 (by decide) fl_X12_112 0 rfl rfl dX12_scan_148 ?_
                    refine m_imul X dX12_scan_151 ?_
                    refine lv_aload_n hx hb dX12_scan_152 rfl (lv_at hl 0 rfl) ?_
                    refine m_get X hK hP cl_X12 iT_X12 6 (by decide) fl_X12_26 0 rfl rfl dX12_scan_153 ?_
                    refine lv_aload_n hx hb dX12_scan_156 rfl (lv_at hl 0 rfl) ?_
                    refine m_get X hK hP cl_X12 iT_X12 8 (by decide) fl_X12_99 0 rfl rfl dX12_scan_157 ?_
                    obtain ⟨h29, hj27⟩ := ck_some hj27
                    refine m_iald X hK hP 1 rfl (by decide) h29 dX12_scan_160 ?_
                    refine m_iadd X dX12_scan_161 ?_
                    refine m_bipush X dX12_scan_162 (by decide) ?_
                    refine m_isub X dX12_scan_164 ?_
                    exact J27 _ (Option.some.inj hj27).symm _ _ _ (lv_sub hl [0, 1] rfl) hP hD hS
                  · rw [if_pos hc_] at hj27
                    refine lv_aload_n hx hb dX12_scan_138 rfl (lv_at hl 0 rfl) ?_
                    refine m_get X hK hP cl_X12 iT_X12 11 (by decide) fl_X12_112 0 rfl rfl dX12_scan_139 ?_
                    refine lv_goto (tgt := 165) hx hb dX12_scan_142 (by decide) ?_
                    exact J27 _ (Option.some.inj hj27).symm _ _ _ (lv_sub hl [0, 1] rfl) hP hD hS
          exact L22 n _ _ _ _ _ (lv_sub hl [1, 0] rfl) hP hD hS hj22
      · rw [if_pos hc_] at hj8
        refine lv_aload_n hx hb dX12_scan_82 rfl (lv_at hl 1 rfl) ?_
        refine m_iconst X dX12_scan_83 ?_
        refine m_put X hK hP hD hS cl_X12 iT_X12 tyX12 tyX12_ok nmX12 10 (by decide) fl_X12_105 rfl 0 rfl rfl rfl (Nat.le_of_ble_eq_true rfl) [(a_t, .inr (12, [.ref a_t_now, .ref a_t_read, .ref a_t_past, .int (z4 t_deeds), .ref a_t_images, .ref a_t_isKept, .ref a_t_text, .int (z4 t_letters), .int (z4 o1), .int (z4 o1), .int (z4 2), .int (z4 t_tokenValue), .int (z4 t_items), .int (z4 t_isChanceTold), .int (z4 t_areSumsTold), .ref a_t_metAt, .ref a_t_memoryAt, .ref a_t_upAt, .ref a_t_downAt, .ref a_t_isSignal, .ref a_t_memories, .ref a_t_placeOf, .ref a_t_nextPlace, .int (z4 t_places), .ref a_t_kindOf, .ref a_t_newKind, .int (z4 t_kinds), .ref a_t_stateOfKind, .ref a_t_stateAt, .ref a_t_stepTo, .int (z4 t_states), .ref a_t_far, .ref a_t_ways, .ref a_t_nextWays, .ref a_t_table])), (a_t_text, .inl (E 0, 120, .inl (A4 t_text)))] rfl dX12_scan_84 (fun H locs hP hD hS => ?_)
        refine lv_goto (tgt := 312) hx hb dX12_scan_87 (by decide) ?_
        exact J8 _ (Option.some.inj hj8).symm _ _ _ (lv_sub hl [] rfl) hP hD hS
    obtain ⟨h6, hj5⟩ := ck_some hj5
    refine m_icmp_ge X h6 dX12_scan_54 (tgt := 69) (by decide) (fun (hc_ : ¬ (o1 < t_letters)) => ?_) (fun (hc_ : o1 < t_letters) => ?_)
    · rw [if_neg hc_] at hj5
      refine m_iconst X dX12_scan_69 ?_
      exact J5 _ (Option.some.inj hj5).symm _ _ _ (lv_sub hl [0] rfl) hP hD hS
    · rw [if_pos hc_] at hj5
      refine lv_aload_n hx hb dX12_scan_57 rfl (lv_at hl 0 rfl) ?_
      refine m_get X hK hP cl_X12 iT_X12 6 (by decide) fl_X12_26 0 rfl rfl dX12_scan_58 ?_
      refine lv_aload_n hx hb dX12_scan_61 rfl (lv_at hl 0 rfl) ?_
      refine m_get X hK hP cl_X12 iT_X12 8 (by decide) fl_X12_99 0 rfl rfl dX12_scan_62 ?_
      obtain ⟨h7, hj5⟩ := ck_some hj5
      refine m_iald X hK hP 1 rfl (by decide) h7 dX12_scan_65 ?_
      refine lv_goto (tgt := 70) hx hb dX12_scan_66 (by decide) ?_
      exact J5 _ (Option.some.inj hj5).symm _ _ _ (lv_sub hl [0] rfl) hP hD hS
  have L1 : ∀ (k_ : Nat) (t_at_l0 : Int), ∀ (H : Heap) (locs : List Loc) (ls : Array Slot), lv_has ls 2 [(0, .ref a_t)] → va_P D vwCl [(a_t, .inr (12, [.ref a_t_now, .ref a_t_read, .ref a_t_past, .int (z4 t_deeds), .ref a_t_images, .ref a_t_isKept, .ref a_t_text, .int (z4 t_letters), .int (z4 t_at_l0), .int (z4 t_tokenAt), .int (z4 t_tokenSort), .int (z4 t_tokenValue), .int (z4 t_items), .int (z4 t_isChanceTold), .int (z4 t_areSumsTold), .ref a_t_metAt, .ref a_t_memoryAt, .ref a_t_upAt, .ref a_t_downAt, .ref a_t_isSignal, .ref a_t_memories, .ref a_t_placeOf, .ref a_t_nextPlace, .int (z4 t_places), .ref a_t_kindOf, .ref a_t_newKind, .int (z4 t_kinds), .ref a_t_stateOfKind, .ref a_t_stateAt, .ref a_t_stepTo, .int (z4 t_states), .ref a_t_far, .ref a_t_ways, .ref a_t_nextWays, .ref a_t_table])), (a_t_text, .inl (E 0, 120, .inl (A4 t_text)))] H → va_D A [(a_t, .inr (12, [.ref a_t_now, .ref a_t_read, .ref a_t_past, .int (z4 t_deeds), .ref a_t_images, .ref a_t_isKept, .ref a_t_text, .int (z4 t_letters), .int (z4 t_at_l0), .int (z4 t_tokenAt), .int (z4 t_tokenSort), .int (z4 t_tokenValue), .int (z4 t_items), .int (z4 t_isChanceTold), .int (z4 t_areSumsTold), .ref a_t_metAt, .ref a_t_memoryAt, .ref a_t_upAt, .ref a_t_downAt, .ref a_t_isSignal, .ref a_t_memories, .ref a_t_placeOf, .ref a_t_nextPlace, .int (z4 t_places), .ref a_t_kindOf, .ref a_t_newKind, .int (z4 t_kinds), .ref a_t_stateOfKind, .ref a_t_stateAt, .ref a_t_stepTo, .int (z4 t_states), .ref a_t_far, .ref a_t_ways, .ref a_t_nextWays, .ref a_t_table])), (a_t_text, .inl (E 0, 120, .inl (A4 t_text)))] → va_S A s.heap H locs → lp_ (fun (q : Int) => F_X12_scan_L0 n t_letters t_text q) k_ t_at_l0 = some o1 → W p l e rm_X12_scan s m args below meth c H locs 0 0 Q (F0 m 0 ls []) := by
    intro k_
    induction k_ with
    | zero =>
      intro t_at_l0 H locs ls hl hP hD hS hq_; exact (lp_zero hq_).elim
    | succ k_ ih1 =>
      intro t_at_l0 H locs ls hl hP hD hS hq_
      obtain ⟨t_1, hb1, hq1⟩ := lp_some hq_
      replace hb1 : F_X12_scan_L0 n t_letters t_text t_at_l0 = some t_1 := hb1
      unfold F_X12_scan_L0 at hb1
      refine lv_aload_n hx hb dX12_scan_0 rfl (lv_at hl 0 rfl) ?_
      refine m_get X hK hP cl_X12 iT_X12 8 (by decide) fl_X12_99 0 rfl rfl dX12_scan_1 ?_
      refine lv_aload_n hx hb dX12_scan_4 rfl (lv_at hl 0 rfl) ?_
      refine m_get X hK hP cl_X12 iT_X12 7 (by decide) fl_X12_102 0 rfl rfl dX12_scan_5 ?_
      obtain ⟨h2, hb1⟩ := ck_some hb1
      refine m_icmp_ge X h2 dX12_scan_8 (tgt := 38) (by decide) (fun (hc_ : ¬ (t_at_l0 < t_letters)) => ?_) (fun (hc_ : t_at_l0 < t_letters) => ?_)
      · rw [if_neg hc_] at hb1
        obtain rfl := Option.some.inj hb1
        exact E1_0 _ (Option.some.inj hq1).symm _ _ _ (lv_sub hl [0] rfl) hP hD hS
      · rw [if_pos hc_] at hb1
        refine lv_aload_n hx hb dX12_scan_11 rfl (lv_at hl 0 rfl) ?_
        refine m_get X hK hP cl_X12 iT_X12 6 (by decide) fl_X12_26 0 rfl rfl dX12_scan_12 ?_
        refine lv_aload_n hx hb dX12_scan_15 rfl (lv_at hl 0 rfl) ?_
        refine m_get X hK hP cl_X12 iT_X12 8 (by decide) fl_X12_99 0 rfl rfl dX12_scan_16 ?_
        obtain ⟨h3, hb1⟩ := ck_some hb1
        refine m_iald X hK hP 1 rfl (by decide) h3 dX12_scan_19 ?_
        refine m_bipush X dX12_scan_20 (by decide) ?_
        obtain ⟨h4, hb1⟩ := ck_some hb1
        refine m_icmp_ne X ⟨h4, ⟨by decide, by decide⟩⟩ dX12_scan_22 (tgt := 38) (by decide) (fun (hc_ : ¬ (t_text (t_at_l0).toNat = 32)) => ?_) (fun (hc_ : t_text (t_at_l0).toNat = 32) => ?_)
        · rw [if_neg hc_] at hb1
          obtain rfl := Option.some.inj hb1
          exact E1_0 _ (Option.some.inj hq1).symm _ _ _ (lv_sub hl [0] rfl) hP hD hS
        · rw [if_pos hc_] at hb1
          refine lv_aload_n hx hb dX12_scan_25 rfl (lv_at hl 0 rfl) ?_
          refine lv_dup hx hb dX12_scan_26 rfl ?_
          refine m_get X hK hP cl_X12 iT_X12 8 (by decide) fl_X12_99 0 rfl rfl dX12_scan_27 ?_
          refine m_iconst X dX12_scan_30 ?_
          refine m_iadd X dX12_scan_31 ?_
          refine m_put X hK hP hD hS cl_X12 iT_X12 tyX12 tyX12_ok nmX12 8 (by decide) fl_X12_99 rfl 0 rfl rfl rfl (Nat.le_of_ble_eq_true rfl) [(a_t, .inr (12, [.ref a_t_now, .ref a_t_read, .ref a_t_past, .int (z4 t_deeds), .ref a_t_images, .ref a_t_isKept, .ref a_t_text, .int (z4 t_letters), .int (z4 (t_at_l0 + 1)), .int (z4 t_tokenAt), .int (z4 t_tokenSort), .int (z4 t_tokenValue), .int (z4 t_items), .int (z4 t_isChanceTold), .int (z4 t_areSumsTold), .ref a_t_metAt, .ref a_t_memoryAt, .ref a_t_upAt, .ref a_t_downAt, .ref a_t_isSignal, .ref a_t_memories, .ref a_t_placeOf, .ref a_t_nextPlace, .int (z4 t_places), .ref a_t_kindOf, .ref a_t_newKind, .int (z4 t_kinds), .ref a_t_stateOfKind, .ref a_t_stateAt, .ref a_t_stepTo, .int (z4 t_states), .ref a_t_far, .ref a_t_ways, .ref a_t_nextWays, .ref a_t_table])), (a_t_text, .inl (E 0, 120, .inl (A4 t_text)))] rfl dX12_scan_32 (fun H locs hP hD hS => ?_)
          refine lv_goto (tgt := 0) hx hb dX12_scan_35 (by decide) ?_
          obtain rfl := Option.some.inj hb1
          exact ih1 _ _ _ _ (lv_sub hl [0] rfl) hP hD hS hq1
  exact L1 n _ _ _ _ (lv_sub hl [0] rfl) hP hD hS hj1
def F_X12_scanNumber (n : Nat)  (t_letters : Int) (t_at : Int) (t_tokenValue : Int) (t_text : Nat → Int) (x1 : Int) (x2 : Int) : Option (Int × Int × Int × Int × Int) :=
  (F_X12_scan n t_letters t_at t_tokenValue t_text).bind fun o1 =>
  Option.bind (α := Int) (
    ck (r4 o1.2.2.1) <|
    if o1.2.2.1 = 1 then
      (F_X12_in n o1.2.2.2 x1 x2).bind fun o4 =>
      ck (r4 o4) <|
      if o4 = 0 then
        some 0
      else
        some 1
    else
      some 0) fun o2 =>
  ck (o2 = 0 ∨ o2 = 1) <|
  some (o2, o1.1, o1.2.1, o1.2.2.1, o1.2.2.2)
def rm_X12_scanNumber : Room := { frames := 3, cells := 0, slots := 0, locals := 67 }
set_option maxHeartbeats 4000000 in
set_option maxRecDepth 100000 in
theorem k_X12_scanNumber {l : Launch} {D : va_G} {E : Nat → ClassId} (n : Nat) (a_t a_t_now a_t_read a_t_past a_t_images a_t_isKept a_t_text a_t_metAt a_t_memoryAt a_t_upAt a_t_downAt a_t_isSignal a_t_memories a_t_placeOf a_t_nextPlace a_t_kindOf a_t_newKind a_t_stateOfKind a_t_stateAt a_t_stepTo a_t_far a_t_ways a_t_nextWays a_t_table : Nat) (t_deeds : Int) (t_letters : Int) (t_at : Int) (t_tokenAt : Int) (t_tokenSort : Int) (t_tokenValue : Int) (t_items : Int) (t_isChanceTold : Int) (t_areSumsTold : Int) (t_places : Int) (t_kinds : Int) (t_states : Int) (t_text : Nat → Int) (x1 : Int) (x2 : Int) (res : Int × Int × Int × Int × Int) (hf : F_X12_scanNumber n t_letters t_at t_tokenValue t_text x1 x2 = some res) : MW l yX12_scanNumber (.code yX12_scanNumber cX12_scanNumber 3 (some .boolean)) rm_X12_scanNumber D E [.ref a_t, .int (z4 x1), .int (z4 x2)] [(a_t, .inr (12, [.ref a_t_now, .ref a_t_read, .ref a_t_past, .int (z4 t_deeds), .ref a_t_images, .ref a_t_isKept, .ref a_t_text, .int (z4 t_letters), .int (z4 t_at), .int (z4 t_tokenAt), .int (z4 t_tokenSort), .int (z4 t_tokenValue), .int (z4 t_items), .int (z4 t_isChanceTold), .int (z4 t_areSumsTold), .ref a_t_metAt, .ref a_t_memoryAt, .ref a_t_upAt, .ref a_t_downAt, .ref a_t_isSignal, .ref a_t_memories, .ref a_t_placeOf, .ref a_t_nextPlace, .int (z4 t_places), .ref a_t_kindOf, .ref a_t_newKind, .int (z4 t_kinds), .ref a_t_stateOfKind, .ref a_t_stateAt, .ref a_t_stepTo, .int (z4 t_states), .ref a_t_far, .ref a_t_ways, .ref a_t_nextWays, .ref a_t_table])), (a_t_text, .inl (E 0, 120, .inl (A4 t_text)))] (some (.int (z4 res.1))) [(a_t, .inr (12, [.ref a_t_now, .ref a_t_read, .ref a_t_past, .int (z4 t_deeds), .ref a_t_images, .ref a_t_isKept, .ref a_t_text, .int (z4 t_letters), .int (z4 res.2.1), .int (z4 res.2.2.1), .int (z4 res.2.2.2.1), .int (z4 res.2.2.2.2), .int (z4 t_items), .int (z4 t_isChanceTold), .int (z4 t_areSumsTold), .ref a_t_metAt, .ref a_t_memoryAt, .ref a_t_upAt, .ref a_t_downAt, .ref a_t_isSignal, .ref a_t_memories, .ref a_t_placeOf, .ref a_t_nextPlace, .int (z4 t_places), .ref a_t_kindOf, .ref a_t_newKind, .int (z4 t_kinds), .ref a_t_stateOfKind, .ref a_t_stateAt, .ref a_t_stepTo, .int (z4 t_states), .ref a_t_far, .ref a_t_ways, .ref a_t_nextWays, .ref a_t_table])), (a_t_text, .inl (E 0, 120, .inl (A4 t_text)))] := by
  refine MWz (by decide) (Nat.le_of_ble_eq_true rfl) ?_
  intro p e s m args below meth c A Q X hK hP hD hA ret ls hl
  have hS : va_S A s.heap s.heap [] := va_S.rf
  have hx := X.1
  have hb := X.2.1
  have hl : lv_has ls 3 [(0, .ref a_t), (1, .int (z4 x1)), (2, .int (z4 x2))] := hl
  unfold F_X12_scanNumber at hf
  refine lv_aload_n hx hb dX12_scanNumber_0 rfl (lv_at hl 0 rfl) ?_
  obtain ⟨o1, ho, hf⟩ := bd_some hf
  refine m_cVW X hK hP hD hS hA (wr := []) (k_X12_scan n a_t a_t_now a_t_read a_t_past a_t_images a_t_isKept a_t_text a_t_metAt a_t_memoryAt a_t_upAt a_t_downAt a_t_isSignal a_t_memories a_t_placeOf a_t_nextPlace a_t_kindOf a_t_newKind a_t_stateOfKind a_t_stateAt a_t_stepTo a_t_far a_t_ways a_t_nextWays a_t_table t_deeds t_letters t_at t_tokenAt t_tokenSort t_tokenValue t_items t_isChanceTold t_areSumsTold t_places t_kinds t_states t_text o1 ho) [0, 1] [] [0, 1] [(a_t, .inr (12, [.ref a_t_now, .ref a_t_read, .ref a_t_past, .int (z4 t_deeds), .ref a_t_images, .ref a_t_isKept, .ref a_t_text, .int (z4 t_letters), .int (z4 o1.1), .int (z4 o1.2.1), .int (z4 o1.2.2.1), .int (z4 o1.2.2.2), .int (z4 t_items), .int (z4 t_isChanceTold), .int (z4 t_areSumsTold), .ref a_t_metAt, .ref a_t_memoryAt, .ref a_t_upAt, .ref a_t_downAt, .ref a_t_isSignal, .ref a_t_memories, .ref a_t_placeOf, .ref a_t_nextPlace, .int (z4 t_places), .ref a_t_kindOf, .ref a_t_newKind, .int (z4 t_kinds), .ref a_t_stateOfKind, .ref a_t_stateAt, .ref a_t_stepTo, .int (z4 t_states), .ref a_t_far, .ref a_t_ways, .ref a_t_nextWays, .ref a_t_table])), (a_t_text, .inl (E 0, 120, .inl (A4 t_text)))] rfl rfl rfl rfl (by decide) rfl rfl rfl cl_X12 lk_X12_122 co_X12_scan dy_X12_scan rfl rfl ⟨Nat.le_of_ble_eq_true rfl, Nat.le_of_ble_eq_true rfl⟩ hl.1 rfl (Nat.le_of_ble_eq_true rfl) dX12_scanNumber_1 (Nat.zero_le _) (Nat.zero_le _) (fun H locs hP hD hS => ?_)
  refine lv_aload_n hx hb dX12_scanNumber_4 rfl (lv_at hl 0 rfl) ?_
  refine m_get X hK hP cl_X12 iT_X12 10 (by decide) fl_X12_105 0 rfl rfl dX12_scanNumber_5 ?_
  refine m_iconst X dX12_scanNumber_8 ?_
  obtain ⟨o2, hj2, hr2⟩ := bd_some hf
  have J2 : ∀ (o_ : Int), o2 = o_ → ∀ (H : Heap) (locs : List Loc) (ls : Array Slot), lv_has ls 3 [] → va_P D vwCl [(a_t, .inr (12, [.ref a_t_now, .ref a_t_read, .ref a_t_past, .int (z4 t_deeds), .ref a_t_images, .ref a_t_isKept, .ref a_t_text, .int (z4 t_letters), .int (z4 o1.1), .int (z4 o1.2.1), .int (z4 o1.2.2.1), .int (z4 o1.2.2.2), .int (z4 t_items), .int (z4 t_isChanceTold), .int (z4 t_areSumsTold), .ref a_t_metAt, .ref a_t_memoryAt, .ref a_t_upAt, .ref a_t_downAt, .ref a_t_isSignal, .ref a_t_memories, .ref a_t_placeOf, .ref a_t_nextPlace, .int (z4 t_places), .ref a_t_kindOf, .ref a_t_newKind, .int (z4 t_kinds), .ref a_t_stateOfKind, .ref a_t_stateAt, .ref a_t_stepTo, .int (z4 t_states), .ref a_t_far, .ref a_t_ways, .ref a_t_nextWays, .ref a_t_table])), (a_t_text, .inl (E 0, 120, .inl (A4 t_text)))] H → va_D A [(a_t, .inr (12, [.ref a_t_now, .ref a_t_read, .ref a_t_past, .int (z4 t_deeds), .ref a_t_images, .ref a_t_isKept, .ref a_t_text, .int (z4 t_letters), .int (z4 o1.1), .int (z4 o1.2.1), .int (z4 o1.2.2.1), .int (z4 o1.2.2.2), .int (z4 t_items), .int (z4 t_isChanceTold), .int (z4 t_areSumsTold), .ref a_t_metAt, .ref a_t_memoryAt, .ref a_t_upAt, .ref a_t_downAt, .ref a_t_isSignal, .ref a_t_memories, .ref a_t_placeOf, .ref a_t_nextPlace, .int (z4 t_places), .ref a_t_kindOf, .ref a_t_newKind, .int (z4 t_kinds), .ref a_t_stateOfKind, .ref a_t_stateAt, .ref a_t_stepTo, .int (z4 t_states), .ref a_t_far, .ref a_t_ways, .ref a_t_nextWays, .ref a_t_table])), (a_t_text, .inl (E 0, 120, .inl (A4 t_text)))] → va_S A s.heap H locs → W p l e rm_X12_scanNumber s m args below meth c H locs 0 0 Q (F0 m 29 ls [.int (z4 o_)]) := by
    intro o_ ho_ H locs ls hl hP hD hS
    subst ho_
    obtain ⟨h6, hr2⟩ := ck_some hr2
    obtain rfl := Option.some.inj hr2
    exact ret _ _ _ _ h6 hP hD hS dX12_scanNumber_29
  obtain ⟨h3, hj2⟩ := ck_some hj2
  refine m_icmp_ne X ⟨h3, ⟨by decide, by decide⟩⟩ dX12_scanNumber_9 (tgt := 28) (by decide) (fun (hc_ : ¬ (o1.2.2.1 = 1)) => ?_) (fun (hc_ : o1.2.2.1 = 1) => ?_)
  · rw [if_neg hc_] at hj2
    refine m_iconst X dX12_scanNumber_28 ?_
    exact J2 _ (Option.some.inj hj2).symm _ _ _ (lv_sub hl [] rfl) hP hD hS
  · rw [if_pos hc_] at hj2
    refine lv_aload_n hx hb dX12_scanNumber_12 rfl (lv_at hl 0 rfl) ?_
    refine m_get X hK hP cl_X12 iT_X12 11 (by decide) fl_X12_112 0 rfl rfl dX12_scanNumber_13 ?_
    refine lv_iload_n hx hb dX12_scanNumber_16 rfl (lv_at hl 1 rfl) ?_
    refine lv_iload_n hx hb dX12_scanNumber_17 rfl (lv_at hl 2 rfl) ?_
    obtain ⟨o4, ho, hj2⟩ := bd_some hj2
    refine m_cSR X hK (k_X12_in n o1.2.2.2 x1 x2 o4 ho) (hP.sub (ws' := []) [] rfl) lk_X12_87 co_X12_in dy_X12_in rfl rfl ⟨Nat.le_of_ble_eq_true rfl, Nat.le_of_ble_eq_true rfl⟩ hl.1 rfl (Nat.le_of_ble_eq_true rfl) dX12_scanNumber_18 (Nat.zero_le _) (Nat.zero_le _) ?_
    obtain ⟨h5, hj2⟩ := ck_some hj2
    refine m_if_eq X h5 dX12_scanNumber_21 (tgt := 28) (by decide) (fun (hc_ : o4 = 0) => ?_) (fun (hc_ : ¬ (o4 = 0)) => ?_)
    · rw [if_pos hc_] at hj2
      refine m_iconst X dX12_scanNumber_28 ?_
      exact J2 _ (Option.some.inj hj2).symm _ _ _ (lv_sub hl [] rfl) hP hD hS
    · rw [if_neg hc_] at hj2
      refine m_iconst X dX12_scanNumber_24 ?_
      refine lv_goto (tgt := 29) hx hb dX12_scanNumber_25 (by decide) ?_
      exact J2 _ (Option.some.inj hj2).symm _ _ _ (lv_sub hl [] rfl) hP hD hS
def F_X12_width_L4 (n : Nat) (t_read : Nat → Int) (v4_1 : Int) (v4_2 : Int) : Option ((Int × Int) ⊕ (Int)) :=
  ck (r4 v4_2 ∧ r4 (t_read 0)) <|
  if v4_2 < t_read 0 then
    ck (ix_ ((1 + (3 * v4_2)) + 1) 98) <|
    some (.inl (v4_1 + ((t_read ((1 + (3 * v4_2)) + 1).toNat) - 1), v4_2 + 1))
  else
    some (.inr v4_1)
def F_X12_width (n : Nat)  (t_read : Nat → Int)  : Option (Int) :=
  (lp_ (fun (q : Int × Int) => F_X12_width_L4 n t_read q.1 q.2) n (0, 0)).bind fun o1 =>
  some o1
def rm_X12_width : Room := { frames := 0, cells := 0, slots := 0, locals := 0 }
set_option maxHeartbeats 4000000 in
set_option maxRecDepth 100000 in
theorem k_X12_width {l : Launch} {D : va_G} {E : Nat → ClassId} (n : Nat) (a_t a_t_now a_t_read a_t_past a_t_images a_t_isKept a_t_text a_t_metAt a_t_memoryAt a_t_upAt a_t_downAt a_t_isSignal a_t_memories a_t_placeOf a_t_nextPlace a_t_kindOf a_t_newKind a_t_stateOfKind a_t_stateAt a_t_stepTo a_t_far a_t_ways a_t_nextWays a_t_table : Nat) (t_deeds : Int) (t_letters : Int) (t_at : Int) (t_tokenAt : Int) (t_tokenSort : Int) (t_tokenValue : Int) (t_items : Int) (t_isChanceTold : Int) (t_areSumsTold : Int) (t_places : Int) (t_kinds : Int) (t_states : Int) (t_read : Nat → Int) (res : Int) (hf : F_X12_width n t_read = some res) : MR l yX12_width (.code yX12_width cX12_width 3 (some .int)) rm_X12_width D E [.ref a_t] [(a_t, .inr (12, [.ref a_t_now, .ref a_t_read, .ref a_t_past, .int (z4 t_deeds), .ref a_t_images, .ref a_t_isKept, .ref a_t_text, .int (z4 t_letters), .int (z4 t_at), .int (z4 t_tokenAt), .int (z4 t_tokenSort), .int (z4 t_tokenValue), .int (z4 t_items), .int (z4 t_isChanceTold), .int (z4 t_areSumsTold), .ref a_t_metAt, .ref a_t_memoryAt, .ref a_t_upAt, .ref a_t_downAt, .ref a_t_isSignal, .ref a_t_memories, .ref a_t_placeOf, .ref a_t_nextPlace, .int (z4 t_places), .ref a_t_kindOf, .ref a_t_newKind, .int (z4 t_kinds), .ref a_t_stateOfKind, .ref a_t_stateAt, .ref a_t_stepTo, .int (z4 t_states), .ref a_t_far, .ref a_t_ways, .ref a_t_nextWays, .ref a_t_table])), (a_t_read, .inl (E 0, 98, .inl (A4 t_read)))] (some (.int (z4 res))) := by
  refine MRi (by decide) (Nat.le_of_ble_eq_true rfl) ?_
  intro p e s m args below meth c Q X hK hP ret ls hl
  have hx := X.1
  have hb := X.2.1
  have hl : lv_has ls 3 [(0, .ref a_t)] := hl
  unfold F_X12_width at hf
  refine m_iconst X dX12_width_0 ?_
  refine lv_istore_n (lv' := [(1, .int (z4 0)), (0, .ref a_t)]) hx hb dX12_width_1 rfl hl (by decide) rfl (fun ls hl => ?_)
  refine m_iconst X dX12_width_2 ?_
  refine lv_istore_n (lv' := [(2, .int (z4 0)), (1, .int (z4 0)), (0, .ref a_t)]) hx hb dX12_width_3 rfl hl (by decide) rfl (fun ls hl => ?_)
  obtain ⟨o1, hj1, hr1⟩ := bd_some hf
  have E1_0 : ∀ (o_ : Int), o1 = o_ → ∀ (ls : Array Slot), lv_has ls 3 [(1, .int (z4 o_))] → W p l e rm_X12_width s m args below meth c s.heap [] 0 0 Q (F0 m 37 ls []) := by
    intro o_ ho_ ls hl 
    subst ho_
    refine lv_iload_n hx hb dX12_width_37 rfl (lv_at hl 0 rfl) ?_
    obtain rfl := Option.some.inj hr1
    exact ret _ _ dX12_width_38
  have L1 : ∀ (k_ : Nat) (v4_1 : Int) (v4_2 : Int), ∀ (ls : Array Slot), lv_has ls 3 [(0, .ref a_t), (1, .int (z4 v4_1)), (2, .int (z4 v4_2))] → lp_ (fun (q : Int × Int) => F_X12_width_L4 n t_read q.1 q.2) k_ (v4_1, v4_2) = some o1 → W p l e rm_X12_width s m args below meth c s.heap [] 0 0 Q (F0 m 4 ls []) := by
    intro k_
    induction k_ with
    | zero =>
      intro v4_1 v4_2 ls hl  hq_; exact (lp_zero hq_).elim
    | succ k_ ih1 =>
      intro v4_1 v4_2 ls hl  hq_
      obtain ⟨t_1, hb1, hq1⟩ := lp_some hq_
      replace hb1 : F_X12_width_L4 n t_read v4_1 v4_2 = some t_1 := hb1
      unfold F_X12_width_L4 at hb1
      refine lv_iload_n hx hb dX12_width_4 rfl (lv_at hl 2 rfl) ?_
      refine lv_aload_n hx hb dX12_width_5 rfl (lv_at hl 0 rfl) ?_
      refine m_get X hK hP cl_X12 iT_X12 1 (by decide) fl_X12_13 0 rfl rfl dX12_width_6 ?_
      refine m_iconst X dX12_width_9 ?_
      refine m_iald X hK hP 1 rfl (by decide) (by decide) dX12_width_10 ?_
      obtain ⟨h2, hb1⟩ := ck_some hb1
      refine m_icmp_ge X h2 dX12_width_11 (tgt := 37) (by decide) (fun (hc_ : ¬ (v4_2 < t_read 0)) => ?_) (fun (hc_ : v4_2 < t_read 0) => ?_)
      · rw [if_neg hc_] at hb1
        obtain rfl := Option.some.inj hb1
        exact E1_0 _ (Option.some.inj hq1).symm _ (lv_sub hl [1] rfl) 
      · rw [if_pos hc_] at hb1
        refine lv_iload_n hx hb dX12_width_14 rfl (lv_at hl 1 rfl) ?_
        refine lv_aload_n hx hb dX12_width_15 rfl (lv_at hl 0 rfl) ?_
        refine m_get X hK hP cl_X12 iT_X12 1 (by decide) fl_X12_13 0 rfl rfl dX12_width_16 ?_
        refine m_iconst X dX12_width_19 ?_
        refine m_iconst X dX12_width_20 ?_
        refine lv_iload_n hx hb dX12_width_21 rfl (lv_at hl 2 rfl) ?_
        refine m_imul X dX12_width_22 ?_
        refine m_iadd X dX12_width_23 ?_
        refine m_iconst X dX12_width_24 ?_
        refine m_iadd X dX12_width_25 ?_
        obtain ⟨h3, hb1⟩ := ck_some hb1
        refine m_iald X hK hP 1 rfl (by decide) h3 dX12_width_26 ?_
        refine m_iconst X dX12_width_27 ?_
        refine m_isub X dX12_width_28 ?_
        refine m_iadd X dX12_width_29 ?_
        refine lv_istore_n (lv' := [(1, .int (z4 (v4_1 + ((t_read ((1 + (3 * v4_2)) + 1).toNat) - 1)))), (0, .ref a_t), (2, .int (z4 v4_2))]) hx hb dX12_width_30 rfl hl (by decide) rfl (fun ls hl => ?_)
        refine m_iinc X 2 [(2, .int (z4 (v4_2 + 1))), (1, .int (z4 (v4_1 + ((t_read ((1 + (3 * v4_2)) + 1).toNat) - 1)))), (0, .ref a_t)] dX12_width_31 hl rfl (by decide) rfl (fun ls hl => ?_)
        refine lv_goto (tgt := 4) hx hb dX12_width_34 (by decide) ?_
        obtain rfl := Option.some.inj hb1
        exact ih1 _ _ _ (lv_sub hl [2, 1, 0] rfl)  hq1
  exact L1 n _ _ _ (lv_sub hl [2, 1, 0] rfl)  hj1
def F_X12_readRule (n : Nat)  (t_letters : Int) (t_at : Int) (t_tokenAt : Int) (t_tokenSort : Int) (t_tokenValue : Int) (t_read : Nat → Int) (t_text : Nat → Int)  : Option (Int × Int × Int × Int × Int × (Nat → Int)) :=
  ck (r4 (t_read 0)) <|
  if t_read 0 = 3 then
    some (0, t_at, t_tokenAt, t_tokenSort, t_tokenValue, t_read)
  else
    (F_X12_scanNumber n t_letters t_at t_tokenValue t_text 1 4).bind fun o2 =>
    ck (r4 o2.1) <|
    if o2.1 = 0 then
      some (0, o2.2.1, o2.2.2.1, o2.2.2.2.1, o2.2.2.2.2, t_read)
    else
      (F_X12_width n t_read).bind fun o4 =>
      Option.bind (α := Int) (
        ck (r4 (7 - o4)) <|
        if 7 - o4 < 4 then
          some (7 - o4)
        else
          some 4) fun o5 =>
      (F_X12_scanNumber n t_letters o2.2.1 o2.2.2.2.2 t_text o2.2.2.2.2 o5).bind fun o7 =>
      ck (r4 o7.1) <|
      if o7.1 = 0 then
        some (0, o7.2.1, o7.2.2.1, o7.2.2.2.1, o7.2.2.2.2, t_read)
      else
        (F_X12_scanNumber n t_letters o7.2.1 o7.2.2.2.2 t_text 1 31).bind fun o9 =>
        ck (r4 o9.1) <|
        if o9.1 = 0 then
          some (0, o9.2.1, o9.2.2.1, o9.2.2.2.1, o9.2.2.2.2, t_read)
        else
          ck (ix_ (1 + (3 * (t_read 0))) 98) <|
          ck (ix_ ((1 + (3 * (t_read 0))) + 1) 98) <|
          ck (ix_ ((1 + (3 * (t_read 0))) + 2) 98) <|
          some (1, o9.2.1, o9.2.2.1, o9.2.2.2.1, o9.2.2.2.2, up_ (up_ (up_ (up_ t_read (1 + (3 * (t_read 0))).toNat o2.2.2.2.2) ((1 + (3 * (t_read 0))) + 1).toNat o7.2.2.2.2) ((1 + (3 * (t_read 0))) + 2).toNat o9.2.2.2.2) 0 (((up_ (up_ (up_ t_read (1 + (3 * (t_read 0))).toNat o2.2.2.2.2) ((1 + (3 * (t_read 0))) + 1).toNat o7.2.2.2.2) ((1 + (3 * (t_read 0))) + 2).toNat o9.2.2.2.2) 0) + 1))
def rm_X12_readRule : Room := { frames := 4, cells := 0, slots := 0, locals := 89 }
set_option maxHeartbeats 4000000 in
set_option maxRecDepth 100000 in
theorem k_X12_readRule {l : Launch} {D : va_G} {E : Nat → ClassId} (n : Nat) (a_t a_t_now a_t_read a_t_past a_t_images a_t_isKept a_t_text a_t_metAt a_t_memoryAt a_t_upAt a_t_downAt a_t_isSignal a_t_memories a_t_placeOf a_t_nextPlace a_t_kindOf a_t_newKind a_t_stateOfKind a_t_stateAt a_t_stepTo a_t_far a_t_ways a_t_nextWays a_t_table : Nat) (t_deeds : Int) (t_letters : Int) (t_at : Int) (t_tokenAt : Int) (t_tokenSort : Int) (t_tokenValue : Int) (t_items : Int) (t_isChanceTold : Int) (t_areSumsTold : Int) (t_places : Int) (t_kinds : Int) (t_states : Int) (t_read : Nat → Int) (t_text : Nat → Int) (res : Int × Int × Int × Int × Int × (Nat → Int)) (hf : F_X12_readRule n t_letters t_at t_tokenAt t_tokenSort t_tokenValue t_read t_text = some res) : MW l yX12_readRule (.code yX12_readRule cX12_readRule 5 (some .boolean)) rm_X12_readRule D E [.ref a_t] [(a_t, .inr (12, [.ref a_t_now, .ref a_t_read, .ref a_t_past, .int (z4 t_deeds), .ref a_t_images, .ref a_t_isKept, .ref a_t_text, .int (z4 t_letters), .int (z4 t_at), .int (z4 t_tokenAt), .int (z4 t_tokenSort), .int (z4 t_tokenValue), .int (z4 t_items), .int (z4 t_isChanceTold), .int (z4 t_areSumsTold), .ref a_t_metAt, .ref a_t_memoryAt, .ref a_t_upAt, .ref a_t_downAt, .ref a_t_isSignal, .ref a_t_memories, .ref a_t_placeOf, .ref a_t_nextPlace, .int (z4 t_places), .ref a_t_kindOf, .ref a_t_newKind, .int (z4 t_kinds), .ref a_t_stateOfKind, .ref a_t_stateAt, .ref a_t_stepTo, .int (z4 t_states), .ref a_t_far, .ref a_t_ways, .ref a_t_nextWays, .ref a_t_table])), (a_t_read, .inl (E 0, 98, .inl (A4 t_read))), (a_t_text, .inl (E 0, 120, .inl (A4 t_text)))] (some (.int (z4 res.1))) [(a_t, .inr (12, [.ref a_t_now, .ref a_t_read, .ref a_t_past, .int (z4 t_deeds), .ref a_t_images, .ref a_t_isKept, .ref a_t_text, .int (z4 t_letters), .int (z4 res.2.1), .int (z4 res.2.2.1), .int (z4 res.2.2.2.1), .int (z4 res.2.2.2.2.1), .int (z4 t_items), .int (z4 t_isChanceTold), .int (z4 t_areSumsTold), .ref a_t_metAt, .ref a_t_memoryAt, .ref a_t_upAt, .ref a_t_downAt, .ref a_t_isSignal, .ref a_t_memories, .ref a_t_placeOf, .ref a_t_nextPlace, .int (z4 t_places), .ref a_t_kindOf, .ref a_t_newKind, .int (z4 t_kinds), .ref a_t_stateOfKind, .ref a_t_stateAt, .ref a_t_stepTo, .int (z4 t_states), .ref a_t_far, .ref a_t_ways, .ref a_t_nextWays, .ref a_t_table])), (a_t_read, .inl (E 0, 98, .inl (A4 res.2.2.2.2.2))), (a_t_text, .inl (E 0, 120, .inl (A4 t_text)))] := by
  refine MWz (by decide) (Nat.le_of_ble_eq_true rfl) ?_
  intro p e s m args below meth c A Q X hK hP hD hA ret ls hl
  have hS : va_S A s.heap s.heap [] := va_S.rf
  have hx := X.1
  have hb := X.2.1
  have hl : lv_has ls 5 [(0, .ref a_t)] := hl
  unfold F_X12_readRule at hf
  refine lv_aload_n hx hb dX12_readRule_0 rfl (lv_at hl 0 rfl) ?_
  refine m_get X hK hP cl_X12 iT_X12 1 (by decide) fl_X12_13 0 rfl rfl dX12_readRule_1 ?_
  refine m_iconst X dX12_readRule_4 ?_
  refine m_iald X hK hP 1 rfl (by decide) (by decide) dX12_readRule_5 ?_
  refine m_iconst X dX12_readRule_6 ?_
  obtain ⟨h1, hf⟩ := ck_some hf
  refine m_icmp_eq X ⟨h1, ⟨by decide, by decide⟩⟩ dX12_readRule_7 (tgt := 19) (by decide) (fun (hc_ : t_read 0 = 3) => ?_) (fun (hc_ : ¬ (t_read 0 = 3)) => ?_)
  · rw [if_pos hc_] at hf
    refine m_iconst X dX12_readRule_19 ?_
    obtain rfl := Option.some.inj hf
    exact ret _ _ _ _ (Or.inl rfl) hP hD hS dX12_readRule_20
  · rw [if_neg hc_] at hf
    refine lv_aload_n hx hb dX12_readRule_10 rfl (lv_at hl 0 rfl) ?_
    refine m_iconst X dX12_readRule_11 ?_
    refine m_iconst X dX12_readRule_12 ?_
    obtain ⟨o2, ho, hf⟩ := bd_some hf
    refine m_cVW X hK hP hD hS hA (wr := [(a_t_read, .inl (E 0, 98, .inl (A4 t_read)))]) (k_X12_scanNumber n a_t a_t_now a_t_read a_t_past a_t_images a_t_isKept a_t_text a_t_metAt a_t_memoryAt a_t_upAt a_t_downAt a_t_isSignal a_t_memories a_t_placeOf a_t_nextPlace a_t_kindOf a_t_newKind a_t_stateOfKind a_t_stateAt a_t_stepTo a_t_far a_t_ways a_t_nextWays a_t_table t_deeds t_letters t_at t_tokenAt t_tokenSort t_tokenValue t_items t_isChanceTold t_areSumsTold t_places t_kinds t_states t_text 1 4 o2 ho) [0, 2] [1] [1, 0, 2] [(a_t, .inr (12, [.ref a_t_now, .ref a_t_read, .ref a_t_past, .int (z4 t_deeds), .ref a_t_images, .ref a_t_isKept, .ref a_t_text, .int (z4 t_letters), .int (z4 o2.2.1), .int (z4 o2.2.2.1), .int (z4 o2.2.2.2.1), .int (z4 o2.2.2.2.2), .int (z4 t_items), .int (z4 t_isChanceTold), .int (z4 t_areSumsTold), .ref a_t_metAt, .ref a_t_memoryAt, .ref a_t_upAt, .ref a_t_downAt, .ref a_t_isSignal, .ref a_t_memories, .ref a_t_placeOf, .ref a_t_nextPlace, .int (z4 t_places), .ref a_t_kindOf, .ref a_t_newKind, .int (z4 t_kinds), .ref a_t_stateOfKind, .ref a_t_stateAt, .ref a_t_stepTo, .int (z4 t_states), .ref a_t_far, .ref a_t_ways, .ref a_t_nextWays, .ref a_t_table])), (a_t_read, .inl (E 0, 98, .inl (A4 t_read))), (a_t_text, .inl (E 0, 120, .inl (A4 t_text)))] rfl rfl rfl rfl (by decide) rfl rfl rfl cl_X12 lk_X12_125 co_X12_scanNumber dy_X12_scanNumber rfl rfl ⟨Nat.le_of_ble_eq_true rfl, Nat.le_of_ble_eq_true rfl⟩ hl.1 rfl (Nat.le_of_ble_eq_true rfl) dX12_readRule_13 (Nat.zero_le _) (Nat.zero_le _) (fun H locs hP hD hS => ?_)
    obtain ⟨h3, hf⟩ := ck_some hf
    refine m_if_ne X h3 dX12_readRule_16 (tgt := 21) (by decide) (fun (hc_ : ¬ (o2.1 = 0)) => ?_) (fun (hc_ : o2.1 = 0) => ?_)
    · rw [if_neg hc_] at hf
      refine lv_aload_n hx hb dX12_readRule_21 rfl (lv_at hl 0 rfl) ?_
      refine m_get X hK hP cl_X12 iT_X12 11 (by decide) fl_X12_112 0 rfl rfl dX12_readRule_22 ?_
      refine lv_istore_n (lv' := [(1, .int (z4 o2.2.2.2.2)), (0, .ref a_t)]) hx hb dX12_readRule_25 rfl hl (by decide) rfl (fun ls hl => ?_)
      refine m_bipush X dX12_readRule_26 (by decide) ?_
      refine lv_aload_n hx hb dX12_readRule_28 rfl (lv_at hl 1 rfl) ?_
      obtain ⟨o4, ho, hf⟩ := bd_some hf
      refine m_cVR X hK (k_X12_width n a_t a_t_now a_t_read a_t_past a_t_images a_t_isKept a_t_text a_t_metAt a_t_memoryAt a_t_upAt a_t_downAt a_t_isSignal a_t_memories a_t_placeOf a_t_nextPlace a_t_kindOf a_t_newKind a_t_stateOfKind a_t_stateAt a_t_stepTo a_t_far a_t_ways a_t_nextWays a_t_table t_deeds t_letters o2.2.1 o2.2.2.1 o2.2.2.2.1 o2.2.2.2.2 t_items t_isChanceTold t_areSumsTold t_places t_kinds t_states t_read o4 ho) (hP.sub [0, 1] rfl) rfl cl_X12 lk_X12_129 co_X12_width dy_X12_width rfl rfl ⟨Nat.le_of_ble_eq_true rfl, Nat.le_of_ble_eq_true rfl⟩ hl.1 rfl (Nat.le_of_ble_eq_true rfl) dX12_readRule_29 (Nat.zero_le _) (Nat.zero_le _) ?_
      refine m_isub X dX12_readRule_32 ?_
      refine lv_istore_n (lv' := [(2, .int (z4 (7 - o4))), (1, .int (z4 o2.2.2.2.2)), (0, .ref a_t)]) hx hb dX12_readRule_33 rfl hl (by decide) rfl (fun ls hl => ?_)
      refine lv_aload_n hx hb dX12_readRule_34 rfl (lv_at hl 2 rfl) ?_
      refine lv_iload_n hx hb dX12_readRule_35 rfl (lv_at hl 1 rfl) ?_
      refine lv_iload_n hx hb dX12_readRule_36 rfl (lv_at hl 0 rfl) ?_
      refine m_iconst X dX12_readRule_37 ?_
      obtain ⟨o5, hj5, hr5⟩ := bd_some hf
      have J5 : ∀ (o_ : Int), o5 = o_ → ∀ (H : Heap) (locs : List Loc) (ls : Array Slot), lv_has ls 5 [(0, .ref a_t), (1, .int (z4 o2.2.2.2.2))] → va_P D vwCl [(a_t, .inr (12, [.ref a_t_now, .ref a_t_read, .ref a_t_past, .int (z4 t_deeds), .ref a_t_images, .ref a_t_isKept, .ref a_t_text, .int (z4 t_letters), .int (z4 o2.2.1), .int (z4 o2.2.2.1), .int (z4 o2.2.2.2.1), .int (z4 o2.2.2.2.2), .int (z4 t_items), .int (z4 t_isChanceTold), .int (z4 t_areSumsTold), .ref a_t_metAt, .ref a_t_memoryAt, .ref a_t_upAt, .ref a_t_downAt, .ref a_t_isSignal, .ref a_t_memories, .ref a_t_placeOf, .ref a_t_nextPlace, .int (z4 t_places), .ref a_t_kindOf, .ref a_t_newKind, .int (z4 t_kinds), .ref a_t_stateOfKind, .ref a_t_stateAt, .ref a_t_stepTo, .int (z4 t_states), .ref a_t_far, .ref a_t_ways, .ref a_t_nextWays, .ref a_t_table])), (a_t_read, .inl (E 0, 98, .inl (A4 t_read))), (a_t_text, .inl (E 0, 120, .inl (A4 t_text)))] H → va_D A [(a_t, .inr (12, [.ref a_t_now, .ref a_t_read, .ref a_t_past, .int (z4 t_deeds), .ref a_t_images, .ref a_t_isKept, .ref a_t_text, .int (z4 t_letters), .int (z4 o2.2.1), .int (z4 o2.2.2.1), .int (z4 o2.2.2.2.1), .int (z4 o2.2.2.2.2), .int (z4 t_items), .int (z4 t_isChanceTold), .int (z4 t_areSumsTold), .ref a_t_metAt, .ref a_t_memoryAt, .ref a_t_upAt, .ref a_t_downAt, .ref a_t_isSignal, .ref a_t_memories, .ref a_t_placeOf, .ref a_t_nextPlace, .int (z4 t_places), .ref a_t_kindOf, .ref a_t_newKind, .int (z4 t_kinds), .ref a_t_stateOfKind, .ref a_t_stateAt, .ref a_t_stepTo, .int (z4 t_states), .ref a_t_far, .ref a_t_ways, .ref a_t_nextWays, .ref a_t_table])), (a_t_read, .inl (E 0, 98, .inl (A4 t_read))), (a_t_text, .inl (E 0, 120, .inl (A4 t_text)))] → va_S A s.heap H locs → W p l e rm_X12_readRule s m args below meth c H locs 0 0 Q (F0 m 46 ls [.int (z4 o_), .int (z4 o2.2.2.2.2), .ref a_t]) := by
        intro o_ ho_ H locs ls hl hP hD hS
        subst ho_
        obtain ⟨o7, ho, hr5⟩ := bd_some hr5
        refine m_cVW X hK hP hD hS hA (wr := [(a_t_read, .inl (E 0, 98, .inl (A4 t_read)))]) (k_X12_scanNumber n a_t a_t_now a_t_read a_t_past a_t_images a_t_isKept a_t_text a_t_metAt a_t_memoryAt a_t_upAt a_t_downAt a_t_isSignal a_t_memories a_t_placeOf a_t_nextPlace a_t_kindOf a_t_newKind a_t_stateOfKind a_t_stateAt a_t_stepTo a_t_far a_t_ways a_t_nextWays a_t_table t_deeds t_letters o2.2.1 o2.2.2.1 o2.2.2.2.1 o2.2.2.2.2 t_items t_isChanceTold t_areSumsTold t_places t_kinds t_states t_text o2.2.2.2.2 o5 o7 ho) [0, 2] [1] [1, 0, 2] [(a_t, .inr (12, [.ref a_t_now, .ref a_t_read, .ref a_t_past, .int (z4 t_deeds), .ref a_t_images, .ref a_t_isKept, .ref a_t_text, .int (z4 t_letters), .int (z4 o7.2.1), .int (z4 o7.2.2.1), .int (z4 o7.2.2.2.1), .int (z4 o7.2.2.2.2), .int (z4 t_items), .int (z4 t_isChanceTold), .int (z4 t_areSumsTold), .ref a_t_metAt, .ref a_t_memoryAt, .ref a_t_upAt, .ref a_t_downAt, .ref a_t_isSignal, .ref a_t_memories, .ref a_t_placeOf, .ref a_t_nextPlace, .int (z4 t_places), .ref a_t_kindOf, .ref a_t_newKind, .int (z4 t_kinds), .ref a_t_stateOfKind, .ref a_t_stateAt, .ref a_t_stepTo, .int (z4 t_states), .ref a_t_far, .ref a_t_ways, .ref a_t_nextWays, .ref a_t_table])), (a_t_read, .inl (E 0, 98, .inl (A4 t_read))), (a_t_text, .inl (E 0, 120, .inl (A4 t_text)))] rfl rfl rfl rfl (by decide) rfl rfl rfl cl_X12 lk_X12_125 co_X12_scanNumber dy_X12_scanNumber rfl rfl ⟨Nat.le_of_ble_eq_true rfl, Nat.le_of_ble_eq_true rfl⟩ hl.1 rfl (Nat.le_of_ble_eq_true rfl) dX12_readRule_46 (Nat.zero_le _) (Nat.zero_le _) (fun H locs hP hD hS => ?_)
        obtain ⟨h8, hr5⟩ := ck_some hr5
        refine m_if_ne X h8 dX12_readRule_49 (tgt := 54) (by decide) (fun (hc_ : ¬ (o7.1 = 0)) => ?_) (fun (hc_ : o7.1 = 0) => ?_)
        · rw [if_neg hc_] at hr5
          refine lv_aload_n hx hb dX12_readRule_54 rfl (lv_at hl 0 rfl) ?_
          refine m_get X hK hP cl_X12 iT_X12 11 (by decide) fl_X12_112 0 rfl rfl dX12_readRule_55 ?_
          refine lv_istore_n (lv' := [(3, .int (z4 o7.2.2.2.2)), (0, .ref a_t), (1, .int (z4 o2.2.2.2.2))]) hx hb dX12_readRule_58 rfl hl (by decide) rfl (fun ls hl => ?_)
          refine lv_aload_n hx hb dX12_readRule_59 rfl (lv_at hl 1 rfl) ?_
          refine m_iconst X dX12_readRule_60 ?_
          refine m_bipush X dX12_readRule_61 (by decide) ?_
          obtain ⟨o9, ho, hr5⟩ := bd_some hr5
          refine m_cVW X hK hP hD hS hA (wr := [(a_t_read, .inl (E 0, 98, .inl (A4 t_read)))]) (k_X12_scanNumber n a_t a_t_now a_t_read a_t_past a_t_images a_t_isKept a_t_text a_t_metAt a_t_memoryAt a_t_upAt a_t_downAt a_t_isSignal a_t_memories a_t_placeOf a_t_nextPlace a_t_kindOf a_t_newKind a_t_stateOfKind a_t_stateAt a_t_stepTo a_t_far a_t_ways a_t_nextWays a_t_table t_deeds t_letters o7.2.1 o7.2.2.1 o7.2.2.2.1 o7.2.2.2.2 t_items t_isChanceTold t_areSumsTold t_places t_kinds t_states t_text 1 31 o9 ho) [0, 2] [1] [1, 0, 2] [(a_t, .inr (12, [.ref a_t_now, .ref a_t_read, .ref a_t_past, .int (z4 t_deeds), .ref a_t_images, .ref a_t_isKept, .ref a_t_text, .int (z4 t_letters), .int (z4 o9.2.1), .int (z4 o9.2.2.1), .int (z4 o9.2.2.2.1), .int (z4 o9.2.2.2.2), .int (z4 t_items), .int (z4 t_isChanceTold), .int (z4 t_areSumsTold), .ref a_t_metAt, .ref a_t_memoryAt, .ref a_t_upAt, .ref a_t_downAt, .ref a_t_isSignal, .ref a_t_memories, .ref a_t_placeOf, .ref a_t_nextPlace, .int (z4 t_places), .ref a_t_kindOf, .ref a_t_newKind, .int (z4 t_kinds), .ref a_t_stateOfKind, .ref a_t_stateAt, .ref a_t_stepTo, .int (z4 t_states), .ref a_t_far, .ref a_t_ways, .ref a_t_nextWays, .ref a_t_table])), (a_t_read, .inl (E 0, 98, .inl (A4 t_read))), (a_t_text, .inl (E 0, 120, .inl (A4 t_text)))] rfl rfl rfl rfl (by decide) rfl rfl rfl cl_X12 lk_X12_125 co_X12_scanNumber dy_X12_scanNumber rfl rfl ⟨Nat.le_of_ble_eq_true rfl, Nat.le_of_ble_eq_true rfl⟩ hl.1 rfl (Nat.le_of_ble_eq_true rfl) dX12_readRule_63 (Nat.zero_le _) (Nat.zero_le _) (fun H locs hP hD hS => ?_)
          obtain ⟨h10, hr5⟩ := ck_some hr5
          refine m_if_ne X h10 dX12_readRule_66 (tgt := 71) (by decide) (fun (hc_ : ¬ (o9.1 = 0)) => ?_) (fun (hc_ : o9.1 = 0) => ?_)
          · rw [if_neg hc_] at hr5
            refine m_iconst X dX12_readRule_71 ?_
            refine m_iconst X dX12_readRule_72 ?_
            refine lv_aload_n hx hb dX12_readRule_73 rfl (lv_at hl 1 rfl) ?_
            refine m_get X hK hP cl_X12 iT_X12 1 (by decide) fl_X12_13 0 rfl rfl dX12_readRule_74 ?_
            refine m_iconst X dX12_readRule_77 ?_
            refine m_iald X hK hP 1 rfl (by decide) (by decide) dX12_readRule_78 ?_
            refine m_imul X dX12_readRule_79 ?_
            refine m_iadd X dX12_readRule_80 ?_
            refine lv_istore (lv' := [(4, .int (z4 (1 + (3 * (t_read 0))))), (3, .int (z4 o7.2.2.2.2)), (0, .ref a_t), (1, .int (z4 o2.2.2.2.2))]) hx hb dX12_readRule_81 hl (by decide) rfl (fun ls hl => ?_)
            refine lv_aload_n hx hb dX12_readRule_83 rfl (lv_at hl 2 rfl) ?_
            refine m_get X hK hP cl_X12 iT_X12 1 (by decide) fl_X12_13 0 rfl rfl dX12_readRule_84 ?_
            refine lv_iload hx hb dX12_readRule_87 (lv_at hl 0 rfl) ?_
            refine lv_iload_n hx hb dX12_readRule_89 rfl (lv_at hl 3 rfl) ?_
            obtain ⟨h11, hr5⟩ := ck_some hr5
            refine m_iast X hK hP hD hS 1 rfl (by decide) h11 [(a_t, .inr (12, [.ref a_t_now, .ref a_t_read, .ref a_t_past, .int (z4 t_deeds), .ref a_t_images, .ref a_t_isKept, .ref a_t_text, .int (z4 t_letters), .int (z4 o9.2.1), .int (z4 o9.2.2.1), .int (z4 o9.2.2.2.1), .int (z4 o9.2.2.2.2), .int (z4 t_items), .int (z4 t_isChanceTold), .int (z4 t_areSumsTold), .ref a_t_metAt, .ref a_t_memoryAt, .ref a_t_upAt, .ref a_t_downAt, .ref a_t_isSignal, .ref a_t_memories, .ref a_t_placeOf, .ref a_t_nextPlace, .int (z4 t_places), .ref a_t_kindOf, .ref a_t_newKind, .int (z4 t_kinds), .ref a_t_stateOfKind, .ref a_t_stateAt, .ref a_t_stepTo, .int (z4 t_states), .ref a_t_far, .ref a_t_ways, .ref a_t_nextWays, .ref a_t_table])), (a_t_read, .inl (E 0, 98, .inl (A4 (up_ t_read (1 + (3 * (t_read 0))).toNat o2.2.2.2.2)))), (a_t_text, .inl (E 0, 120, .inl (A4 t_text)))] rfl dX12_readRule_90 (fun H locs hP hD hS => ?_)
            refine lv_aload_n hx hb dX12_readRule_91 rfl (lv_at hl 2 rfl) ?_
            refine m_get X hK hP cl_X12 iT_X12 1 (by decide) fl_X12_13 0 rfl rfl dX12_readRule_92 ?_
            refine lv_iload hx hb dX12_readRule_95 (lv_at hl 0 rfl) ?_
            refine m_iconst X dX12_readRule_97 ?_
            refine m_iadd X dX12_readRule_98 ?_
            refine lv_iload_n hx hb dX12_readRule_99 rfl (lv_at hl 1 rfl) ?_
            obtain ⟨h12, hr5⟩ := ck_some hr5
            refine m_iast X hK hP hD hS 1 rfl (by decide) h12 [(a_t, .inr (12, [.ref a_t_now, .ref a_t_read, .ref a_t_past, .int (z4 t_deeds), .ref a_t_images, .ref a_t_isKept, .ref a_t_text, .int (z4 t_letters), .int (z4 o9.2.1), .int (z4 o9.2.2.1), .int (z4 o9.2.2.2.1), .int (z4 o9.2.2.2.2), .int (z4 t_items), .int (z4 t_isChanceTold), .int (z4 t_areSumsTold), .ref a_t_metAt, .ref a_t_memoryAt, .ref a_t_upAt, .ref a_t_downAt, .ref a_t_isSignal, .ref a_t_memories, .ref a_t_placeOf, .ref a_t_nextPlace, .int (z4 t_places), .ref a_t_kindOf, .ref a_t_newKind, .int (z4 t_kinds), .ref a_t_stateOfKind, .ref a_t_stateAt, .ref a_t_stepTo, .int (z4 t_states), .ref a_t_far, .ref a_t_ways, .ref a_t_nextWays, .ref a_t_table])), (a_t_read, .inl (E 0, 98, .inl (A4 (up_ (up_ t_read (1 + (3 * (t_read 0))).toNat o2.2.2.2.2) ((1 + (3 * (t_read 0))) + 1).toNat o7.2.2.2.2)))), (a_t_text, .inl (E 0, 120, .inl (A4 t_text)))] rfl dX12_readRule_100 (fun H locs hP hD hS => ?_)
            refine lv_aload_n hx hb dX12_readRule_101 rfl (lv_at hl 2 rfl) ?_
            refine m_get X hK hP cl_X12 iT_X12 1 (by decide) fl_X12_13 0 rfl rfl dX12_readRule_102 ?_
            refine lv_iload hx hb dX12_readRule_105 (lv_at hl 0 rfl) ?_
            refine m_iconst X dX12_readRule_107 ?_
            refine m_iadd X dX12_readRule_108 ?_
            refine lv_aload_n hx hb dX12_readRule_109 rfl (lv_at hl 2 rfl) ?_
            refine m_get X hK hP cl_X12 iT_X12 11 (by decide) fl_X12_112 0 rfl rfl dX12_readRule_110 ?_
            obtain ⟨h13, hr5⟩ := ck_some hr5
            refine m_iast X hK hP hD hS 1 rfl (by decide) h13 [(a_t, .inr (12, [.ref a_t_now, .ref a_t_read, .ref a_t_past, .int (z4 t_deeds), .ref a_t_images, .ref a_t_isKept, .ref a_t_text, .int (z4 t_letters), .int (z4 o9.2.1), .int (z4 o9.2.2.1), .int (z4 o9.2.2.2.1), .int (z4 o9.2.2.2.2), .int (z4 t_items), .int (z4 t_isChanceTold), .int (z4 t_areSumsTold), .ref a_t_metAt, .ref a_t_memoryAt, .ref a_t_upAt, .ref a_t_downAt, .ref a_t_isSignal, .ref a_t_memories, .ref a_t_placeOf, .ref a_t_nextPlace, .int (z4 t_places), .ref a_t_kindOf, .ref a_t_newKind, .int (z4 t_kinds), .ref a_t_stateOfKind, .ref a_t_stateAt, .ref a_t_stepTo, .int (z4 t_states), .ref a_t_far, .ref a_t_ways, .ref a_t_nextWays, .ref a_t_table])), (a_t_read, .inl (E 0, 98, .inl (A4 (up_ (up_ (up_ t_read (1 + (3 * (t_read 0))).toNat o2.2.2.2.2) ((1 + (3 * (t_read 0))) + 1).toNat o7.2.2.2.2) ((1 + (3 * (t_read 0))) + 2).toNat o9.2.2.2.2)))), (a_t_text, .inl (E 0, 120, .inl (A4 t_text)))] rfl dX12_readRule_113 (fun H locs hP hD hS => ?_)
            refine lv_aload_n hx hb dX12_readRule_114 rfl (lv_at hl 2 rfl) ?_
            refine m_get X hK hP cl_X12 iT_X12 1 (by decide) fl_X12_13 0 rfl rfl dX12_readRule_115 ?_
            refine m_iconst X dX12_readRule_118 ?_
            refine lv_dup2_11 hx hb dX12_readRule_119 rfl rfl ?_
            refine m_iald X hK hP 1 rfl (by decide) (by decide) dX12_readRule_120 ?_
            refine m_iconst X dX12_readRule_121 ?_
            refine m_iadd X dX12_readRule_122 ?_
            refine m_iast X hK hP hD hS 1 rfl (by decide) (by decide) [(a_t, .inr (12, [.ref a_t_now, .ref a_t_read, .ref a_t_past, .int (z4 t_deeds), .ref a_t_images, .ref a_t_isKept, .ref a_t_text, .int (z4 t_letters), .int (z4 o9.2.1), .int (z4 o9.2.2.1), .int (z4 o9.2.2.2.1), .int (z4 o9.2.2.2.2), .int (z4 t_items), .int (z4 t_isChanceTold), .int (z4 t_areSumsTold), .ref a_t_metAt, .ref a_t_memoryAt, .ref a_t_upAt, .ref a_t_downAt, .ref a_t_isSignal, .ref a_t_memories, .ref a_t_placeOf, .ref a_t_nextPlace, .int (z4 t_places), .ref a_t_kindOf, .ref a_t_newKind, .int (z4 t_kinds), .ref a_t_stateOfKind, .ref a_t_stateAt, .ref a_t_stepTo, .int (z4 t_states), .ref a_t_far, .ref a_t_ways, .ref a_t_nextWays, .ref a_t_table])), (a_t_read, .inl (E 0, 98, .inl (A4 (up_ (up_ (up_ (up_ t_read (1 + (3 * (t_read 0))).toNat o2.2.2.2.2) ((1 + (3 * (t_read 0))) + 1).toNat o7.2.2.2.2) ((1 + (3 * (t_read 0))) + 2).toNat o9.2.2.2.2) 0 (((up_ (up_ (up_ t_read (1 + (3 * (t_read 0))).toNat o2.2.2.2.2) ((1 + (3 * (t_read 0))) + 1).toNat o7.2.2.2.2) ((1 + (3 * (t_read 0))) + 2).toNat o9.2.2.2.2) 0) + 1))))), (a_t_text, .inl (E 0, 120, .inl (A4 t_text)))] rfl dX12_readRule_123 (fun H locs hP hD hS => ?_)
            refine m_iconst X dX12_readRule_124 ?_
            obtain rfl := Option.some.inj hr5
            exact ret _ _ _ _ (Or.inr rfl) hP hD hS dX12_readRule_125
          · rw [if_pos hc_] at hr5
            refine m_iconst X dX12_readRule_69 ?_
            obtain rfl := Option.some.inj hr5
            exact ret _ _ _ _ (Or.inl rfl) hP hD hS dX12_readRule_70
        · rw [if_pos hc_] at hr5
          refine m_iconst X dX12_readRule_52 ?_
          obtain rfl := Option.some.inj hr5
          exact ret _ _ _ _ (Or.inl rfl) hP hD hS dX12_readRule_53
      obtain ⟨h6, hj5⟩ := ck_some hj5
      refine m_icmp_ge X ⟨h6, ⟨by decide, by decide⟩⟩ dX12_readRule_38 (tgt := 45) (by decide) (fun (hc_ : ¬ (7 - o4 < 4)) => ?_) (fun (hc_ : 7 - o4 < 4) => ?_)
      · rw [if_neg hc_] at hj5
        refine m_iconst X dX12_readRule_45 ?_
        exact J5 _ (Option.some.inj hj5).symm _ _ _ (lv_sub hl [2, 1] rfl) hP hD hS
      · rw [if_pos hc_] at hj5
        refine lv_iload_n hx hb dX12_readRule_41 rfl (lv_at hl 0 rfl) ?_
        refine lv_goto (tgt := 46) hx hb dX12_readRule_42 (by decide) ?_
        exact J5 _ (Option.some.inj hj5).symm _ _ _ (lv_sub hl [2, 1] rfl) hP hD hS
    · rw [if_pos hc_] at hf
      refine m_iconst X dX12_readRule_19 ?_
      obtain rfl := Option.some.inj hf
      exact ret _ _ _ _ (Or.inl rfl) hP hD hS dX12_readRule_20
def F_X12_readChance_L13 (n : Nat) (t_letters : Int) (t_text : Nat → Int) (v13_1 : Int) (v13_2 : Int) (t_at_l13 : Int) (t_tokenAt_l13 : Int) (t_tokenSort_l13 : Int) (t_tokenValue_l13 : Int) (t_read_l13 : Nat → Int) : Option ((Int × Int × Int × Int × Int × Int × (Nat → Int)) ⊕ ((Int × Int × Int × Int × Int × (Nat → Int)) ⊕ (Int × Int × Int × Int × (Nat → Int)))) :=
  ck (r4 v13_2) <|
  if v13_2 < 5 then
    (F_X12_scanNumber n t_letters t_at_l13 t_tokenValue_l13 t_text 0 10).bind fun o4 =>
    ck (r4 o4.1) <|
    if o4.1 = 0 then
      some (.inr (.inr (o4.2.1, o4.2.2.1, o4.2.2.2.1, o4.2.2.2.2, t_read_l13)))
    else
      ck (ix_ (10 + v13_2) 98) <|
      some (.inl (v13_1 + o4.2.2.2.2, v13_2 + 1, o4.2.1, o4.2.2.1, o4.2.2.2.1, o4.2.2.2.2, up_ t_read_l13 (10 + v13_2).toNat o4.2.2.2.2))
  else
    some (.inr (.inl (v13_1, t_at_l13, t_tokenAt_l13, t_tokenSort_l13, t_tokenValue_l13, t_read_l13)))
def F_X12_readChance (n : Nat)  (t_letters : Int) (t_at : Int) (t_tokenAt : Int) (t_tokenSort : Int) (t_tokenValue : Int) (t_isChanceTold : Int) (t_text : Nat → Int) (t_read : Nat → Int)  : Option (Int × Int × Int × Int × Int × Int × (Nat → Int)) :=
  ck (r4 t_isChanceTold) <|
  if t_isChanceTold = 0 then
    (lp_ (fun (q : Int × Int × Int × Int × Int × Int × (Nat → Int)) => F_X12_readChance_L13 n t_letters t_text q.1 q.2.1 q.2.2.1 q.2.2.2.1 q.2.2.2.2.1 q.2.2.2.2.2.1 q.2.2.2.2.2.2) n (0, 0, t_at, t_tokenAt, t_tokenSort, t_tokenValue, t_read)).bind fun o2 => match o2 with
    | .inl o2_0 =>
      Option.bind (α := Int) (
        ck (r4 o2_0.1) <|
        if o2_0.1 = 10 then
          some 1
        else
          some 0) fun o7 =>
      ck (o7 = 0 ∨ o7 = 1) <|
      some (o7, o2_0.2.1, o2_0.2.2.1, o2_0.2.2.2.1, o2_0.2.2.2.2.1, 1, o2_0.2.2.2.2.2)
    | .inr o2_1 =>
      some (0, o2_1.1, o2_1.2.1, o2_1.2.2.1, o2_1.2.2.2.1, t_isChanceTold, o2_1.2.2.2.2)
  else
    some (0, t_at, t_tokenAt, t_tokenSort, t_tokenValue, t_isChanceTold, t_read)
def rm_X12_readChance : Room := { frames := 4, cells := 0, slots := 0, locals := 89 }
set_option maxHeartbeats 4000000 in
set_option maxRecDepth 100000 in
theorem k_X12_readChance {l : Launch} {D : va_G} {E : Nat → ClassId} (n : Nat) (a_t a_t_now a_t_read a_t_past a_t_images a_t_isKept a_t_text a_t_metAt a_t_memoryAt a_t_upAt a_t_downAt a_t_isSignal a_t_memories a_t_placeOf a_t_nextPlace a_t_kindOf a_t_newKind a_t_stateOfKind a_t_stateAt a_t_stepTo a_t_far a_t_ways a_t_nextWays a_t_table : Nat) (t_deeds : Int) (t_letters : Int) (t_at : Int) (t_tokenAt : Int) (t_tokenSort : Int) (t_tokenValue : Int) (t_items : Int) (t_isChanceTold : Int) (t_areSumsTold : Int) (t_places : Int) (t_kinds : Int) (t_states : Int) (t_text : Nat → Int) (t_read : Nat → Int) (res : Int × Int × Int × Int × Int × Int × (Nat → Int)) (hf : F_X12_readChance n t_letters t_at t_tokenAt t_tokenSort t_tokenValue t_isChanceTold t_text t_read = some res) : MW l yX12_readChance (.code yX12_readChance cX12_readChance 3 (some .boolean)) rm_X12_readChance D E [.ref a_t] [(a_t, .inr (12, [.ref a_t_now, .ref a_t_read, .ref a_t_past, .int (z4 t_deeds), .ref a_t_images, .ref a_t_isKept, .ref a_t_text, .int (z4 t_letters), .int (z4 t_at), .int (z4 t_tokenAt), .int (z4 t_tokenSort), .int (z4 t_tokenValue), .int (z4 t_items), .int (z4 t_isChanceTold), .int (z4 t_areSumsTold), .ref a_t_metAt, .ref a_t_memoryAt, .ref a_t_upAt, .ref a_t_downAt, .ref a_t_isSignal, .ref a_t_memories, .ref a_t_placeOf, .ref a_t_nextPlace, .int (z4 t_places), .ref a_t_kindOf, .ref a_t_newKind, .int (z4 t_kinds), .ref a_t_stateOfKind, .ref a_t_stateAt, .ref a_t_stepTo, .int (z4 t_states), .ref a_t_far, .ref a_t_ways, .ref a_t_nextWays, .ref a_t_table])), (a_t_text, .inl (E 0, 120, .inl (A4 t_text))), (a_t_read, .inl (E 0, 98, .inl (A4 t_read)))] (some (.int (z4 res.1))) [(a_t, .inr (12, [.ref a_t_now, .ref a_t_read, .ref a_t_past, .int (z4 t_deeds), .ref a_t_images, .ref a_t_isKept, .ref a_t_text, .int (z4 t_letters), .int (z4 res.2.1), .int (z4 res.2.2.1), .int (z4 res.2.2.2.1), .int (z4 res.2.2.2.2.1), .int (z4 t_items), .int (z4 res.2.2.2.2.2.1), .int (z4 t_areSumsTold), .ref a_t_metAt, .ref a_t_memoryAt, .ref a_t_upAt, .ref a_t_downAt, .ref a_t_isSignal, .ref a_t_memories, .ref a_t_placeOf, .ref a_t_nextPlace, .int (z4 t_places), .ref a_t_kindOf, .ref a_t_newKind, .int (z4 t_kinds), .ref a_t_stateOfKind, .ref a_t_stateAt, .ref a_t_stepTo, .int (z4 t_states), .ref a_t_far, .ref a_t_ways, .ref a_t_nextWays, .ref a_t_table])), (a_t_text, .inl (E 0, 120, .inl (A4 t_text))), (a_t_read, .inl (E 0, 98, .inl (A4 res.2.2.2.2.2.2)))] := by
  refine MWz (by decide) (Nat.le_of_ble_eq_true rfl) ?_
  intro p e s m args below meth c A Q X hK hP hD hA ret ls hl
  have hS : va_S A s.heap s.heap [] := va_S.rf
  have hx := X.1
  have hb := X.2.1
  have hl : lv_has ls 3 [(0, .ref a_t)] := hl
  unfold F_X12_readChance at hf
  refine lv_aload_n hx hb dX12_readChance_0 rfl (lv_at hl 0 rfl) ?_
  refine m_get X hK hP cl_X12 iT_X12 13 (by decide) fl_X12_133 0 rfl rfl dX12_readChance_1 ?_
  obtain ⟨h1, hf⟩ := ck_some hf
  refine m_if_eq X h1 dX12_readChance_4 (tgt := 9) (by decide) (fun (hc_ : t_isChanceTold = 0) => ?_) (fun (hc_ : ¬ (t_isChanceTold = 0)) => ?_)
  · rw [if_pos hc_] at hf
    refine m_iconst X dX12_readChance_9 ?_
    refine lv_istore_n (lv' := [(1, .int (z4 0)), (0, .ref a_t)]) hx hb dX12_readChance_10 rfl hl (by decide) rfl (fun ls hl => ?_)
    refine m_iconst X dX12_readChance_11 ?_
    refine lv_istore_n (lv' := [(2, .int (z4 0)), (1, .int (z4 0)), (0, .ref a_t)]) hx hb dX12_readChance_12 rfl hl (by decide) rfl (fun ls hl => ?_)
    obtain ⟨o2, hj2, hr2⟩ := bd_some hf
    have E2_0 : ∀ (o_ : Int × Int × Int × Int × Int × (Nat → Int)), o2 = (.inl o_) → ∀ (H : Heap) (locs : List Loc) (ls : Array Slot), lv_has ls 3 [(0, .ref a_t), (1, .int (z4 o_.1))] → va_P D vwCl [(a_t, .inr (12, [.ref a_t_now, .ref a_t_read, .ref a_t_past, .int (z4 t_deeds), .ref a_t_images, .ref a_t_isKept, .ref a_t_text, .int (z4 t_letters), .int (z4 o_.2.1), .int (z4 o_.2.2.1), .int (z4 o_.2.2.2.1), .int (z4 o_.2.2.2.2.1), .int (z4 t_items), .int (z4 t_isChanceTold), .int (z4 t_areSumsTold), .ref a_t_metAt, .ref a_t_memoryAt, .ref a_t_upAt, .ref a_t_downAt, .ref a_t_isSignal, .ref a_t_memories, .ref a_t_placeOf, .ref a_t_nextPlace, .int (z4 t_places), .ref a_t_kindOf, .ref a_t_newKind, .int (z4 t_kinds), .ref a_t_stateOfKind, .ref a_t_stateAt, .ref a_t_stepTo, .int (z4 t_states), .ref a_t_far, .ref a_t_ways, .ref a_t_nextWays, .ref a_t_table])), (a_t_text, .inl (E 0, 120, .inl (A4 t_text))), (a_t_read, .inl (E 0, 98, .inl (A4 o_.2.2.2.2.2)))] H → va_D A [(a_t, .inr (12, [.ref a_t_now, .ref a_t_read, .ref a_t_past, .int (z4 t_deeds), .ref a_t_images, .ref a_t_isKept, .ref a_t_text, .int (z4 t_letters), .int (z4 o_.2.1), .int (z4 o_.2.2.1), .int (z4 o_.2.2.2.1), .int (z4 o_.2.2.2.2.1), .int (z4 t_items), .int (z4 t_isChanceTold), .int (z4 t_areSumsTold), .ref a_t_metAt, .ref a_t_memoryAt, .ref a_t_upAt, .ref a_t_downAt, .ref a_t_isSignal, .ref a_t_memories, .ref a_t_placeOf, .ref a_t_nextPlace, .int (z4 t_places), .ref a_t_kindOf, .ref a_t_newKind, .int (z4 t_kinds), .ref a_t_stateOfKind, .ref a_t_stateAt, .ref a_t_stepTo, .int (z4 t_states), .ref a_t_far, .ref a_t_ways, .ref a_t_nextWays, .ref a_t_table])), (a_t_text, .inl (E 0, 120, .inl (A4 t_text))), (a_t_read, .inl (E 0, 98, .inl (A4 o_.2.2.2.2.2)))] → va_S A s.heap H locs → W p l e rm_X12_readChance s m args below meth c H locs 0 0 Q (F0 m 56 ls []) := by
      intro o2_0 ho_ H locs ls hl hP hD hS
      subst ho_
      refine lv_aload_n hx hb dX12_readChance_56 rfl (lv_at hl 0 rfl) ?_
      refine m_iconst X dX12_readChance_57 ?_
      refine m_put X hK hP hD hS cl_X12 iT_X12 tyX12 tyX12_ok nmX12 13 (by decide) fl_X12_133 rfl 0 rfl rfl rfl (Nat.le_of_ble_eq_true rfl) [(a_t, .inr (12, [.ref a_t_now, .ref a_t_read, .ref a_t_past, .int (z4 t_deeds), .ref a_t_images, .ref a_t_isKept, .ref a_t_text, .int (z4 t_letters), .int (z4 o2_0.2.1), .int (z4 o2_0.2.2.1), .int (z4 o2_0.2.2.2.1), .int (z4 o2_0.2.2.2.2.1), .int (z4 t_items), .int (z4 1), .int (z4 t_areSumsTold), .ref a_t_metAt, .ref a_t_memoryAt, .ref a_t_upAt, .ref a_t_downAt, .ref a_t_isSignal, .ref a_t_memories, .ref a_t_placeOf, .ref a_t_nextPlace, .int (z4 t_places), .ref a_t_kindOf, .ref a_t_newKind, .int (z4 t_kinds), .ref a_t_stateOfKind, .ref a_t_stateAt, .ref a_t_stepTo, .int (z4 t_states), .ref a_t_far, .ref a_t_ways, .ref a_t_nextWays, .ref a_t_table])), (a_t_text, .inl (E 0, 120, .inl (A4 t_text))), (a_t_read, .inl (E 0, 98, .inl (A4 o2_0.2.2.2.2.2)))] rfl dX12_readChance_58 (fun H locs hP hD hS => ?_)
      refine lv_iload_n hx hb dX12_readChance_61 rfl (lv_at hl 1 rfl) ?_
      refine m_bipush X dX12_readChance_62 (by decide) ?_
      obtain ⟨o7, hj7, hr7⟩ := bd_some hr2
      have J7 : ∀ (o_ : Int), o7 = o_ → ∀ (H : Heap) (locs : List Loc) (ls : Array Slot), lv_has ls 3 [] → va_P D vwCl [(a_t, .inr (12, [.ref a_t_now, .ref a_t_read, .ref a_t_past, .int (z4 t_deeds), .ref a_t_images, .ref a_t_isKept, .ref a_t_text, .int (z4 t_letters), .int (z4 o2_0.2.1), .int (z4 o2_0.2.2.1), .int (z4 o2_0.2.2.2.1), .int (z4 o2_0.2.2.2.2.1), .int (z4 t_items), .int (z4 1), .int (z4 t_areSumsTold), .ref a_t_metAt, .ref a_t_memoryAt, .ref a_t_upAt, .ref a_t_downAt, .ref a_t_isSignal, .ref a_t_memories, .ref a_t_placeOf, .ref a_t_nextPlace, .int (z4 t_places), .ref a_t_kindOf, .ref a_t_newKind, .int (z4 t_kinds), .ref a_t_stateOfKind, .ref a_t_stateAt, .ref a_t_stepTo, .int (z4 t_states), .ref a_t_far, .ref a_t_ways, .ref a_t_nextWays, .ref a_t_table])), (a_t_text, .inl (E 0, 120, .inl (A4 t_text))), (a_t_read, .inl (E 0, 98, .inl (A4 o2_0.2.2.2.2.2)))] H → va_D A [(a_t, .inr (12, [.ref a_t_now, .ref a_t_read, .ref a_t_past, .int (z4 t_deeds), .ref a_t_images, .ref a_t_isKept, .ref a_t_text, .int (z4 t_letters), .int (z4 o2_0.2.1), .int (z4 o2_0.2.2.1), .int (z4 o2_0.2.2.2.1), .int (z4 o2_0.2.2.2.2.1), .int (z4 t_items), .int (z4 1), .int (z4 t_areSumsTold), .ref a_t_metAt, .ref a_t_memoryAt, .ref a_t_upAt, .ref a_t_downAt, .ref a_t_isSignal, .ref a_t_memories, .ref a_t_placeOf, .ref a_t_nextPlace, .int (z4 t_places), .ref a_t_kindOf, .ref a_t_newKind, .int (z4 t_kinds), .ref a_t_stateOfKind, .ref a_t_stateAt, .ref a_t_stepTo, .int (z4 t_states), .ref a_t_far, .ref a_t_ways, .ref a_t_nextWays, .ref a_t_table])), (a_t_text, .inl (E 0, 120, .inl (A4 t_text))), (a_t_read, .inl (E 0, 98, .inl (A4 o2_0.2.2.2.2.2)))] → va_S A s.heap H locs → W p l e rm_X12_readChance s m args below meth c H locs 0 0 Q (F0 m 72 ls [.int (z4 o_)]) := by
        intro o_ ho_ H locs ls hl hP hD hS
        subst ho_
        obtain ⟨h9, hr7⟩ := ck_some hr7
        obtain rfl := Option.some.inj hr7
        exact ret _ _ _ _ h9 hP hD hS dX12_readChance_72
      obtain ⟨h8, hj7⟩ := ck_some hj7
      refine m_icmp_ne X ⟨h8, ⟨by decide, by decide⟩⟩ dX12_readChance_64 (tgt := 71) (by decide) (fun (hc_ : ¬ (o2_0.1 = 10)) => ?_) (fun (hc_ : o2_0.1 = 10) => ?_)
      · rw [if_neg hc_] at hj7
        refine m_iconst X dX12_readChance_71 ?_
        exact J7 _ (Option.some.inj hj7).symm _ _ _ (lv_sub hl [] rfl) hP hD hS
      · rw [if_pos hc_] at hj7
        refine m_iconst X dX12_readChance_67 ?_
        refine lv_goto (tgt := 72) hx hb dX12_readChance_68 (by decide) ?_
        exact J7 _ (Option.some.inj hj7).symm _ _ _ (lv_sub hl [] rfl) hP hD hS
    have E2_1 : ∀ (o_ : Int × Int × Int × Int × (Nat → Int)), o2 = (.inr o_) → ∀ (H : Heap) (locs : List Loc) (ls : Array Slot), lv_has ls 3 [] → va_P D vwCl [(a_t, .inr (12, [.ref a_t_now, .ref a_t_read, .ref a_t_past, .int (z4 t_deeds), .ref a_t_images, .ref a_t_isKept, .ref a_t_text, .int (z4 t_letters), .int (z4 o_.1), .int (z4 o_.2.1), .int (z4 o_.2.2.1), .int (z4 o_.2.2.2.1), .int (z4 t_items), .int (z4 t_isChanceTold), .int (z4 t_areSumsTold), .ref a_t_metAt, .ref a_t_memoryAt, .ref a_t_upAt, .ref a_t_downAt, .ref a_t_isSignal, .ref a_t_memories, .ref a_t_placeOf, .ref a_t_nextPlace, .int (z4 t_places), .ref a_t_kindOf, .ref a_t_newKind, .int (z4 t_kinds), .ref a_t_stateOfKind, .ref a_t_stateAt, .ref a_t_stepTo, .int (z4 t_states), .ref a_t_far, .ref a_t_ways, .ref a_t_nextWays, .ref a_t_table])), (a_t_text, .inl (E 0, 120, .inl (A4 t_text))), (a_t_read, .inl (E 0, 98, .inl (A4 o_.2.2.2.2)))] H → va_D A [(a_t, .inr (12, [.ref a_t_now, .ref a_t_read, .ref a_t_past, .int (z4 t_deeds), .ref a_t_images, .ref a_t_isKept, .ref a_t_text, .int (z4 t_letters), .int (z4 o_.1), .int (z4 o_.2.1), .int (z4 o_.2.2.1), .int (z4 o_.2.2.2.1), .int (z4 t_items), .int (z4 t_isChanceTold), .int (z4 t_areSumsTold), .ref a_t_metAt, .ref a_t_memoryAt, .ref a_t_upAt, .ref a_t_downAt, .ref a_t_isSignal, .ref a_t_memories, .ref a_t_placeOf, .ref a_t_nextPlace, .int (z4 t_places), .ref a_t_kindOf, .ref a_t_newKind, .int (z4 t_kinds), .ref a_t_stateOfKind, .ref a_t_stateAt, .ref a_t_stepTo, .int (z4 t_states), .ref a_t_far, .ref a_t_ways, .ref a_t_nextWays, .ref a_t_table])), (a_t_text, .inl (E 0, 120, .inl (A4 t_text))), (a_t_read, .inl (E 0, 98, .inl (A4 o_.2.2.2.2)))] → va_S A s.heap H locs → W p l e rm_X12_readChance s m args below meth c H locs 0 0 Q (F0 m 28 ls []) := by
      intro o2_1 ho_ H locs ls hl hP hD hS
      subst ho_
      refine m_iconst X dX12_readChance_28 ?_
      obtain rfl := Option.some.inj hr2
      exact ret _ _ _ _ (Or.inl rfl) hP hD hS dX12_readChance_29
    have L2 : ∀ (k_ : Nat) (v13_1 : Int) (v13_2 : Int) (t_at_l13 : Int) (t_tokenAt_l13 : Int) (t_tokenSort_l13 : Int) (t_tokenValue_l13 : Int) (t_read_l13 : Nat → Int), ∀ (H : Heap) (locs : List Loc) (ls : Array Slot), lv_has ls 3 [(0, .ref a_t), (1, .int (z4 v13_1)), (2, .int (z4 v13_2))] → va_P D vwCl [(a_t, .inr (12, [.ref a_t_now, .ref a_t_read, .ref a_t_past, .int (z4 t_deeds), .ref a_t_images, .ref a_t_isKept, .ref a_t_text, .int (z4 t_letters), .int (z4 t_at_l13), .int (z4 t_tokenAt_l13), .int (z4 t_tokenSort_l13), .int (z4 t_tokenValue_l13), .int (z4 t_items), .int (z4 t_isChanceTold), .int (z4 t_areSumsTold), .ref a_t_metAt, .ref a_t_memoryAt, .ref a_t_upAt, .ref a_t_downAt, .ref a_t_isSignal, .ref a_t_memories, .ref a_t_placeOf, .ref a_t_nextPlace, .int (z4 t_places), .ref a_t_kindOf, .ref a_t_newKind, .int (z4 t_kinds), .ref a_t_stateOfKind, .ref a_t_stateAt, .ref a_t_stepTo, .int (z4 t_states), .ref a_t_far, .ref a_t_ways, .ref a_t_nextWays, .ref a_t_table])), (a_t_text, .inl (E 0, 120, .inl (A4 t_text))), (a_t_read, .inl (E 0, 98, .inl (A4 t_read_l13)))] H → va_D A [(a_t, .inr (12, [.ref a_t_now, .ref a_t_read, .ref a_t_past, .int (z4 t_deeds), .ref a_t_images, .ref a_t_isKept, .ref a_t_text, .int (z4 t_letters), .int (z4 t_at_l13), .int (z4 t_tokenAt_l13), .int (z4 t_tokenSort_l13), .int (z4 t_tokenValue_l13), .int (z4 t_items), .int (z4 t_isChanceTold), .int (z4 t_areSumsTold), .ref a_t_metAt, .ref a_t_memoryAt, .ref a_t_upAt, .ref a_t_downAt, .ref a_t_isSignal, .ref a_t_memories, .ref a_t_placeOf, .ref a_t_nextPlace, .int (z4 t_places), .ref a_t_kindOf, .ref a_t_newKind, .int (z4 t_kinds), .ref a_t_stateOfKind, .ref a_t_stateAt, .ref a_t_stepTo, .int (z4 t_states), .ref a_t_far, .ref a_t_ways, .ref a_t_nextWays, .ref a_t_table])), (a_t_text, .inl (E 0, 120, .inl (A4 t_text))), (a_t_read, .inl (E 0, 98, .inl (A4 t_read_l13)))] → va_S A s.heap H locs → lp_ (fun (q : Int × Int × Int × Int × Int × Int × (Nat → Int)) => F_X12_readChance_L13 n t_letters t_text q.1 q.2.1 q.2.2.1 q.2.2.2.1 q.2.2.2.2.1 q.2.2.2.2.2.1 q.2.2.2.2.2.2) k_ (v13_1, v13_2, t_at_l13, t_tokenAt_l13, t_tokenSort_l13, t_tokenValue_l13, t_read_l13) = some o2 → W p l e rm_X12_readChance s m args below meth c H locs 0 0 Q (F0 m 13 ls []) := by
      intro k_
      induction k_ with
      | zero =>
        intro v13_1 v13_2 t_at_l13 t_tokenAt_l13 t_tokenSort_l13 t_tokenValue_l13 t_read_l13 H locs ls hl hP hD hS hq_; exact (lp_zero hq_).elim
      | succ k_ ih2 =>
        intro v13_1 v13_2 t_at_l13 t_tokenAt_l13 t_tokenSort_l13 t_tokenValue_l13 t_read_l13 H locs ls hl hP hD hS hq_
        obtain ⟨t_2, hb2, hq2⟩ := lp_some hq_
        replace hb2 : F_X12_readChance_L13 n t_letters t_text v13_1 v13_2 t_at_l13 t_tokenAt_l13 t_tokenSort_l13 t_tokenValue_l13 t_read_l13 = some t_2 := hb2
        unfold F_X12_readChance_L13 at hb2
        refine lv_iload_n hx hb dX12_readChance_13 rfl (lv_at hl 2 rfl) ?_
        refine m_iconst X dX12_readChance_14 ?_
        obtain ⟨h3, hb2⟩ := ck_some hb2
        refine m_icmp_ge X ⟨h3, ⟨by decide, by decide⟩⟩ dX12_readChance_15 (tgt := 56) (by decide) (fun (hc_ : ¬ (v13_2 < 5)) => ?_) (fun (hc_ : v13_2 < 5) => ?_)
        · rw [if_neg hc_] at hb2
          obtain rfl := Option.some.inj hb2
          exact E2_0 _ (Option.some.inj hq2).symm _ _ _ (lv_sub hl [0, 1] rfl) hP hD hS
        · rw [if_pos hc_] at hb2
          refine lv_aload_n hx hb dX12_readChance_18 rfl (lv_at hl 0 rfl) ?_
          refine m_iconst X dX12_readChance_19 ?_
          refine m_bipush X dX12_readChance_20 (by decide) ?_
          obtain ⟨o4, ho, hb2⟩ := bd_some hb2
          refine m_cVW X hK hP hD hS hA (wr := [(a_t_read, .inl (E 0, 98, .inl (A4 t_read_l13)))]) (k_X12_scanNumber n a_t a_t_now a_t_read a_t_past a_t_images a_t_isKept a_t_text a_t_metAt a_t_memoryAt a_t_upAt a_t_downAt a_t_isSignal a_t_memories a_t_placeOf a_t_nextPlace a_t_kindOf a_t_newKind a_t_stateOfKind a_t_stateAt a_t_stepTo a_t_far a_t_ways a_t_nextWays a_t_table t_deeds t_letters t_at_l13 t_tokenAt_l13 t_tokenSort_l13 t_tokenValue_l13 t_items t_isChanceTold t_areSumsTold t_places t_kinds t_states t_text 0 10 o4 ho) [0, 1] [2] [1, 2, 0] [(a_t, .inr (12, [.ref a_t_now, .ref a_t_read, .ref a_t_past, .int (z4 t_deeds), .ref a_t_images, .ref a_t_isKept, .ref a_t_text, .int (z4 t_letters), .int (z4 o4.2.1), .int (z4 o4.2.2.1), .int (z4 o4.2.2.2.1), .int (z4 o4.2.2.2.2), .int (z4 t_items), .int (z4 t_isChanceTold), .int (z4 t_areSumsTold), .ref a_t_metAt, .ref a_t_memoryAt, .ref a_t_upAt, .ref a_t_downAt, .ref a_t_isSignal, .ref a_t_memories, .ref a_t_placeOf, .ref a_t_nextPlace, .int (z4 t_places), .ref a_t_kindOf, .ref a_t_newKind, .int (z4 t_kinds), .ref a_t_stateOfKind, .ref a_t_stateAt, .ref a_t_stepTo, .int (z4 t_states), .ref a_t_far, .ref a_t_ways, .ref a_t_nextWays, .ref a_t_table])), (a_t_text, .inl (E 0, 120, .inl (A4 t_text))), (a_t_read, .inl (E 0, 98, .inl (A4 t_read_l13)))] rfl rfl rfl rfl (by decide) rfl rfl rfl cl_X12 lk_X12_125 co_X12_scanNumber dy_X12_scanNumber rfl rfl ⟨Nat.le_of_ble_eq_true rfl, Nat.le_of_ble_eq_true rfl⟩ hl.1 rfl (Nat.le_of_ble_eq_true rfl) dX12_readChance_22 (Nat.zero_le _) (Nat.zero_le _) (fun H locs hP hD hS => ?_)
          obtain ⟨h5, hb2⟩ := ck_some hb2
          refine m_if_ne X h5 dX12_readChance_25 (tgt := 30) (by decide) (fun (hc_ : ¬ (o4.1 = 0)) => ?_) (fun (hc_ : o4.1 = 0) => ?_)
          · rw [if_neg hc_] at hb2
            refine lv_aload_n hx hb dX12_readChance_30 rfl (lv_at hl 0 rfl) ?_
            refine m_get X hK hP cl_X12 iT_X12 1 (by decide) fl_X12_13 0 rfl rfl dX12_readChance_31 ?_
            refine m_bipush X dX12_readChance_34 (by decide) ?_
            refine lv_iload_n hx hb dX12_readChance_36 rfl (lv_at hl 2 rfl) ?_
            refine m_iadd X dX12_readChance_37 ?_
            refine lv_aload_n hx hb dX12_readChance_38 rfl (lv_at hl 0 rfl) ?_
            refine m_get X hK hP cl_X12 iT_X12 11 (by decide) fl_X12_112 0 rfl rfl dX12_readChance_39 ?_
            obtain ⟨h6, hb2⟩ := ck_some hb2
            refine m_iast X hK hP hD hS 2 rfl (by decide) h6 [(a_t, .inr (12, [.ref a_t_now, .ref a_t_read, .ref a_t_past, .int (z4 t_deeds), .ref a_t_images, .ref a_t_isKept, .ref a_t_text, .int (z4 t_letters), .int (z4 o4.2.1), .int (z4 o4.2.2.1), .int (z4 o4.2.2.2.1), .int (z4 o4.2.2.2.2), .int (z4 t_items), .int (z4 t_isChanceTold), .int (z4 t_areSumsTold), .ref a_t_metAt, .ref a_t_memoryAt, .ref a_t_upAt, .ref a_t_downAt, .ref a_t_isSignal, .ref a_t_memories, .ref a_t_placeOf, .ref a_t_nextPlace, .int (z4 t_places), .ref a_t_kindOf, .ref a_t_newKind, .int (z4 t_kinds), .ref a_t_stateOfKind, .ref a_t_stateAt, .ref a_t_stepTo, .int (z4 t_states), .ref a_t_far, .ref a_t_ways, .ref a_t_nextWays, .ref a_t_table])), (a_t_text, .inl (E 0, 120, .inl (A4 t_text))), (a_t_read, .inl (E 0, 98, .inl (A4 (up_ t_read_l13 (10 + v13_2).toNat o4.2.2.2.2))))] rfl dX12_readChance_42 (fun H locs hP hD hS => ?_)
            refine lv_iload_n hx hb dX12_readChance_43 rfl (lv_at hl 1 rfl) ?_
            refine lv_aload_n hx hb dX12_readChance_44 rfl (lv_at hl 0 rfl) ?_
            refine m_get X hK hP cl_X12 iT_X12 11 (by decide) fl_X12_112 0 rfl rfl dX12_readChance_45 ?_
            refine m_iadd X dX12_readChance_48 ?_
            refine lv_istore_n (lv' := [(1, .int (z4 (v13_1 + o4.2.2.2.2))), (0, .ref a_t), (2, .int (z4 v13_2))]) hx hb dX12_readChance_49 rfl hl (by decide) rfl (fun ls hl => ?_)
            refine m_iinc X 2 [(2, .int (z4 (v13_2 + 1))), (1, .int (z4 (v13_1 + o4.2.2.2.2))), (0, .ref a_t)] dX12_readChance_50 hl rfl (by decide) rfl (fun ls hl => ?_)
            refine lv_goto (tgt := 13) hx hb dX12_readChance_53 (by decide) ?_
            obtain rfl := Option.some.inj hb2
            exact ih2 _ _ _ _ _ _ _ _ _ _ (lv_sub hl [2, 1, 0] rfl) hP hD hS hq2
          · rw [if_pos hc_] at hb2
            obtain rfl := Option.some.inj hb2
            exact E2_1 _ (Option.some.inj hq2).symm _ _ _ (lv_sub hl [] rfl) hP hD hS
    exact L2 n _ _ _ _ _ _ _ _ _ _ (lv_sub hl [2, 1, 0] rfl) hP hD hS hj2
  · rw [if_neg hc_] at hf
    refine m_iconst X dX12_readChance_7 ?_
    obtain rfl := Option.some.inj hf
    exact ret _ _ _ _ (Or.inl rfl) hP hD hS dX12_readChance_8
def F_X12_readSums (n : Nat)  (t_letters : Int) (t_at : Int) (t_tokenAt : Int) (t_tokenSort : Int) (t_tokenValue : Int) (t_areSumsTold : Int) (t_text : Nat → Int) (t_read : Nat → Int)  : Option (Int × Int × Int × Int × Int × Int × (Nat → Int)) :=
  ck (r4 t_areSumsTold) <|
  if t_areSumsTold = 0 then
    (F_X12_scanNumber n t_letters t_at t_tokenValue t_text 0 2).bind fun o2 =>
    ck (r4 o2.1) <|
    if o2.1 = 0 then
      some (0, o2.2.1, o2.2.2.1, o2.2.2.2.1, o2.2.2.2.2, t_areSumsTold, t_read)
    else
      (F_X12_scanNumber n t_letters o2.2.1 o2.2.2.2.2 t_text 1 9).bind fun o4 =>
      ck (r4 o4.1) <|
      if o4.1 = 0 then
        some (0, o4.2.1, o4.2.2.1, o4.2.2.2.1, o4.2.2.2.2, t_areSumsTold, up_ t_read 15 o2.2.2.2.2)
      else
        some (1, o4.2.1, o4.2.2.1, o4.2.2.2.1, o4.2.2.2.2, 1, up_ (up_ t_read 15 o2.2.2.2.2) 16 o4.2.2.2.2)
  else
    some (0, t_at, t_tokenAt, t_tokenSort, t_tokenValue, t_areSumsTold, t_read)
def rm_X12_readSums : Room := { frames := 4, cells := 0, slots := 0, locals := 89 }
set_option maxHeartbeats 4000000 in
set_option maxRecDepth 100000 in
theorem k_X12_readSums {l : Launch} {D : va_G} {E : Nat → ClassId} (n : Nat) (a_t a_t_now a_t_read a_t_past a_t_images a_t_isKept a_t_text a_t_metAt a_t_memoryAt a_t_upAt a_t_downAt a_t_isSignal a_t_memories a_t_placeOf a_t_nextPlace a_t_kindOf a_t_newKind a_t_stateOfKind a_t_stateAt a_t_stepTo a_t_far a_t_ways a_t_nextWays a_t_table : Nat) (t_deeds : Int) (t_letters : Int) (t_at : Int) (t_tokenAt : Int) (t_tokenSort : Int) (t_tokenValue : Int) (t_items : Int) (t_isChanceTold : Int) (t_areSumsTold : Int) (t_places : Int) (t_kinds : Int) (t_states : Int) (t_text : Nat → Int) (t_read : Nat → Int) (res : Int × Int × Int × Int × Int × Int × (Nat → Int)) (hf : F_X12_readSums n t_letters t_at t_tokenAt t_tokenSort t_tokenValue t_areSumsTold t_text t_read = some res) : MW l yX12_readSums (.code yX12_readSums cX12_readSums 1 (some .boolean)) rm_X12_readSums D E [.ref a_t] [(a_t, .inr (12, [.ref a_t_now, .ref a_t_read, .ref a_t_past, .int (z4 t_deeds), .ref a_t_images, .ref a_t_isKept, .ref a_t_text, .int (z4 t_letters), .int (z4 t_at), .int (z4 t_tokenAt), .int (z4 t_tokenSort), .int (z4 t_tokenValue), .int (z4 t_items), .int (z4 t_isChanceTold), .int (z4 t_areSumsTold), .ref a_t_metAt, .ref a_t_memoryAt, .ref a_t_upAt, .ref a_t_downAt, .ref a_t_isSignal, .ref a_t_memories, .ref a_t_placeOf, .ref a_t_nextPlace, .int (z4 t_places), .ref a_t_kindOf, .ref a_t_newKind, .int (z4 t_kinds), .ref a_t_stateOfKind, .ref a_t_stateAt, .ref a_t_stepTo, .int (z4 t_states), .ref a_t_far, .ref a_t_ways, .ref a_t_nextWays, .ref a_t_table])), (a_t_text, .inl (E 0, 120, .inl (A4 t_text))), (a_t_read, .inl (E 0, 98, .inl (A4 t_read)))] (some (.int (z4 res.1))) [(a_t, .inr (12, [.ref a_t_now, .ref a_t_read, .ref a_t_past, .int (z4 t_deeds), .ref a_t_images, .ref a_t_isKept, .ref a_t_text, .int (z4 t_letters), .int (z4 res.2.1), .int (z4 res.2.2.1), .int (z4 res.2.2.2.1), .int (z4 res.2.2.2.2.1), .int (z4 t_items), .int (z4 t_isChanceTold), .int (z4 res.2.2.2.2.2.1), .ref a_t_metAt, .ref a_t_memoryAt, .ref a_t_upAt, .ref a_t_downAt, .ref a_t_isSignal, .ref a_t_memories, .ref a_t_placeOf, .ref a_t_nextPlace, .int (z4 t_places), .ref a_t_kindOf, .ref a_t_newKind, .int (z4 t_kinds), .ref a_t_stateOfKind, .ref a_t_stateAt, .ref a_t_stepTo, .int (z4 t_states), .ref a_t_far, .ref a_t_ways, .ref a_t_nextWays, .ref a_t_table])), (a_t_text, .inl (E 0, 120, .inl (A4 t_text))), (a_t_read, .inl (E 0, 98, .inl (A4 res.2.2.2.2.2.2)))] := by
  refine MWz (by decide) (Nat.le_of_ble_eq_true rfl) ?_
  intro p e s m args below meth c A Q X hK hP hD hA ret ls hl
  have hS : va_S A s.heap s.heap [] := va_S.rf
  have hx := X.1
  have hb := X.2.1
  have hl : lv_has ls 1 [(0, .ref a_t)] := hl
  unfold F_X12_readSums at hf
  refine lv_aload_n hx hb dX12_readSums_0 rfl (lv_at hl 0 rfl) ?_
  refine m_get X hK hP cl_X12 iT_X12 14 (by decide) fl_X12_137 0 rfl rfl dX12_readSums_1 ?_
  obtain ⟨h1, hf⟩ := ck_some hf
  refine m_if_ne X h1 dX12_readSums_4 (tgt := 16) (by decide) (fun (hc_ : ¬ (t_areSumsTold = 0)) => ?_) (fun (hc_ : t_areSumsTold = 0) => ?_)
  · rw [if_neg hc_] at hf
    refine m_iconst X dX12_readSums_16 ?_
    obtain rfl := Option.some.inj hf
    exact ret _ _ _ _ (Or.inl rfl) hP hD hS dX12_readSums_17
  · rw [if_pos hc_] at hf
    refine lv_aload_n hx hb dX12_readSums_7 rfl (lv_at hl 0 rfl) ?_
    refine m_iconst X dX12_readSums_8 ?_
    refine m_iconst X dX12_readSums_9 ?_
    obtain ⟨o2, ho, hf⟩ := bd_some hf
    refine m_cVW X hK hP hD hS hA (wr := [(a_t_read, .inl (E 0, 98, .inl (A4 t_read)))]) (k_X12_scanNumber n a_t a_t_now a_t_read a_t_past a_t_images a_t_isKept a_t_text a_t_metAt a_t_memoryAt a_t_upAt a_t_downAt a_t_isSignal a_t_memories a_t_placeOf a_t_nextPlace a_t_kindOf a_t_newKind a_t_stateOfKind a_t_stateAt a_t_stepTo a_t_far a_t_ways a_t_nextWays a_t_table t_deeds t_letters t_at t_tokenAt t_tokenSort t_tokenValue t_items t_isChanceTold t_areSumsTold t_places t_kinds t_states t_text 0 2 o2 ho) [0, 1] [2] [1, 2, 0] [(a_t, .inr (12, [.ref a_t_now, .ref a_t_read, .ref a_t_past, .int (z4 t_deeds), .ref a_t_images, .ref a_t_isKept, .ref a_t_text, .int (z4 t_letters), .int (z4 o2.2.1), .int (z4 o2.2.2.1), .int (z4 o2.2.2.2.1), .int (z4 o2.2.2.2.2), .int (z4 t_items), .int (z4 t_isChanceTold), .int (z4 t_areSumsTold), .ref a_t_metAt, .ref a_t_memoryAt, .ref a_t_upAt, .ref a_t_downAt, .ref a_t_isSignal, .ref a_t_memories, .ref a_t_placeOf, .ref a_t_nextPlace, .int (z4 t_places), .ref a_t_kindOf, .ref a_t_newKind, .int (z4 t_kinds), .ref a_t_stateOfKind, .ref a_t_stateAt, .ref a_t_stepTo, .int (z4 t_states), .ref a_t_far, .ref a_t_ways, .ref a_t_nextWays, .ref a_t_table])), (a_t_text, .inl (E 0, 120, .inl (A4 t_text))), (a_t_read, .inl (E 0, 98, .inl (A4 t_read)))] rfl rfl rfl rfl (by decide) rfl rfl rfl cl_X12 lk_X12_125 co_X12_scanNumber dy_X12_scanNumber rfl rfl ⟨Nat.le_of_ble_eq_true rfl, Nat.le_of_ble_eq_true rfl⟩ hl.1 rfl (Nat.le_of_ble_eq_true rfl) dX12_readSums_10 (Nat.zero_le _) (Nat.zero_le _) (fun H locs hP hD hS => ?_)
    obtain ⟨h3, hf⟩ := ck_some hf
    refine m_if_ne X h3 dX12_readSums_13 (tgt := 18) (by decide) (fun (hc_ : ¬ (o2.1 = 0)) => ?_) (fun (hc_ : o2.1 = 0) => ?_)
    · rw [if_neg hc_] at hf
      refine lv_aload_n hx hb dX12_readSums_18 rfl (lv_at hl 0 rfl) ?_
      refine m_get X hK hP cl_X12 iT_X12 1 (by decide) fl_X12_13 0 rfl rfl dX12_readSums_19 ?_
      refine m_bipush X dX12_readSums_22 (by decide) ?_
      refine lv_aload_n hx hb dX12_readSums_24 rfl (lv_at hl 0 rfl) ?_
      refine m_get X hK hP cl_X12 iT_X12 11 (by decide) fl_X12_112 0 rfl rfl dX12_readSums_25 ?_
      refine m_iast X hK hP hD hS 2 rfl (by decide) (by decide) [(a_t, .inr (12, [.ref a_t_now, .ref a_t_read, .ref a_t_past, .int (z4 t_deeds), .ref a_t_images, .ref a_t_isKept, .ref a_t_text, .int (z4 t_letters), .int (z4 o2.2.1), .int (z4 o2.2.2.1), .int (z4 o2.2.2.2.1), .int (z4 o2.2.2.2.2), .int (z4 t_items), .int (z4 t_isChanceTold), .int (z4 t_areSumsTold), .ref a_t_metAt, .ref a_t_memoryAt, .ref a_t_upAt, .ref a_t_downAt, .ref a_t_isSignal, .ref a_t_memories, .ref a_t_placeOf, .ref a_t_nextPlace, .int (z4 t_places), .ref a_t_kindOf, .ref a_t_newKind, .int (z4 t_kinds), .ref a_t_stateOfKind, .ref a_t_stateAt, .ref a_t_stepTo, .int (z4 t_states), .ref a_t_far, .ref a_t_ways, .ref a_t_nextWays, .ref a_t_table])), (a_t_text, .inl (E 0, 120, .inl (A4 t_text))), (a_t_read, .inl (E 0, 98, .inl (A4 (up_ t_read 15 o2.2.2.2.2))))] rfl dX12_readSums_28 (fun H locs hP hD hS => ?_)
      refine lv_aload_n hx hb dX12_readSums_29 rfl (lv_at hl 0 rfl) ?_
      refine m_iconst X dX12_readSums_30 ?_
      refine m_bipush X dX12_readSums_31 (by decide) ?_
      obtain ⟨o4, ho, hf⟩ := bd_some hf
      refine m_cVW X hK hP hD hS hA (wr := [(a_t_read, .inl (E 0, 98, .inl (A4 (up_ t_read 15 o2.2.2.2.2))))]) (k_X12_scanNumber n a_t a_t_now a_t_read a_t_past a_t_images a_t_isKept a_t_text a_t_metAt a_t_memoryAt a_t_upAt a_t_downAt a_t_isSignal a_t_memories a_t_placeOf a_t_nextPlace a_t_kindOf a_t_newKind a_t_stateOfKind a_t_stateAt a_t_stepTo a_t_far a_t_ways a_t_nextWays a_t_table t_deeds t_letters o2.2.1 o2.2.2.1 o2.2.2.2.1 o2.2.2.2.2 t_items t_isChanceTold t_areSumsTold t_places t_kinds t_states t_text 1 9 o4 ho) [0, 1] [2] [1, 2, 0] [(a_t, .inr (12, [.ref a_t_now, .ref a_t_read, .ref a_t_past, .int (z4 t_deeds), .ref a_t_images, .ref a_t_isKept, .ref a_t_text, .int (z4 t_letters), .int (z4 o4.2.1), .int (z4 o4.2.2.1), .int (z4 o4.2.2.2.1), .int (z4 o4.2.2.2.2), .int (z4 t_items), .int (z4 t_isChanceTold), .int (z4 t_areSumsTold), .ref a_t_metAt, .ref a_t_memoryAt, .ref a_t_upAt, .ref a_t_downAt, .ref a_t_isSignal, .ref a_t_memories, .ref a_t_placeOf, .ref a_t_nextPlace, .int (z4 t_places), .ref a_t_kindOf, .ref a_t_newKind, .int (z4 t_kinds), .ref a_t_stateOfKind, .ref a_t_stateAt, .ref a_t_stepTo, .int (z4 t_states), .ref a_t_far, .ref a_t_ways, .ref a_t_nextWays, .ref a_t_table])), (a_t_text, .inl (E 0, 120, .inl (A4 t_text))), (a_t_read, .inl (E 0, 98, .inl (A4 (up_ t_read 15 o2.2.2.2.2))))] rfl rfl rfl rfl (by decide) rfl rfl rfl cl_X12 lk_X12_125 co_X12_scanNumber dy_X12_scanNumber rfl rfl ⟨Nat.le_of_ble_eq_true rfl, Nat.le_of_ble_eq_true rfl⟩ hl.1 rfl (Nat.le_of_ble_eq_true rfl) dX12_readSums_33 (Nat.zero_le _) (Nat.zero_le _) (fun H locs hP hD hS => ?_)
      obtain ⟨h5, hf⟩ := ck_some hf
      refine m_if_ne X h5 dX12_readSums_36 (tgt := 41) (by decide) (fun (hc_ : ¬ (o4.1 = 0)) => ?_) (fun (hc_ : o4.1 = 0) => ?_)
      · rw [if_neg hc_] at hf
        refine lv_aload_n hx hb dX12_readSums_41 rfl (lv_at hl 0 rfl) ?_
        refine m_get X hK hP cl_X12 iT_X12 1 (by decide) fl_X12_13 0 rfl rfl dX12_readSums_42 ?_
        refine m_bipush X dX12_readSums_45 (by decide) ?_
        refine lv_aload_n hx hb dX12_readSums_47 rfl (lv_at hl 0 rfl) ?_
        refine m_get X hK hP cl_X12 iT_X12 11 (by decide) fl_X12_112 0 rfl rfl dX12_readSums_48 ?_
        refine m_iast X hK hP hD hS 2 rfl (by decide) (by decide) [(a_t, .inr (12, [.ref a_t_now, .ref a_t_read, .ref a_t_past, .int (z4 t_deeds), .ref a_t_images, .ref a_t_isKept, .ref a_t_text, .int (z4 t_letters), .int (z4 o4.2.1), .int (z4 o4.2.2.1), .int (z4 o4.2.2.2.1), .int (z4 o4.2.2.2.2), .int (z4 t_items), .int (z4 t_isChanceTold), .int (z4 t_areSumsTold), .ref a_t_metAt, .ref a_t_memoryAt, .ref a_t_upAt, .ref a_t_downAt, .ref a_t_isSignal, .ref a_t_memories, .ref a_t_placeOf, .ref a_t_nextPlace, .int (z4 t_places), .ref a_t_kindOf, .ref a_t_newKind, .int (z4 t_kinds), .ref a_t_stateOfKind, .ref a_t_stateAt, .ref a_t_stepTo, .int (z4 t_states), .ref a_t_far, .ref a_t_ways, .ref a_t_nextWays, .ref a_t_table])), (a_t_text, .inl (E 0, 120, .inl (A4 t_text))), (a_t_read, .inl (E 0, 98, .inl (A4 (up_ (up_ t_read 15 o2.2.2.2.2) 16 o4.2.2.2.2))))] rfl dX12_readSums_51 (fun H locs hP hD hS => ?_)
        refine lv_aload_n hx hb dX12_readSums_52 rfl (lv_at hl 0 rfl) ?_
        refine m_iconst X dX12_readSums_53 ?_
        refine m_put X hK hP hD hS cl_X12 iT_X12 tyX12 tyX12_ok nmX12 14 (by decide) fl_X12_137 rfl 0 rfl rfl rfl (Nat.le_of_ble_eq_true rfl) [(a_t, .inr (12, [.ref a_t_now, .ref a_t_read, .ref a_t_past, .int (z4 t_deeds), .ref a_t_images, .ref a_t_isKept, .ref a_t_text, .int (z4 t_letters), .int (z4 o4.2.1), .int (z4 o4.2.2.1), .int (z4 o4.2.2.2.1), .int (z4 o4.2.2.2.2), .int (z4 t_items), .int (z4 t_isChanceTold), .int (z4 1), .ref a_t_metAt, .ref a_t_memoryAt, .ref a_t_upAt, .ref a_t_downAt, .ref a_t_isSignal, .ref a_t_memories, .ref a_t_placeOf, .ref a_t_nextPlace, .int (z4 t_places), .ref a_t_kindOf, .ref a_t_newKind, .int (z4 t_kinds), .ref a_t_stateOfKind, .ref a_t_stateAt, .ref a_t_stepTo, .int (z4 t_states), .ref a_t_far, .ref a_t_ways, .ref a_t_nextWays, .ref a_t_table])), (a_t_text, .inl (E 0, 120, .inl (A4 t_text))), (a_t_read, .inl (E 0, 98, .inl (A4 (up_ (up_ t_read 15 o2.2.2.2.2) 16 o4.2.2.2.2))))] rfl dX12_readSums_54 (fun H locs hP hD hS => ?_)
        refine m_iconst X dX12_readSums_57 ?_
        obtain rfl := Option.some.inj hf
        exact ret _ _ _ _ (Or.inr rfl) hP hD hS dX12_readSums_58
      · rw [if_pos hc_] at hf
        refine m_iconst X dX12_readSums_39 ?_
        obtain rfl := Option.some.inj hf
        exact ret _ _ _ _ (Or.inl rfl) hP hD hS dX12_readSums_40
    · rw [if_pos hc_] at hf
      refine m_iconst X dX12_readSums_16 ?_
      obtain rfl := Option.some.inj hf
      exact ret _ _ _ _ (Or.inl rfl) hP hD hS dX12_readSums_17
def F_X12_readItem (n : Nat)  (t_letters : Int) (t_at : Int) (t_tokenAt : Int) (t_tokenSort : Int) (t_tokenValue : Int) (t_items : Int) (t_isChanceTold : Int) (t_areSumsTold : Int) (t_text : Nat → Int) (t_read : Nat → Int)  : Option (Int × Int × Int × Int × Int × Int × Int × Int × (Nat → Int)) :=
  Option.bind (α := Int × Int × Int × Int × Int × Int × Int × (Nat → Int)) (
    ck (r4 t_tokenSort) <|
    if t_tokenSort = 4 then
      (F_X12_readRule n t_letters t_at t_tokenAt t_tokenSort t_tokenValue t_read t_text).bind fun o8 =>
      some (o8.1, o8.2.1, o8.2.2.1, o8.2.2.2.1, o8.2.2.2.2.1, t_isChanceTold, t_areSumsTold, o8.2.2.2.2.2)
    else
      ck (r4 t_tokenSort) <|
      if t_tokenSort = 5 then
        (F_X12_readChance n t_letters t_at t_tokenAt t_tokenSort t_tokenValue t_isChanceTold t_text t_read).bind fun o7 =>
        some (o7.1, o7.2.1, o7.2.2.1, o7.2.2.2.1, o7.2.2.2.2.1, o7.2.2.2.2.2.1, t_areSumsTold, o7.2.2.2.2.2.2)
      else
        ck (r4 t_tokenSort) <|
        if t_tokenSort = 6 then
          (F_X12_readSums n t_letters t_at t_tokenAt t_tokenSort t_tokenValue t_areSumsTold t_text t_read).bind fun o5 =>
          ck (r4 o5.1) <|
          if o5.1 = 0 then
            some (0, o5.2.1, o5.2.2.1, o5.2.2.2.1, o5.2.2.2.2.1, t_isChanceTold, o5.2.2.2.2.2.1, o5.2.2.2.2.2.2)
          else
            some (1, o5.2.1, o5.2.2.1, o5.2.2.2.1, o5.2.2.2.2.1, t_isChanceTold, o5.2.2.2.2.2.1, o5.2.2.2.2.2.2)
        else
          some (0, t_at, t_tokenAt, t_tokenSort, t_tokenValue, t_isChanceTold, t_areSumsTold, t_read)) fun o1 =>
  ck (r4 o1.1) <|
  if o1.1 = 0 then
    some (0, o1.2.1, o1.2.2.1, o1.2.2.2.1, o1.2.2.2.2.1, t_items, o1.2.2.2.2.2.1, o1.2.2.2.2.2.2.1, o1.2.2.2.2.2.2.2)
  else
    (F_X12_scan n t_letters o1.2.1 o1.2.2.2.2.1 t_text).bind fun o10 =>
    Option.bind (α := Int) (
      ck (r4 o10.2.2.1) <|
      if o10.2.2.1 = 59 then
        some 1
      else
        some 0) fun o11 =>
    ck (o11 = 0 ∨ o11 = 1) <|
    some (o11, o10.1, o10.2.1, o10.2.2.1, o10.2.2.2, t_items + 1, o1.2.2.2.2.2.1, o1.2.2.2.2.2.2.1, o1.2.2.2.2.2.2.2)
def rm_X12_readItem : Room := { frames := 5, cells := 0, slots := 0, locals := 113 }
set_option maxHeartbeats 4000000 in
set_option maxRecDepth 100000 in
theorem k_X12_readItem {l : Launch} {D : va_G} {E : Nat → ClassId} (n : Nat) (a_t a_t_now a_t_read a_t_past a_t_images a_t_isKept a_t_text a_t_metAt a_t_memoryAt a_t_upAt a_t_downAt a_t_isSignal a_t_memories a_t_placeOf a_t_nextPlace a_t_kindOf a_t_newKind a_t_stateOfKind a_t_stateAt a_t_stepTo a_t_far a_t_ways a_t_nextWays a_t_table : Nat) (t_deeds : Int) (t_letters : Int) (t_at : Int) (t_tokenAt : Int) (t_tokenSort : Int) (t_tokenValue : Int) (t_items : Int) (t_isChanceTold : Int) (t_areSumsTold : Int) (t_places : Int) (t_kinds : Int) (t_states : Int) (t_text : Nat → Int) (t_read : Nat → Int) (res : Int × Int × Int × Int × Int × Int × Int × Int × (Nat → Int)) (hf : F_X12_readItem n t_letters t_at t_tokenAt t_tokenSort t_tokenValue t_items t_isChanceTold t_areSumsTold t_text t_read = some res) : MW l yX12_readItem (.code yX12_readItem cX12_readItem 2 (some .boolean)) rm_X12_readItem D E [.ref a_t] [(a_t, .inr (12, [.ref a_t_now, .ref a_t_read, .ref a_t_past, .int (z4 t_deeds), .ref a_t_images, .ref a_t_isKept, .ref a_t_text, .int (z4 t_letters), .int (z4 t_at), .int (z4 t_tokenAt), .int (z4 t_tokenSort), .int (z4 t_tokenValue), .int (z4 t_items), .int (z4 t_isChanceTold), .int (z4 t_areSumsTold), .ref a_t_metAt, .ref a_t_memoryAt, .ref a_t_upAt, .ref a_t_downAt, .ref a_t_isSignal, .ref a_t_memories, .ref a_t_placeOf, .ref a_t_nextPlace, .int (z4 t_places), .ref a_t_kindOf, .ref a_t_newKind, .int (z4 t_kinds), .ref a_t_stateOfKind, .ref a_t_stateAt, .ref a_t_stepTo, .int (z4 t_states), .ref a_t_far, .ref a_t_ways, .ref a_t_nextWays, .ref a_t_table])), (a_t_text, .inl (E 0, 120, .inl (A4 t_text))), (a_t_read, .inl (E 0, 98, .inl (A4 t_read)))] (some (.int (z4 res.1))) [(a_t, .inr (12, [.ref a_t_now, .ref a_t_read, .ref a_t_past, .int (z4 t_deeds), .ref a_t_images, .ref a_t_isKept, .ref a_t_text, .int (z4 t_letters), .int (z4 res.2.1), .int (z4 res.2.2.1), .int (z4 res.2.2.2.1), .int (z4 res.2.2.2.2.1), .int (z4 res.2.2.2.2.2.1), .int (z4 res.2.2.2.2.2.2.1), .int (z4 res.2.2.2.2.2.2.2.1), .ref a_t_metAt, .ref a_t_memoryAt, .ref a_t_upAt, .ref a_t_downAt, .ref a_t_isSignal, .ref a_t_memories, .ref a_t_placeOf, .ref a_t_nextPlace, .int (z4 t_places), .ref a_t_kindOf, .ref a_t_newKind, .int (z4 t_kinds), .ref a_t_stateOfKind, .ref a_t_stateAt, .ref a_t_stepTo, .int (z4 t_states), .ref a_t_far, .ref a_t_ways, .ref a_t_nextWays, .ref a_t_table])), (a_t_text, .inl (E 0, 120, .inl (A4 t_text))), (a_t_read, .inl (E 0, 98, .inl (A4 res.2.2.2.2.2.2.2.2)))] := by
  refine MWz (by decide) (Nat.le_of_ble_eq_true rfl) ?_
  intro p e s m args below meth c A Q X hK hP hD hA ret ls hl
  have hS : va_S A s.heap s.heap [] := va_S.rf
  have hx := X.1
  have hb := X.2.1
  have hl : lv_has ls 2 [(0, .ref a_t)] := hl
  unfold F_X12_readItem at hf
  refine lv_aload_n hx hb dX12_readItem_0 rfl (lv_at hl 0 rfl) ?_
  refine m_get X hK hP cl_X12 iT_X12 10 (by decide) fl_X12_105 0 rfl rfl dX12_readItem_1 ?_
  refine m_iconst X dX12_readItem_4 ?_
  obtain ⟨o1, hj1, hr1⟩ := bd_some hf
  have J1 : ∀ (o_ : Int × Int × Int × Int × Int × Int × Int × (Nat → Int)), o1 = o_ → ∀ (H : Heap) (locs : List Loc) (ls : Array Slot), lv_has ls 2 [(0, .ref a_t)] → va_P D vwCl [(a_t, .inr (12, [.ref a_t_now, .ref a_t_read, .ref a_t_past, .int (z4 t_deeds), .ref a_t_images, .ref a_t_isKept, .ref a_t_text, .int (z4 t_letters), .int (z4 o_.2.1), .int (z4 o_.2.2.1), .int (z4 o_.2.2.2.1), .int (z4 o_.2.2.2.2.1), .int (z4 t_items), .int (z4 o_.2.2.2.2.2.1), .int (z4 o_.2.2.2.2.2.2.1), .ref a_t_metAt, .ref a_t_memoryAt, .ref a_t_upAt, .ref a_t_downAt, .ref a_t_isSignal, .ref a_t_memories, .ref a_t_placeOf, .ref a_t_nextPlace, .int (z4 t_places), .ref a_t_kindOf, .ref a_t_newKind, .int (z4 t_kinds), .ref a_t_stateOfKind, .ref a_t_stateAt, .ref a_t_stepTo, .int (z4 t_states), .ref a_t_far, .ref a_t_ways, .ref a_t_nextWays, .ref a_t_table])), (a_t_text, .inl (E 0, 120, .inl (A4 t_text))), (a_t_read, .inl (E 0, 98, .inl (A4 o_.2.2.2.2.2.2.2)))] H → va_D A [(a_t, .inr (12, [.ref a_t_now, .ref a_t_read, .ref a_t_past, .int (z4 t_deeds), .ref a_t_images, .ref a_t_isKept, .ref a_t_text, .int (z4 t_letters), .int (z4 o_.2.1), .int (z4 o_.2.2.1), .int (z4 o_.2.2.2.1), .int (z4 o_.2.2.2.2.1), .int (z4 t_items), .int (z4 o_.2.2.2.2.2.1), .int (z4 o_.2.2.2.2.2.2.1), .ref a_t_metAt, .ref a_t_memoryAt, .ref a_t_upAt, .ref a_t_downAt, .ref a_t_isSignal, .ref a_t_memories, .ref a_t_placeOf, .ref a_t_nextPlace, .int (z4 t_places), .ref a_t_kindOf, .ref a_t_newKind, .int (z4 t_kinds), .ref a_t_stateOfKind, .ref a_t_stateAt, .ref a_t_stepTo, .int (z4 t_states), .ref a_t_far, .ref a_t_ways, .ref a_t_nextWays, .ref a_t_table])), (a_t_text, .inl (E 0, 120, .inl (A4 t_text))), (a_t_read, .inl (E 0, 98, .inl (A4 o_.2.2.2.2.2.2.2)))] → va_S A s.heap H locs → W p l e rm_X12_readItem s m args below meth c H locs 0 0 Q (F0 m 51 ls [.int (z4 o_.1)]) := by
    intro o_ ho_ H locs ls hl hP hD hS
    subst ho_
    refine lv_istore_n (lv' := [(1, .int (z4 o1.1)), (0, .ref a_t)]) hx hb dX12_readItem_51 rfl hl (by decide) rfl (fun ls hl => ?_)
    refine lv_iload_n hx hb dX12_readItem_52 rfl (lv_at hl 0 rfl) ?_
    obtain ⟨h9, hr1⟩ := ck_some hr1
    refine m_if_ne X h9 dX12_readItem_53 (tgt := 58) (by decide) (fun (hc_ : ¬ (o1.1 = 0)) => ?_) (fun (hc_ : o1.1 = 0) => ?_)
    · rw [if_neg hc_] at hr1
      refine lv_aload_n hx hb dX12_readItem_58 rfl (lv_at hl 1 rfl) ?_
      obtain ⟨o10, ho, hr1⟩ := bd_some hr1
      refine m_cVW X hK hP hD hS hA (wr := [(a_t_read, .inl (E 0, 98, .inl (A4 o1.2.2.2.2.2.2.2)))]) (k_X12_scan n a_t a_t_now a_t_read a_t_past a_t_images a_t_isKept a_t_text a_t_metAt a_t_memoryAt a_t_upAt a_t_downAt a_t_isSignal a_t_memories a_t_placeOf a_t_nextPlace a_t_kindOf a_t_newKind a_t_stateOfKind a_t_stateAt a_t_stepTo a_t_far a_t_ways a_t_nextWays a_t_table t_deeds t_letters o1.2.1 o1.2.2.1 o1.2.2.2.1 o1.2.2.2.2.1 t_items o1.2.2.2.2.2.1 o1.2.2.2.2.2.2.1 t_places t_kinds t_states t_text o10 ho) [0, 1] [2] [1, 2, 0] [(a_t, .inr (12, [.ref a_t_now, .ref a_t_read, .ref a_t_past, .int (z4 t_deeds), .ref a_t_images, .ref a_t_isKept, .ref a_t_text, .int (z4 t_letters), .int (z4 o10.1), .int (z4 o10.2.1), .int (z4 o10.2.2.1), .int (z4 o10.2.2.2), .int (z4 t_items), .int (z4 o1.2.2.2.2.2.1), .int (z4 o1.2.2.2.2.2.2.1), .ref a_t_metAt, .ref a_t_memoryAt, .ref a_t_upAt, .ref a_t_downAt, .ref a_t_isSignal, .ref a_t_memories, .ref a_t_placeOf, .ref a_t_nextPlace, .int (z4 t_places), .ref a_t_kindOf, .ref a_t_newKind, .int (z4 t_kinds), .ref a_t_stateOfKind, .ref a_t_stateAt, .ref a_t_stepTo, .int (z4 t_states), .ref a_t_far, .ref a_t_ways, .ref a_t_nextWays, .ref a_t_table])), (a_t_text, .inl (E 0, 120, .inl (A4 t_text))), (a_t_read, .inl (E 0, 98, .inl (A4 o1.2.2.2.2.2.2.2)))] rfl rfl rfl rfl (by decide) rfl rfl rfl cl_X12 lk_X12_122 co_X12_scan dy_X12_scan rfl rfl ⟨Nat.le_of_ble_eq_true rfl, Nat.le_of_ble_eq_true rfl⟩ hl.1 rfl (Nat.le_of_ble_eq_true rfl) dX12_readItem_59 (Nat.zero_le _) (Nat.zero_le _) (fun H locs hP hD hS => ?_)
      refine lv_aload_n hx hb dX12_readItem_62 rfl (lv_at hl 1 rfl) ?_
      refine lv_dup hx hb dX12_readItem_63 rfl ?_
      refine m_get X hK hP cl_X12 iT_X12 12 (by decide) fl_X12_150 0 rfl rfl dX12_readItem_64 ?_
      refine m_iconst X dX12_readItem_67 ?_
      refine m_iadd X dX12_readItem_68 ?_
      refine m_put X hK hP hD hS cl_X12 iT_X12 tyX12 tyX12_ok nmX12 12 (by decide) fl_X12_150 rfl 0 rfl rfl rfl (Nat.le_of_ble_eq_true rfl) [(a_t, .inr (12, [.ref a_t_now, .ref a_t_read, .ref a_t_past, .int (z4 t_deeds), .ref a_t_images, .ref a_t_isKept, .ref a_t_text, .int (z4 t_letters), .int (z4 o10.1), .int (z4 o10.2.1), .int (z4 o10.2.2.1), .int (z4 o10.2.2.2), .int (z4 (t_items + 1)), .int (z4 o1.2.2.2.2.2.1), .int (z4 o1.2.2.2.2.2.2.1), .ref a_t_metAt, .ref a_t_memoryAt, .ref a_t_upAt, .ref a_t_downAt, .ref a_t_isSignal, .ref a_t_memories, .ref a_t_placeOf, .ref a_t_nextPlace, .int (z4 t_places), .ref a_t_kindOf, .ref a_t_newKind, .int (z4 t_kinds), .ref a_t_stateOfKind, .ref a_t_stateAt, .ref a_t_stepTo, .int (z4 t_states), .ref a_t_far, .ref a_t_ways, .ref a_t_nextWays, .ref a_t_table])), (a_t_text, .inl (E 0, 120, .inl (A4 t_text))), (a_t_read, .inl (E 0, 98, .inl (A4 o1.2.2.2.2.2.2.2)))] rfl dX12_readItem_69 (fun H locs hP hD hS => ?_)
      refine lv_aload_n hx hb dX12_readItem_72 rfl (lv_at hl 1 rfl) ?_
      refine m_get X hK hP cl_X12 iT_X12 10 (by decide) fl_X12_105 0 rfl rfl dX12_readItem_73 ?_
      refine m_bipush X dX12_readItem_76 (by decide) ?_
      obtain ⟨o11, hj11, hr11⟩ := bd_some hr1
      have J11 : ∀ (o_ : Int), o11 = o_ → ∀ (H : Heap) (locs : List Loc) (ls : Array Slot), lv_has ls 2 [] → va_P D vwCl [(a_t, .inr (12, [.ref a_t_now, .ref a_t_read, .ref a_t_past, .int (z4 t_deeds), .ref a_t_images, .ref a_t_isKept, .ref a_t_text, .int (z4 t_letters), .int (z4 o10.1), .int (z4 o10.2.1), .int (z4 o10.2.2.1), .int (z4 o10.2.2.2), .int (z4 (t_items + 1)), .int (z4 o1.2.2.2.2.2.1), .int (z4 o1.2.2.2.2.2.2.1), .ref a_t_metAt, .ref a_t_memoryAt, .ref a_t_upAt, .ref a_t_downAt, .ref a_t_isSignal, .ref a_t_memories, .ref a_t_placeOf, .ref a_t_nextPlace, .int (z4 t_places), .ref a_t_kindOf, .ref a_t_newKind, .int (z4 t_kinds), .ref a_t_stateOfKind, .ref a_t_stateAt, .ref a_t_stepTo, .int (z4 t_states), .ref a_t_far, .ref a_t_ways, .ref a_t_nextWays, .ref a_t_table])), (a_t_text, .inl (E 0, 120, .inl (A4 t_text))), (a_t_read, .inl (E 0, 98, .inl (A4 o1.2.2.2.2.2.2.2)))] H → va_D A [(a_t, .inr (12, [.ref a_t_now, .ref a_t_read, .ref a_t_past, .int (z4 t_deeds), .ref a_t_images, .ref a_t_isKept, .ref a_t_text, .int (z4 t_letters), .int (z4 o10.1), .int (z4 o10.2.1), .int (z4 o10.2.2.1), .int (z4 o10.2.2.2), .int (z4 (t_items + 1)), .int (z4 o1.2.2.2.2.2.1), .int (z4 o1.2.2.2.2.2.2.1), .ref a_t_metAt, .ref a_t_memoryAt, .ref a_t_upAt, .ref a_t_downAt, .ref a_t_isSignal, .ref a_t_memories, .ref a_t_placeOf, .ref a_t_nextPlace, .int (z4 t_places), .ref a_t_kindOf, .ref a_t_newKind, .int (z4 t_kinds), .ref a_t_stateOfKind, .ref a_t_stateAt, .ref a_t_stepTo, .int (z4 t_states), .ref a_t_far, .ref a_t_ways, .ref a_t_nextWays, .ref a_t_table])), (a_t_text, .inl (E 0, 120, .inl (A4 t_text))), (a_t_read, .inl (E 0, 98, .inl (A4 o1.2.2.2.2.2.2.2)))] → va_S A s.heap H locs → W p l e rm_X12_readItem s m args below meth c H locs 0 0 Q (F0 m 86 ls [.int (z4 o_)]) := by
        intro o_ ho_ H locs ls hl hP hD hS
        subst ho_
        obtain ⟨h13, hr11⟩ := ck_some hr11
        obtain rfl := Option.some.inj hr11
        exact ret _ _ _ _ h13 hP hD hS dX12_readItem_86
      obtain ⟨h12, hj11⟩ := ck_some hj11
      refine m_icmp_ne X ⟨h12, ⟨by decide, by decide⟩⟩ dX12_readItem_78 (tgt := 85) (by decide) (fun (hc_ : ¬ (o10.2.2.1 = 59)) => ?_) (fun (hc_ : o10.2.2.1 = 59) => ?_)
      · rw [if_neg hc_] at hj11
        refine m_iconst X dX12_readItem_85 ?_
        exact J11 _ (Option.some.inj hj11).symm _ _ _ (lv_sub hl [] rfl) hP hD hS
      · rw [if_pos hc_] at hj11
        refine m_iconst X dX12_readItem_81 ?_
        refine lv_goto (tgt := 86) hx hb dX12_readItem_82 (by decide) ?_
        exact J11 _ (Option.some.inj hj11).symm _ _ _ (lv_sub hl [] rfl) hP hD hS
    · rw [if_pos hc_] at hr1
      refine m_iconst X dX12_readItem_56 ?_
      obtain rfl := Option.some.inj hr1
      exact ret _ _ _ _ (Or.inl rfl) hP hD hS dX12_readItem_57
  obtain ⟨h2, hj1⟩ := ck_some hj1
  refine m_icmp_ne X ⟨h2, ⟨by decide, by decide⟩⟩ dX12_readItem_5 (tgt := 15) (by decide) (fun (hc_ : ¬ (t_tokenSort = 4)) => ?_) (fun (hc_ : t_tokenSort = 4) => ?_)
  · rw [if_neg hc_] at hj1
    refine lv_aload_n hx hb dX12_readItem_15 rfl (lv_at hl 0 rfl) ?_
    refine m_get X hK hP cl_X12 iT_X12 10 (by decide) fl_X12_105 0 rfl rfl dX12_readItem_16 ?_
    refine m_iconst X dX12_readItem_19 ?_
    obtain ⟨h3, hj1⟩ := ck_some hj1
    refine m_icmp_ne X ⟨h3, ⟨by decide, by decide⟩⟩ dX12_readItem_20 (tgt := 30) (by decide) (fun (hc_ : ¬ (t_tokenSort = 5)) => ?_) (fun (hc_ : t_tokenSort = 5) => ?_)
    · rw [if_neg hc_] at hj1
      refine lv_aload_n hx hb dX12_readItem_30 rfl (lv_at hl 0 rfl) ?_
      refine m_get X hK hP cl_X12 iT_X12 10 (by decide) fl_X12_105 0 rfl rfl dX12_readItem_31 ?_
      refine m_bipush X dX12_readItem_34 (by decide) ?_
      obtain ⟨h4, hj1⟩ := ck_some hj1
      refine m_icmp_ne X ⟨h4, ⟨by decide, by decide⟩⟩ dX12_readItem_36 (tgt := 50) (by decide) (fun (hc_ : ¬ (t_tokenSort = 6)) => ?_) (fun (hc_ : t_tokenSort = 6) => ?_)
      · rw [if_neg hc_] at hj1
        refine m_iconst X dX12_readItem_50 ?_
        exact J1 _ (Option.some.inj hj1).symm _ _ _ (lv_sub hl [0] rfl) hP hD hS
      · rw [if_pos hc_] at hj1
        refine lv_aload_n hx hb dX12_readItem_39 rfl (lv_at hl 0 rfl) ?_
        obtain ⟨o5, ho, hj1⟩ := bd_some hj1
        refine m_cVW X hK hP hD hS hA (wr := []) (k_X12_readSums n a_t a_t_now a_t_read a_t_past a_t_images a_t_isKept a_t_text a_t_metAt a_t_memoryAt a_t_upAt a_t_downAt a_t_isSignal a_t_memories a_t_placeOf a_t_nextPlace a_t_kindOf a_t_newKind a_t_stateOfKind a_t_stateAt a_t_stepTo a_t_far a_t_ways a_t_nextWays a_t_table t_deeds t_letters t_at t_tokenAt t_tokenSort t_tokenValue t_items t_isChanceTold t_areSumsTold t_places t_kinds t_states t_text t_read o5 ho) [0, 1, 2] [] [0, 1, 2] [(a_t, .inr (12, [.ref a_t_now, .ref a_t_read, .ref a_t_past, .int (z4 t_deeds), .ref a_t_images, .ref a_t_isKept, .ref a_t_text, .int (z4 t_letters), .int (z4 o5.2.1), .int (z4 o5.2.2.1), .int (z4 o5.2.2.2.1), .int (z4 o5.2.2.2.2.1), .int (z4 t_items), .int (z4 t_isChanceTold), .int (z4 o5.2.2.2.2.2.1), .ref a_t_metAt, .ref a_t_memoryAt, .ref a_t_upAt, .ref a_t_downAt, .ref a_t_isSignal, .ref a_t_memories, .ref a_t_placeOf, .ref a_t_nextPlace, .int (z4 t_places), .ref a_t_kindOf, .ref a_t_newKind, .int (z4 t_kinds), .ref a_t_stateOfKind, .ref a_t_stateAt, .ref a_t_stepTo, .int (z4 t_states), .ref a_t_far, .ref a_t_ways, .ref a_t_nextWays, .ref a_t_table])), (a_t_text, .inl (E 0, 120, .inl (A4 t_text))), (a_t_read, .inl (E 0, 98, .inl (A4 o5.2.2.2.2.2.2)))] rfl rfl rfl rfl (by decide) rfl rfl rfl cl_X12 lk_X12_147 co_X12_readSums dy_X12_readSums rfl rfl ⟨Nat.le_of_ble_eq_true rfl, Nat.le_of_ble_eq_true rfl⟩ hl.1 rfl (Nat.le_of_ble_eq_true rfl) dX12_readItem_40 (Nat.zero_le _) (Nat.zero_le _) (fun H locs hP hD hS => ?_)
        obtain ⟨h6, hj1⟩ := ck_some hj1
        refine m_if_eq X h6 dX12_readItem_43 (tgt := 50) (by decide) (fun (hc_ : o5.1 = 0) => ?_) (fun (hc_ : ¬ (o5.1 = 0)) => ?_)
        · rw [if_pos hc_] at hj1
          refine m_iconst X dX12_readItem_50 ?_
          exact J1 _ (Option.some.inj hj1).symm _ _ _ (lv_sub hl [0] rfl) hP hD hS
        · rw [if_neg hc_] at hj1
          refine m_iconst X dX12_readItem_46 ?_
          refine lv_goto (tgt := 51) hx hb dX12_readItem_47 (by decide) ?_
          exact J1 _ (Option.some.inj hj1).symm _ _ _ (lv_sub hl [0] rfl) hP hD hS
    · rw [if_pos hc_] at hj1
      refine lv_aload_n hx hb dX12_readItem_23 rfl (lv_at hl 0 rfl) ?_
      obtain ⟨o7, ho, hj1⟩ := bd_some hj1
      refine m_cVW X hK hP hD hS hA (wr := []) (k_X12_readChance n a_t a_t_now a_t_read a_t_past a_t_images a_t_isKept a_t_text a_t_metAt a_t_memoryAt a_t_upAt a_t_downAt a_t_isSignal a_t_memories a_t_placeOf a_t_nextPlace a_t_kindOf a_t_newKind a_t_stateOfKind a_t_stateAt a_t_stepTo a_t_far a_t_ways a_t_nextWays a_t_table t_deeds t_letters t_at t_tokenAt t_tokenSort t_tokenValue t_items t_isChanceTold t_areSumsTold t_places t_kinds t_states t_text t_read o7 ho) [0, 1, 2] [] [0, 1, 2] [(a_t, .inr (12, [.ref a_t_now, .ref a_t_read, .ref a_t_past, .int (z4 t_deeds), .ref a_t_images, .ref a_t_isKept, .ref a_t_text, .int (z4 t_letters), .int (z4 o7.2.1), .int (z4 o7.2.2.1), .int (z4 o7.2.2.2.1), .int (z4 o7.2.2.2.2.1), .int (z4 t_items), .int (z4 o7.2.2.2.2.2.1), .int (z4 t_areSumsTold), .ref a_t_metAt, .ref a_t_memoryAt, .ref a_t_upAt, .ref a_t_downAt, .ref a_t_isSignal, .ref a_t_memories, .ref a_t_placeOf, .ref a_t_nextPlace, .int (z4 t_places), .ref a_t_kindOf, .ref a_t_newKind, .int (z4 t_kinds), .ref a_t_stateOfKind, .ref a_t_stateAt, .ref a_t_stepTo, .int (z4 t_states), .ref a_t_far, .ref a_t_ways, .ref a_t_nextWays, .ref a_t_table])), (a_t_text, .inl (E 0, 120, .inl (A4 t_text))), (a_t_read, .inl (E 0, 98, .inl (A4 o7.2.2.2.2.2.2)))] rfl rfl rfl rfl (by decide) rfl rfl rfl cl_X12 lk_X12_144 co_X12_readChance dy_X12_readChance rfl rfl ⟨Nat.le_of_ble_eq_true rfl, Nat.le_of_ble_eq_true rfl⟩ hl.1 rfl (Nat.le_of_ble_eq_true rfl) dX12_readItem_24 (Nat.zero_le _) (Nat.zero_le _) (fun H locs hP hD hS => ?_)
      refine lv_goto (tgt := 51) hx hb dX12_readItem_27 (by decide) ?_
      exact J1 _ (Option.some.inj hj1).symm _ _ _ (lv_sub hl [0] rfl) hP hD hS
  · rw [if_pos hc_] at hj1
    refine lv_aload_n hx hb dX12_readItem_8 rfl (lv_at hl 0 rfl) ?_
    obtain ⟨o8, ho, hj1⟩ := bd_some hj1
    refine m_cVW X hK hP hD hS hA (wr := []) (k_X12_readRule n a_t a_t_now a_t_read a_t_past a_t_images a_t_isKept a_t_text a_t_metAt a_t_memoryAt a_t_upAt a_t_downAt a_t_isSignal a_t_memories a_t_placeOf a_t_nextPlace a_t_kindOf a_t_newKind a_t_stateOfKind a_t_stateAt a_t_stepTo a_t_far a_t_ways a_t_nextWays a_t_table t_deeds t_letters t_at t_tokenAt t_tokenSort t_tokenValue t_items t_isChanceTold t_areSumsTold t_places t_kinds t_states t_read t_text o8 ho) [0, 2, 1] [] [0, 2, 1] [(a_t, .inr (12, [.ref a_t_now, .ref a_t_read, .ref a_t_past, .int (z4 t_deeds), .ref a_t_images, .ref a_t_isKept, .ref a_t_text, .int (z4 t_letters), .int (z4 o8.2.1), .int (z4 o8.2.2.1), .int (z4 o8.2.2.2.1), .int (z4 o8.2.2.2.2.1), .int (z4 t_items), .int (z4 t_isChanceTold), .int (z4 t_areSumsTold), .ref a_t_metAt, .ref a_t_memoryAt, .ref a_t_upAt, .ref a_t_downAt, .ref a_t_isSignal, .ref a_t_memories, .ref a_t_placeOf, .ref a_t_nextPlace, .int (z4 t_places), .ref a_t_kindOf, .ref a_t_newKind, .int (z4 t_kinds), .ref a_t_stateOfKind, .ref a_t_stateAt, .ref a_t_stepTo, .int (z4 t_states), .ref a_t_far, .ref a_t_ways, .ref a_t_nextWays, .ref a_t_table])), (a_t_text, .inl (E 0, 120, .inl (A4 t_text))), (a_t_read, .inl (E 0, 98, .inl (A4 o8.2.2.2.2.2)))] rfl rfl rfl rfl (by decide) rfl rfl rfl cl_X12 lk_X12_140 co_X12_readRule dy_X12_readRule rfl rfl ⟨Nat.le_of_ble_eq_true rfl, Nat.le_of_ble_eq_true rfl⟩ hl.1 rfl (Nat.le_of_ble_eq_true rfl) dX12_readItem_9 (Nat.zero_le _) (Nat.zero_le _) (fun H locs hP hD hS => ?_)
    refine lv_goto (tgt := 51) hx hb dX12_readItem_12 (by decide) ?_
    exact J1 _ (Option.some.inj hj1).symm _ _ _ (lv_sub hl [0] rfl) hP hD hS
def F_X12_readText_L28 (n : Nat) (t_letters : Int) (t_text : Nat → Int) (t_at_l28 : Int) (t_tokenAt_l28 : Int) (t_tokenSort_l28 : Int) (t_tokenValue_l28 : Int) (t_items_l28 : Int) (t_isChanceTold_l28 : Int) (t_areSumsTold_l28 : Int) (t_read_l28 : Nat → Int) : Option ((Int × Int × Int × Int × Int × Int × Int × (Nat → Int)) ⊕ ((Int × Int × Int × Int × Int × Int × Int × (Nat → Int)) ⊕ (Int × Int × Int × Int × Int × Int × Int × (Nat → Int)))) :=
  ck (r4 t_tokenSort_l28) <|
  if t_tokenSort_l28 = 2 then
    some (.inr (.inl (t_at_l28, t_tokenAt_l28, t_tokenSort_l28, t_tokenValue_l28, t_items_l28, t_isChanceTold_l28, t_areSumsTold_l28, t_read_l28)))
  else
    (F_X12_readItem n t_letters t_at_l28 t_tokenAt_l28 t_tokenSort_l28 t_tokenValue_l28 t_items_l28 t_isChanceTold_l28 t_areSumsTold_l28 t_text t_read_l28).bind fun o5 =>
    ck (r4 o5.1) <|
    if o5.1 = 0 then
      some (.inr (.inr (o5.2.1, o5.2.2.1, o5.2.2.2.1, o5.2.2.2.2.1, o5.2.2.2.2.2.1, o5.2.2.2.2.2.2.1, o5.2.2.2.2.2.2.2.1, o5.2.2.2.2.2.2.2.2)))
    else
      (F_X12_scan n t_letters o5.2.1 o5.2.2.2.2.1 t_text).bind fun o7 =>
      some (.inl (o7.1, o7.2.1, o7.2.2.1, o7.2.2.2, o5.2.2.2.2.2.1, o5.2.2.2.2.2.2.1, o5.2.2.2.2.2.2.2.1, o5.2.2.2.2.2.2.2.2))
def F_X12_readText (n : Nat)  (t_letters : Int) (t_tokenValue : Int) (t_read : Nat → Int) (t_text : Nat → Int)  : Option (Int × Int × Int × Int × Int × Int × Int × Int × (Nat → Int)) :=
  (F_X12_begin n t_read).bind fun o1 =>
  (F_X12_scan n t_letters 0 t_tokenValue t_text).bind fun o2 =>
  (lp_ (fun (q : Int × Int × Int × Int × Int × Int × Int × (Nat → Int)) => F_X12_readText_L28 n t_letters t_text q.1 q.2.1 q.2.2.1 q.2.2.2.1 q.2.2.2.2.1 q.2.2.2.2.2.1 q.2.2.2.2.2.2.1 q.2.2.2.2.2.2.2) n (o2.1, o2.2.1, o2.2.2.1, o2.2.2.2, 0, 0, 0, o1)).bind fun o3 => match o3 with
  | .inl o3_0 =>
    some ((-9), o3_0.1, o3_0.2.1, o3_0.2.2.1, o3_0.2.2.2.1, o3_0.2.2.2.2.1, o3_0.2.2.2.2.2.1, o3_0.2.2.2.2.2.2.1, o3_0.2.2.2.2.2.2.2)
  | .inr o3_1 =>
    some (o3_1.2.1, o3_1.1, o3_1.2.1, o3_1.2.2.1, o3_1.2.2.2.1, o3_1.2.2.2.2.1, o3_1.2.2.2.2.2.1, o3_1.2.2.2.2.2.2.1, o3_1.2.2.2.2.2.2.2)
def rm_X12_readText : Room := { frames := 6, cells := 0, slots := 0, locals := 134 }
set_option maxHeartbeats 4000000 in
set_option maxRecDepth 100000 in
theorem k_X12_readText {l : Launch} {D : va_G} {E : Nat → ClassId} (n : Nat) (a_t a_t_now a_t_read a_t_past a_t_images a_t_isKept a_t_text a_t_metAt a_t_memoryAt a_t_upAt a_t_downAt a_t_isSignal a_t_memories a_t_placeOf a_t_nextPlace a_t_kindOf a_t_newKind a_t_stateOfKind a_t_stateAt a_t_stepTo a_t_far a_t_ways a_t_nextWays a_t_table : Nat) (t_deeds : Int) (t_letters : Int) (t_at : Int) (t_tokenAt : Int) (t_tokenSort : Int) (t_tokenValue : Int) (t_items : Int) (t_isChanceTold : Int) (t_areSumsTold : Int) (t_places : Int) (t_kinds : Int) (t_states : Int) (t_read : Nat → Int) (t_text : Nat → Int) (res : Int × Int × Int × Int × Int × Int × Int × Int × (Nat → Int)) (hf : F_X12_readText n t_letters t_tokenValue t_read t_text = some res) : MW l yX12_readText (.code yX12_readText cX12_readText 1 (some .int)) rm_X12_readText D E [.ref a_t] [(a_t, .inr (12, [.ref a_t_now, .ref a_t_read, .ref a_t_past, .int (z4 t_deeds), .ref a_t_images, .ref a_t_isKept, .ref a_t_text, .int (z4 t_letters), .int (z4 t_at), .int (z4 t_tokenAt), .int (z4 t_tokenSort), .int (z4 t_tokenValue), .int (z4 t_items), .int (z4 t_isChanceTold), .int (z4 t_areSumsTold), .ref a_t_metAt, .ref a_t_memoryAt, .ref a_t_upAt, .ref a_t_downAt, .ref a_t_isSignal, .ref a_t_memories, .ref a_t_placeOf, .ref a_t_nextPlace, .int (z4 t_places), .ref a_t_kindOf, .ref a_t_newKind, .int (z4 t_kinds), .ref a_t_stateOfKind, .ref a_t_stateAt, .ref a_t_stepTo, .int (z4 t_states), .ref a_t_far, .ref a_t_ways, .ref a_t_nextWays, .ref a_t_table])), (a_t_read, .inl (E 0, 98, .inl (A4 t_read))), (a_t_text, .inl (E 0, 120, .inl (A4 t_text)))] (some (.int (z4 res.1))) [(a_t, .inr (12, [.ref a_t_now, .ref a_t_read, .ref a_t_past, .int (z4 t_deeds), .ref a_t_images, .ref a_t_isKept, .ref a_t_text, .int (z4 t_letters), .int (z4 res.2.1), .int (z4 res.2.2.1), .int (z4 res.2.2.2.1), .int (z4 res.2.2.2.2.1), .int (z4 res.2.2.2.2.2.1), .int (z4 res.2.2.2.2.2.2.1), .int (z4 res.2.2.2.2.2.2.2.1), .ref a_t_metAt, .ref a_t_memoryAt, .ref a_t_upAt, .ref a_t_downAt, .ref a_t_isSignal, .ref a_t_memories, .ref a_t_placeOf, .ref a_t_nextPlace, .int (z4 t_places), .ref a_t_kindOf, .ref a_t_newKind, .int (z4 t_kinds), .ref a_t_stateOfKind, .ref a_t_stateAt, .ref a_t_stepTo, .int (z4 t_states), .ref a_t_far, .ref a_t_ways, .ref a_t_nextWays, .ref a_t_table])), (a_t_read, .inl (E 0, 98, .inl (A4 res.2.2.2.2.2.2.2.2))), (a_t_text, .inl (E 0, 120, .inl (A4 t_text)))] := by
  refine MWi (by decide) (Nat.le_of_ble_eq_true rfl) ?_
  intro p e s m args below meth c A Q X hK hP hD hA ret ls hl
  have hS : va_S A s.heap s.heap [] := va_S.rf
  have hx := X.1
  have hb := X.2.1
  have hl : lv_has ls 1 [(0, .ref a_t)] := hl
  unfold F_X12_readText at hf
  refine lv_aload_n hx hb dX12_readText_0 rfl (lv_at hl 0 rfl) ?_
  obtain ⟨o1, ho, hf⟩ := bd_some hf
  refine m_cVW X hK hP hD hS hA (wr := [(a_t_text, .inl (E 0, 120, .inl (A4 t_text)))]) (k_X12_begin n a_t a_t_now a_t_read a_t_past a_t_images a_t_isKept a_t_text a_t_metAt a_t_memoryAt a_t_upAt a_t_downAt a_t_isSignal a_t_memories a_t_placeOf a_t_nextPlace a_t_kindOf a_t_newKind a_t_stateOfKind a_t_stateAt a_t_stepTo a_t_far a_t_ways a_t_nextWays a_t_table t_deeds t_letters t_at t_tokenAt t_tokenSort t_tokenValue t_items t_isChanceTold t_areSumsTold t_places t_kinds t_states t_read o1 ho) [0, 1] [2] [1, 2, 0] [(a_t, .inr (12, [.ref a_t_now, .ref a_t_read, .ref a_t_past, .int (z4 t_deeds), .ref a_t_images, .ref a_t_isKept, .ref a_t_text, .int (z4 t_letters), .int (z4 t_at), .int (z4 t_tokenAt), .int (z4 t_tokenSort), .int (z4 t_tokenValue), .int (z4 t_items), .int (z4 t_isChanceTold), .int (z4 t_areSumsTold), .ref a_t_metAt, .ref a_t_memoryAt, .ref a_t_upAt, .ref a_t_downAt, .ref a_t_isSignal, .ref a_t_memories, .ref a_t_placeOf, .ref a_t_nextPlace, .int (z4 t_places), .ref a_t_kindOf, .ref a_t_newKind, .int (z4 t_kinds), .ref a_t_stateOfKind, .ref a_t_stateAt, .ref a_t_stepTo, .int (z4 t_states), .ref a_t_far, .ref a_t_ways, .ref a_t_nextWays, .ref a_t_table])), (a_t_read, .inl (E 0, 98, .inl (A4 o1))), (a_t_text, .inl (E 0, 120, .inl (A4 t_text)))] rfl rfl rfl rfl (by decide) rfl rfl rfl cl_X12 lk_X12_81 co_X12_begin dy_X12_begin rfl rfl ⟨Nat.le_of_ble_eq_true rfl, Nat.le_of_ble_eq_true rfl⟩ hl.1 rfl (Nat.le_of_ble_eq_true rfl) dX12_readText_1 (Nat.zero_le _) (Nat.zero_le _) (fun H locs hP hD hS => ?_)
  refine lv_aload_n hx hb dX12_readText_4 rfl (lv_at hl 0 rfl) ?_
  refine m_iconst X dX12_readText_5 ?_
  refine m_put X hK hP hD hS cl_X12 iT_X12 tyX12 tyX12_ok nmX12 8 (by decide) fl_X12_99 rfl 0 rfl rfl rfl (Nat.le_of_ble_eq_true rfl) [(a_t, .inr (12, [.ref a_t_now, .ref a_t_read, .ref a_t_past, .int (z4 t_deeds), .ref a_t_images, .ref a_t_isKept, .ref a_t_text, .int (z4 t_letters), .int (z4 0), .int (z4 t_tokenAt), .int (z4 t_tokenSort), .int (z4 t_tokenValue), .int (z4 t_items), .int (z4 t_isChanceTold), .int (z4 t_areSumsTold), .ref a_t_metAt, .ref a_t_memoryAt, .ref a_t_upAt, .ref a_t_downAt, .ref a_t_isSignal, .ref a_t_memories, .ref a_t_placeOf, .ref a_t_nextPlace, .int (z4 t_places), .ref a_t_kindOf, .ref a_t_newKind, .int (z4 t_kinds), .ref a_t_stateOfKind, .ref a_t_stateAt, .ref a_t_stepTo, .int (z4 t_states), .ref a_t_far, .ref a_t_ways, .ref a_t_nextWays, .ref a_t_table])), (a_t_read, .inl (E 0, 98, .inl (A4 o1))), (a_t_text, .inl (E 0, 120, .inl (A4 t_text)))] rfl dX12_readText_6 (fun H locs hP hD hS => ?_)
  refine lv_aload_n hx hb dX12_readText_9 rfl (lv_at hl 0 rfl) ?_
  refine m_iconst X dX12_readText_10 ?_
  refine m_put X hK hP hD hS cl_X12 iT_X12 tyX12 tyX12_ok nmX12 12 (by decide) fl_X12_150 rfl 0 rfl rfl rfl (Nat.le_of_ble_eq_true rfl) [(a_t, .inr (12, [.ref a_t_now, .ref a_t_read, .ref a_t_past, .int (z4 t_deeds), .ref a_t_images, .ref a_t_isKept, .ref a_t_text, .int (z4 t_letters), .int (z4 0), .int (z4 t_tokenAt), .int (z4 t_tokenSort), .int (z4 t_tokenValue), .int (z4 0), .int (z4 t_isChanceTold), .int (z4 t_areSumsTold), .ref a_t_metAt, .ref a_t_memoryAt, .ref a_t_upAt, .ref a_t_downAt, .ref a_t_isSignal, .ref a_t_memories, .ref a_t_placeOf, .ref a_t_nextPlace, .int (z4 t_places), .ref a_t_kindOf, .ref a_t_newKind, .int (z4 t_kinds), .ref a_t_stateOfKind, .ref a_t_stateAt, .ref a_t_stepTo, .int (z4 t_states), .ref a_t_far, .ref a_t_ways, .ref a_t_nextWays, .ref a_t_table])), (a_t_read, .inl (E 0, 98, .inl (A4 o1))), (a_t_text, .inl (E 0, 120, .inl (A4 t_text)))] rfl dX12_readText_11 (fun H locs hP hD hS => ?_)
  refine lv_aload_n hx hb dX12_readText_14 rfl (lv_at hl 0 rfl) ?_
  refine m_iconst X dX12_readText_15 ?_
  refine m_put X hK hP hD hS cl_X12 iT_X12 tyX12 tyX12_ok nmX12 13 (by decide) fl_X12_133 rfl 0 rfl rfl rfl (Nat.le_of_ble_eq_true rfl) [(a_t, .inr (12, [.ref a_t_now, .ref a_t_read, .ref a_t_past, .int (z4 t_deeds), .ref a_t_images, .ref a_t_isKept, .ref a_t_text, .int (z4 t_letters), .int (z4 0), .int (z4 t_tokenAt), .int (z4 t_tokenSort), .int (z4 t_tokenValue), .int (z4 0), .int (z4 0), .int (z4 t_areSumsTold), .ref a_t_metAt, .ref a_t_memoryAt, .ref a_t_upAt, .ref a_t_downAt, .ref a_t_isSignal, .ref a_t_memories, .ref a_t_placeOf, .ref a_t_nextPlace, .int (z4 t_places), .ref a_t_kindOf, .ref a_t_newKind, .int (z4 t_kinds), .ref a_t_stateOfKind, .ref a_t_stateAt, .ref a_t_stepTo, .int (z4 t_states), .ref a_t_far, .ref a_t_ways, .ref a_t_nextWays, .ref a_t_table])), (a_t_read, .inl (E 0, 98, .inl (A4 o1))), (a_t_text, .inl (E 0, 120, .inl (A4 t_text)))] rfl dX12_readText_16 (fun H locs hP hD hS => ?_)
  refine lv_aload_n hx hb dX12_readText_19 rfl (lv_at hl 0 rfl) ?_
  refine m_iconst X dX12_readText_20 ?_
  refine m_put X hK hP hD hS cl_X12 iT_X12 tyX12 tyX12_ok nmX12 14 (by decide) fl_X12_137 rfl 0 rfl rfl rfl (Nat.le_of_ble_eq_true rfl) [(a_t, .inr (12, [.ref a_t_now, .ref a_t_read, .ref a_t_past, .int (z4 t_deeds), .ref a_t_images, .ref a_t_isKept, .ref a_t_text, .int (z4 t_letters), .int (z4 0), .int (z4 t_tokenAt), .int (z4 t_tokenSort), .int (z4 t_tokenValue), .int (z4 0), .int (z4 0), .int (z4 0), .ref a_t_metAt, .ref a_t_memoryAt, .ref a_t_upAt, .ref a_t_downAt, .ref a_t_isSignal, .ref a_t_memories, .ref a_t_placeOf, .ref a_t_nextPlace, .int (z4 t_places), .ref a_t_kindOf, .ref a_t_newKind, .int (z4 t_kinds), .ref a_t_stateOfKind, .ref a_t_stateAt, .ref a_t_stepTo, .int (z4 t_states), .ref a_t_far, .ref a_t_ways, .ref a_t_nextWays, .ref a_t_table])), (a_t_read, .inl (E 0, 98, .inl (A4 o1))), (a_t_text, .inl (E 0, 120, .inl (A4 t_text)))] rfl dX12_readText_21 (fun H locs hP hD hS => ?_)
  refine lv_aload_n hx hb dX12_readText_24 rfl (lv_at hl 0 rfl) ?_
  obtain ⟨o2, ho, hf⟩ := bd_some hf
  refine m_cVW X hK hP hD hS hA (wr := [(a_t_read, .inl (E 0, 98, .inl (A4 o1)))]) (k_X12_scan n a_t a_t_now a_t_read a_t_past a_t_images a_t_isKept a_t_text a_t_metAt a_t_memoryAt a_t_upAt a_t_downAt a_t_isSignal a_t_memories a_t_placeOf a_t_nextPlace a_t_kindOf a_t_newKind a_t_stateOfKind a_t_stateAt a_t_stepTo a_t_far a_t_ways a_t_nextWays a_t_table t_deeds t_letters 0 t_tokenAt t_tokenSort t_tokenValue 0 0 0 t_places t_kinds t_states t_text o2 ho) [0, 2] [1] [1, 0, 2] [(a_t, .inr (12, [.ref a_t_now, .ref a_t_read, .ref a_t_past, .int (z4 t_deeds), .ref a_t_images, .ref a_t_isKept, .ref a_t_text, .int (z4 t_letters), .int (z4 o2.1), .int (z4 o2.2.1), .int (z4 o2.2.2.1), .int (z4 o2.2.2.2), .int (z4 0), .int (z4 0), .int (z4 0), .ref a_t_metAt, .ref a_t_memoryAt, .ref a_t_upAt, .ref a_t_downAt, .ref a_t_isSignal, .ref a_t_memories, .ref a_t_placeOf, .ref a_t_nextPlace, .int (z4 t_places), .ref a_t_kindOf, .ref a_t_newKind, .int (z4 t_kinds), .ref a_t_stateOfKind, .ref a_t_stateAt, .ref a_t_stepTo, .int (z4 t_states), .ref a_t_far, .ref a_t_ways, .ref a_t_nextWays, .ref a_t_table])), (a_t_read, .inl (E 0, 98, .inl (A4 o1))), (a_t_text, .inl (E 0, 120, .inl (A4 t_text)))] rfl rfl rfl rfl (by decide) rfl rfl rfl cl_X12 lk_X12_122 co_X12_scan dy_X12_scan rfl rfl ⟨Nat.le_of_ble_eq_true rfl, Nat.le_of_ble_eq_true rfl⟩ hl.1 rfl (Nat.le_of_ble_eq_true rfl) dX12_readText_25 (Nat.zero_le _) (Nat.zero_le _) (fun H locs hP hD hS => ?_)
  obtain ⟨o3, hj3, hr3⟩ := bd_some hf
  have E3_0 : ∀ (o_ : Int × Int × Int × Int × Int × Int × Int × (Nat → Int)), o3 = (.inl o_) → ∀ (H : Heap) (locs : List Loc) (ls : Array Slot), lv_has ls 1 [] → va_P D vwCl [(a_t, .inr (12, [.ref a_t_now, .ref a_t_read, .ref a_t_past, .int (z4 t_deeds), .ref a_t_images, .ref a_t_isKept, .ref a_t_text, .int (z4 t_letters), .int (z4 o_.1), .int (z4 o_.2.1), .int (z4 o_.2.2.1), .int (z4 o_.2.2.2.1), .int (z4 o_.2.2.2.2.1), .int (z4 o_.2.2.2.2.2.1), .int (z4 o_.2.2.2.2.2.2.1), .ref a_t_metAt, .ref a_t_memoryAt, .ref a_t_upAt, .ref a_t_downAt, .ref a_t_isSignal, .ref a_t_memories, .ref a_t_placeOf, .ref a_t_nextPlace, .int (z4 t_places), .ref a_t_kindOf, .ref a_t_newKind, .int (z4 t_kinds), .ref a_t_stateOfKind, .ref a_t_stateAt, .ref a_t_stepTo, .int (z4 t_states), .ref a_t_far, .ref a_t_ways, .ref a_t_nextWays, .ref a_t_table])), (a_t_read, .inl (E 0, 98, .inl (A4 o_.2.2.2.2.2.2.2))), (a_t_text, .inl (E 0, 120, .inl (A4 t_text)))] H → va_D A [(a_t, .inr (12, [.ref a_t_now, .ref a_t_read, .ref a_t_past, .int (z4 t_deeds), .ref a_t_images, .ref a_t_isKept, .ref a_t_text, .int (z4 t_letters), .int (z4 o_.1), .int (z4 o_.2.1), .int (z4 o_.2.2.1), .int (z4 o_.2.2.2.1), .int (z4 o_.2.2.2.2.1), .int (z4 o_.2.2.2.2.2.1), .int (z4 o_.2.2.2.2.2.2.1), .ref a_t_metAt, .ref a_t_memoryAt, .ref a_t_upAt, .ref a_t_downAt, .ref a_t_isSignal, .ref a_t_memories, .ref a_t_placeOf, .ref a_t_nextPlace, .int (z4 t_places), .ref a_t_kindOf, .ref a_t_newKind, .int (z4 t_kinds), .ref a_t_stateOfKind, .ref a_t_stateAt, .ref a_t_stepTo, .int (z4 t_states), .ref a_t_far, .ref a_t_ways, .ref a_t_nextWays, .ref a_t_table])), (a_t_read, .inl (E 0, 98, .inl (A4 o_.2.2.2.2.2.2.2))), (a_t_text, .inl (E 0, 120, .inl (A4 t_text)))] → va_S A s.heap H locs → W p l e rm_X12_readText s m args below meth c H locs 0 0 Q (F0 m 55 ls []) := by
    intro o3_0 ho_ H locs ls hl hP hD hS
    subst ho_
    refine m_bipush X dX12_readText_55 (by decide) ?_
    obtain rfl := Option.some.inj hr3
    exact ret _ _ _ _ hP hD hS dX12_readText_57
  have E3_1 : ∀ (o_ : Int × Int × Int × Int × Int × Int × Int × (Nat → Int)), o3 = (.inr o_) → ∀ (H : Heap) (locs : List Loc) (ls : Array Slot), lv_has ls 1 [(0, .ref a_t)] → va_P D vwCl [(a_t, .inr (12, [.ref a_t_now, .ref a_t_read, .ref a_t_past, .int (z4 t_deeds), .ref a_t_images, .ref a_t_isKept, .ref a_t_text, .int (z4 t_letters), .int (z4 o_.1), .int (z4 o_.2.1), .int (z4 o_.2.2.1), .int (z4 o_.2.2.2.1), .int (z4 o_.2.2.2.2.1), .int (z4 o_.2.2.2.2.2.1), .int (z4 o_.2.2.2.2.2.2.1), .ref a_t_metAt, .ref a_t_memoryAt, .ref a_t_upAt, .ref a_t_downAt, .ref a_t_isSignal, .ref a_t_memories, .ref a_t_placeOf, .ref a_t_nextPlace, .int (z4 t_places), .ref a_t_kindOf, .ref a_t_newKind, .int (z4 t_kinds), .ref a_t_stateOfKind, .ref a_t_stateAt, .ref a_t_stepTo, .int (z4 t_states), .ref a_t_far, .ref a_t_ways, .ref a_t_nextWays, .ref a_t_table])), (a_t_read, .inl (E 0, 98, .inl (A4 o_.2.2.2.2.2.2.2))), (a_t_text, .inl (E 0, 120, .inl (A4 t_text)))] H → va_D A [(a_t, .inr (12, [.ref a_t_now, .ref a_t_read, .ref a_t_past, .int (z4 t_deeds), .ref a_t_images, .ref a_t_isKept, .ref a_t_text, .int (z4 t_letters), .int (z4 o_.1), .int (z4 o_.2.1), .int (z4 o_.2.2.1), .int (z4 o_.2.2.2.1), .int (z4 o_.2.2.2.2.1), .int (z4 o_.2.2.2.2.2.1), .int (z4 o_.2.2.2.2.2.2.1), .ref a_t_metAt, .ref a_t_memoryAt, .ref a_t_upAt, .ref a_t_downAt, .ref a_t_isSignal, .ref a_t_memories, .ref a_t_placeOf, .ref a_t_nextPlace, .int (z4 t_places), .ref a_t_kindOf, .ref a_t_newKind, .int (z4 t_kinds), .ref a_t_stateOfKind, .ref a_t_stateAt, .ref a_t_stepTo, .int (z4 t_states), .ref a_t_far, .ref a_t_ways, .ref a_t_nextWays, .ref a_t_table])), (a_t_read, .inl (E 0, 98, .inl (A4 o_.2.2.2.2.2.2.2))), (a_t_text, .inl (E 0, 120, .inl (A4 t_text)))] → va_S A s.heap H locs → W p l e rm_X12_readText s m args below meth c H locs 0 0 Q (F0 m 43 ls []) := by
    intro o3_1 ho_ H locs ls hl hP hD hS
    subst ho_
    refine lv_aload_n hx hb dX12_readText_43 rfl (lv_at hl 0 rfl) ?_
    refine m_get X hK hP cl_X12 iT_X12 9 (by decide) fl_X12_91 0 rfl rfl dX12_readText_44 ?_
    obtain rfl := Option.some.inj hr3
    exact ret _ _ _ _ hP hD hS dX12_readText_47
  have L3 : ∀ (k_ : Nat) (t_at_l28 : Int) (t_tokenAt_l28 : Int) (t_tokenSort_l28 : Int) (t_tokenValue_l28 : Int) (t_items_l28 : Int) (t_isChanceTold_l28 : Int) (t_areSumsTold_l28 : Int) (t_read_l28 : Nat → Int), ∀ (H : Heap) (locs : List Loc) (ls : Array Slot), lv_has ls 1 [(0, .ref a_t)] → va_P D vwCl [(a_t, .inr (12, [.ref a_t_now, .ref a_t_read, .ref a_t_past, .int (z4 t_deeds), .ref a_t_images, .ref a_t_isKept, .ref a_t_text, .int (z4 t_letters), .int (z4 t_at_l28), .int (z4 t_tokenAt_l28), .int (z4 t_tokenSort_l28), .int (z4 t_tokenValue_l28), .int (z4 t_items_l28), .int (z4 t_isChanceTold_l28), .int (z4 t_areSumsTold_l28), .ref a_t_metAt, .ref a_t_memoryAt, .ref a_t_upAt, .ref a_t_downAt, .ref a_t_isSignal, .ref a_t_memories, .ref a_t_placeOf, .ref a_t_nextPlace, .int (z4 t_places), .ref a_t_kindOf, .ref a_t_newKind, .int (z4 t_kinds), .ref a_t_stateOfKind, .ref a_t_stateAt, .ref a_t_stepTo, .int (z4 t_states), .ref a_t_far, .ref a_t_ways, .ref a_t_nextWays, .ref a_t_table])), (a_t_read, .inl (E 0, 98, .inl (A4 t_read_l28))), (a_t_text, .inl (E 0, 120, .inl (A4 t_text)))] H → va_D A [(a_t, .inr (12, [.ref a_t_now, .ref a_t_read, .ref a_t_past, .int (z4 t_deeds), .ref a_t_images, .ref a_t_isKept, .ref a_t_text, .int (z4 t_letters), .int (z4 t_at_l28), .int (z4 t_tokenAt_l28), .int (z4 t_tokenSort_l28), .int (z4 t_tokenValue_l28), .int (z4 t_items_l28), .int (z4 t_isChanceTold_l28), .int (z4 t_areSumsTold_l28), .ref a_t_metAt, .ref a_t_memoryAt, .ref a_t_upAt, .ref a_t_downAt, .ref a_t_isSignal, .ref a_t_memories, .ref a_t_placeOf, .ref a_t_nextPlace, .int (z4 t_places), .ref a_t_kindOf, .ref a_t_newKind, .int (z4 t_kinds), .ref a_t_stateOfKind, .ref a_t_stateAt, .ref a_t_stepTo, .int (z4 t_states), .ref a_t_far, .ref a_t_ways, .ref a_t_nextWays, .ref a_t_table])), (a_t_read, .inl (E 0, 98, .inl (A4 t_read_l28))), (a_t_text, .inl (E 0, 120, .inl (A4 t_text)))] → va_S A s.heap H locs → lp_ (fun (q : Int × Int × Int × Int × Int × Int × Int × (Nat → Int)) => F_X12_readText_L28 n t_letters t_text q.1 q.2.1 q.2.2.1 q.2.2.2.1 q.2.2.2.2.1 q.2.2.2.2.2.1 q.2.2.2.2.2.2.1 q.2.2.2.2.2.2.2) k_ (t_at_l28, t_tokenAt_l28, t_tokenSort_l28, t_tokenValue_l28, t_items_l28, t_isChanceTold_l28, t_areSumsTold_l28, t_read_l28) = some o3 → W p l e rm_X12_readText s m args below meth c H locs 0 0 Q (F0 m 28 ls []) := by
    intro k_
    induction k_ with
    | zero =>
      intro t_at_l28 t_tokenAt_l28 t_tokenSort_l28 t_tokenValue_l28 t_items_l28 t_isChanceTold_l28 t_areSumsTold_l28 t_read_l28 H locs ls hl hP hD hS hq_; exact (lp_zero hq_).elim
    | succ k_ ih3 =>
      intro t_at_l28 t_tokenAt_l28 t_tokenSort_l28 t_tokenValue_l28 t_items_l28 t_isChanceTold_l28 t_areSumsTold_l28 t_read_l28 H locs ls hl hP hD hS hq_
      obtain ⟨t_3, hb3, hq3⟩ := lp_some hq_
      replace hb3 : F_X12_readText_L28 n t_letters t_text t_at_l28 t_tokenAt_l28 t_tokenSort_l28 t_tokenValue_l28 t_items_l28 t_isChanceTold_l28 t_areSumsTold_l28 t_read_l28 = some t_3 := hb3
      unfold F_X12_readText_L28 at hb3
      refine lv_aload_n hx hb dX12_readText_28 rfl (lv_at hl 0 rfl) ?_
      refine m_get X hK hP cl_X12 iT_X12 10 (by decide) fl_X12_105 0 rfl rfl dX12_readText_29 ?_
      refine m_iconst X dX12_readText_32 ?_
      obtain ⟨h4, hb3⟩ := ck_some hb3
      refine m_icmp_eq X ⟨h4, ⟨by decide, by decide⟩⟩ dX12_readText_33 (tgt := 55) (by decide) (fun (hc_ : t_tokenSort_l28 = 2) => ?_) (fun (hc_ : ¬ (t_tokenSort_l28 = 2)) => ?_)
      · rw [if_pos hc_] at hb3
        obtain rfl := Option.some.inj hb3
        exact E3_0 _ (Option.some.inj hq3).symm _ _ _ (lv_sub hl [] rfl) hP hD hS
      · rw [if_neg hc_] at hb3
        refine lv_aload_n hx hb dX12_readText_36 rfl (lv_at hl 0 rfl) ?_
        obtain ⟨o5, ho, hb3⟩ := bd_some hb3
        refine m_cVW X hK hP hD hS hA (wr := []) (k_X12_readItem n a_t a_t_now a_t_read a_t_past a_t_images a_t_isKept a_t_text a_t_metAt a_t_memoryAt a_t_upAt a_t_downAt a_t_isSignal a_t_memories a_t_placeOf a_t_nextPlace a_t_kindOf a_t_newKind a_t_stateOfKind a_t_stateAt a_t_stepTo a_t_far a_t_ways a_t_nextWays a_t_table t_deeds t_letters t_at_l28 t_tokenAt_l28 t_tokenSort_l28 t_tokenValue_l28 t_items_l28 t_isChanceTold_l28 t_areSumsTold_l28 t_places t_kinds t_states t_text t_read_l28 o5 ho) [0, 2, 1] [] [0, 2, 1] [(a_t, .inr (12, [.ref a_t_now, .ref a_t_read, .ref a_t_past, .int (z4 t_deeds), .ref a_t_images, .ref a_t_isKept, .ref a_t_text, .int (z4 t_letters), .int (z4 o5.2.1), .int (z4 o5.2.2.1), .int (z4 o5.2.2.2.1), .int (z4 o5.2.2.2.2.1), .int (z4 o5.2.2.2.2.2.1), .int (z4 o5.2.2.2.2.2.2.1), .int (z4 o5.2.2.2.2.2.2.2.1), .ref a_t_metAt, .ref a_t_memoryAt, .ref a_t_upAt, .ref a_t_downAt, .ref a_t_isSignal, .ref a_t_memories, .ref a_t_placeOf, .ref a_t_nextPlace, .int (z4 t_places), .ref a_t_kindOf, .ref a_t_newKind, .int (z4 t_kinds), .ref a_t_stateOfKind, .ref a_t_stateAt, .ref a_t_stepTo, .int (z4 t_states), .ref a_t_far, .ref a_t_ways, .ref a_t_nextWays, .ref a_t_table])), (a_t_read, .inl (E 0, 98, .inl (A4 o5.2.2.2.2.2.2.2.2))), (a_t_text, .inl (E 0, 120, .inl (A4 t_text)))] rfl rfl rfl rfl (by decide) rfl rfl rfl cl_X12 lk_X12_153 co_X12_readItem dy_X12_readItem rfl rfl ⟨Nat.le_of_ble_eq_true rfl, Nat.le_of_ble_eq_true rfl⟩ hl.1 rfl (Nat.le_of_ble_eq_true rfl) dX12_readText_37 (Nat.zero_le _) (Nat.zero_le _) (fun H locs hP hD hS => ?_)
        obtain ⟨h6, hb3⟩ := ck_some hb3
        refine m_if_ne X h6 dX12_readText_40 (tgt := 48) (by decide) (fun (hc_ : ¬ (o5.1 = 0)) => ?_) (fun (hc_ : o5.1 = 0) => ?_)
        · rw [if_neg hc_] at hb3
          refine lv_aload_n hx hb dX12_readText_48 rfl (lv_at hl 0 rfl) ?_
          obtain ⟨o7, ho, hb3⟩ := bd_some hb3
          refine m_cVW X hK hP hD hS hA (wr := [(a_t_read, .inl (E 0, 98, .inl (A4 o5.2.2.2.2.2.2.2.2)))]) (k_X12_scan n a_t a_t_now a_t_read a_t_past a_t_images a_t_isKept a_t_text a_t_metAt a_t_memoryAt a_t_upAt a_t_downAt a_t_isSignal a_t_memories a_t_placeOf a_t_nextPlace a_t_kindOf a_t_newKind a_t_stateOfKind a_t_stateAt a_t_stepTo a_t_far a_t_ways a_t_nextWays a_t_table t_deeds t_letters o5.2.1 o5.2.2.1 o5.2.2.2.1 o5.2.2.2.2.1 o5.2.2.2.2.2.1 o5.2.2.2.2.2.2.1 o5.2.2.2.2.2.2.2.1 t_places t_kinds t_states t_text o7 ho) [0, 2] [1] [1, 0, 2] [(a_t, .inr (12, [.ref a_t_now, .ref a_t_read, .ref a_t_past, .int (z4 t_deeds), .ref a_t_images, .ref a_t_isKept, .ref a_t_text, .int (z4 t_letters), .int (z4 o7.1), .int (z4 o7.2.1), .int (z4 o7.2.2.1), .int (z4 o7.2.2.2), .int (z4 o5.2.2.2.2.2.1), .int (z4 o5.2.2.2.2.2.2.1), .int (z4 o5.2.2.2.2.2.2.2.1), .ref a_t_metAt, .ref a_t_memoryAt, .ref a_t_upAt, .ref a_t_downAt, .ref a_t_isSignal, .ref a_t_memories, .ref a_t_placeOf, .ref a_t_nextPlace, .int (z4 t_places), .ref a_t_kindOf, .ref a_t_newKind, .int (z4 t_kinds), .ref a_t_stateOfKind, .ref a_t_stateAt, .ref a_t_stepTo, .int (z4 t_states), .ref a_t_far, .ref a_t_ways, .ref a_t_nextWays, .ref a_t_table])), (a_t_read, .inl (E 0, 98, .inl (A4 o5.2.2.2.2.2.2.2.2))), (a_t_text, .inl (E 0, 120, .inl (A4 t_text)))] rfl rfl rfl rfl (by decide) rfl rfl rfl cl_X12 lk_X12_122 co_X12_scan dy_X12_scan rfl rfl ⟨Nat.le_of_ble_eq_true rfl, Nat.le_of_ble_eq_true rfl⟩ hl.1 rfl (Nat.le_of_ble_eq_true rfl) dX12_readText_49 (Nat.zero_le _) (Nat.zero_le _) (fun H locs hP hD hS => ?_)
          refine lv_goto (tgt := 28) hx hb dX12_readText_52 (by decide) ?_
          obtain rfl := Option.some.inj hb3
          exact ih3 _ _ _ _ _ _ _ _ _ _ _ (lv_sub hl [0] rfl) hP hD hS hq3
        · rw [if_pos hc_] at hb3
          obtain rfl := Option.some.inj hb3
          exact E3_1 _ (Option.some.inj hq3).symm _ _ _ (lv_sub hl [0] rfl) hP hD hS
  exact L3 n _ _ _ _ _ _ _ _ _ _ _ (lv_sub hl [0] rfl) hP hD hS hj3
