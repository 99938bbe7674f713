def F_X12_row (n : Nat)  (t_places : Int) (t_kinds : Int) (t_states : Int) (t_now : Nat → Int) (t_metAt : Nat → Int) (t_memoryAt : Nat → Int) (t_isSignal : Nat → Int) (t_upAt : Nat → Int) (t_downAt : Nat → Int) (t_placeOf : Nat → Int) (t_memories : Nat → Int) (t_nextPlace : Nat → Int) (t_kindOf : Nat → Int) (t_newKind : Nat → Int) (t_stateOfKind : Nat → Int) (t_stateAt : Nat → Int) (t_stepTo : Nat → Int) (x1 : Int) (x2 : Int) : Option (Int × Int × Int × Int × (Nat → Int) × (Nat → Int) × (Nat → Int) × (Nat → Int) × (Nat → Int) × (Nat → Int) × (Nat → Int) × (Nat → Int) × (Nat → Int) × (Nat → Int) × (Nat → Int) × (Nat → Int) × (Nat → Int)) :=
  (F_X12_isRow n t_now x1).bind fun o1 =>
  ck (r4 o1) <|
  if o1 = 0 then
    some ((-1), t_places, t_kinds, t_states, t_metAt, t_memoryAt, t_isSignal, t_upAt, t_downAt, t_placeOf, t_memories, t_nextPlace, t_kindOf, t_newKind, t_stateOfKind, t_stateAt, t_stepTo)
  else
    (F_X12_goThrough n t_now t_metAt t_memoryAt t_isSignal t_upAt t_downAt).bind fun o3 =>
    ck (r4 x2) <|
    if x2 = 0 then
      ck (ix_ (18 + x1) 98) <|
      some (t_now (18 + x1).toNat, t_places, t_kinds, t_states, o3.1, o3.2.1, o3.2.2.1, o3.2.2.2.1, o3.2.2.2.2, t_placeOf, t_memories, t_nextPlace, t_kindOf, t_newKind, t_stateOfKind, t_stateAt, t_stepTo)
    else
      if x2 = 1 then
        ck (ix_ (58 + x1) 98) <|
        some (t_now (58 + x1).toNat, t_places, t_kinds, t_states, o3.1, o3.2.1, o3.2.2.1, o3.2.2.2.1, o3.2.2.2.2, t_placeOf, t_memories, t_nextPlace, t_kindOf, t_newKind, t_stateOfKind, t_stateAt, t_stepTo)
      else
        if x2 = 2 then
          ck (ix_ x1 40) <|
          some (o3.1 (x1).toNat, t_places, t_kinds, t_states, o3.1, o3.2.1, o3.2.2.1, o3.2.2.2.1, o3.2.2.2.2, t_placeOf, t_memories, t_nextPlace, t_kindOf, t_newKind, t_stateOfKind, t_stateAt, t_stepTo)
        else
          if x2 = 3 then
            (F_X12_build n t_placeOf t_memories t_now t_nextPlace t_kindOf t_newKind t_stateOfKind t_stateAt t_stepTo).bind fun o8 =>
            ck (ix_ x1 40) <|
            (F_X12_stateOf n o8.2.2.2.1 o8.2.2.2.2.2.2.1 o8.2.2.2.2.2.2.2.2.1 (o3.2.1 (x1).toNat)).bind fun o10 =>
            some (o10, o8.1, o8.2.1, o8.2.2.1, o3.1, o3.2.1, o3.2.2.1, o3.2.2.2.1, o3.2.2.2.2, o8.2.2.2.1, o8.2.2.2.2.1, o8.2.2.2.2.2.1, o8.2.2.2.2.2.2.1, o8.2.2.2.2.2.2.2.1, o8.2.2.2.2.2.2.2.2.1, o8.2.2.2.2.2.2.2.2.2.1, o8.2.2.2.2.2.2.2.2.2.2)
          else
            if x2 = 4 then
              ck (ix_ x1 40) <|
              some (o3.2.2.2.1 (x1).toNat, t_places, t_kinds, t_states, o3.1, o3.2.1, o3.2.2.1, o3.2.2.2.1, o3.2.2.2.2, t_placeOf, t_memories, t_nextPlace, t_kindOf, t_newKind, t_stateOfKind, t_stateAt, t_stepTo)
            else
              if x2 = 5 then
                ck (ix_ x1 40) <|
                some (o3.2.2.2.2 (x1).toNat, t_places, t_kinds, t_states, o3.1, o3.2.1, o3.2.2.1, o3.2.2.2.1, o3.2.2.2.2, t_placeOf, t_memories, t_nextPlace, t_kindOf, t_newKind, t_stateOfKind, t_stateAt, t_stepTo)
              else
                if x2 = 6 then
                  ck (ix_ x1 40) <|
                  Option.bind (α := Int) (
                    ck (r4 (o3.2.2.1 (x1).toNat)) <|
                    if o3.2.2.1 (x1).toNat = 0 then
                      some 0
                    else
                      some 1) fun o14 =>
                  some (o14, t_places, t_kinds, t_states, o3.1, o3.2.1, o3.2.2.1, o3.2.2.2.1, o3.2.2.2.2, t_placeOf, t_memories, t_nextPlace, t_kindOf, t_newKind, t_stateOfKind, t_stateAt, t_stepTo)
                else
                  some ((-1), t_places, t_kinds, t_states, o3.1, o3.2.1, o3.2.2.1, o3.2.2.2.1, o3.2.2.2.2, t_placeOf, t_memories, t_nextPlace, t_kindOf, t_newKind, t_stateOfKind, t_stateAt, t_stepTo)
def rm_X12_row : Room := { frames := 4, cells := 0, slots := 0, locals := 98 }
set_option maxHeartbeats 4000000 in
set_option maxRecDepth 100000 in
theorem k_X12_row {l : Launch} {D : va_G} {E : Nat → ClassId} (n : Nat) (a_t a_t_now a_t_read a_t_past a_t_images a_t_isKept a_t_text a_t_metAt a_t_memoryAt a_t_upAt a_t_downAt a_t_isSignal a_t_memories a_t_placeOf a_t_nextPlace a_t_kindOf a_t_newKind a_t_stateOfKind a_t_stateAt a_t_stepTo a_t_far a_t_ways a_t_nextWays a_t_table : Nat) (t_deeds : Int) (t_letters : Int) (t_at : Int) (t_tokenAt : Int) (t_tokenSort : Int) (t_tokenValue : Int) (t_items : Int) (t_isChanceTold : Int) (t_areSumsTold : Int) (t_places : Int) (t_kinds : Int) (t_states : Int) (t_now : Nat → Int) (t_metAt : Nat → Int) (t_memoryAt : Nat → Int) (t_isSignal : Nat → Int) (t_upAt : Nat → Int) (t_downAt : Nat → Int) (t_placeOf : Nat → Int) (t_memories : Nat → Int) (t_nextPlace : Nat → Int) (t_kindOf : Nat → Int) (t_newKind : Nat → Int) (t_stateOfKind : Nat → Int) (t_stateAt : Nat → Int) (t_stepTo : Nat → Int) (x1 : Int) (x2 : Int) (res : Int × Int × Int × Int × (Nat → Int) × (Nat → Int) × (Nat → Int) × (Nat → Int) × (Nat → Int) × (Nat → Int) × (Nat → Int) × (Nat → Int) × (Nat → Int) × (Nat → Int) × (Nat → Int) × (Nat → Int) × (Nat → Int)) (hf : F_X12_row n t_places t_kinds t_states t_now t_metAt t_memoryAt t_isSignal t_upAt t_downAt t_placeOf t_memories t_nextPlace t_kindOf t_newKind t_stateOfKind t_stateAt t_stepTo x1 x2 = some res) : MW l yX12_row (.code yX12_row cX12_row 3 (some .int)) rm_X12_row D E [.ref a_t, .int (z4 x1), .int (z4 x2)] [(a_t, .inr (12, [.ref a_t_now, .ref a_t_read, .ref a_t_past, .int (z4 t_deeds), .ref a_t_images, .ref a_t_isKept, .ref a_t_text, .int (z4 t_letters), .int (z4 t_at), .int (z4 t_tokenAt), .int (z4 t_tokenSort), .int (z4 t_tokenValue), .int (z4 t_items), .int (z4 t_isChanceTold), .int (z4 t_areSumsTold), .ref a_t_metAt, .ref a_t_memoryAt, .ref a_t_upAt, .ref a_t_downAt, .ref a_t_isSignal, .ref a_t_memories, .ref a_t_placeOf, .ref a_t_nextPlace, .int (z4 t_places), .ref a_t_kindOf, .ref a_t_newKind, .int (z4 t_kinds), .ref a_t_stateOfKind, .ref a_t_stateAt, .ref a_t_stepTo, .int (z4 t_states), .ref a_t_far, .ref a_t_ways, .ref a_t_nextWays, .ref a_t_table])), (a_t_now, .inl (E 0, 98, .inl (A4 t_now))), (a_t_metAt, .inl (E 0, 40, .inl (A4 t_metAt))), (a_t_memoryAt, .inl (E 0, 40, .inl (A4 t_memoryAt))), (a_t_isSignal, .inl (E 1, 40, .inl (A4 t_isSignal))), (a_t_upAt, .inl (E 0, 40, .inl (A4 t_upAt))), (a_t_downAt, .inl (E 0, 40, .inl (A4 t_downAt))), (a_t_placeOf, .inl (E 0, 64, .inl (A4 t_placeOf))), (a_t_memories, .inl (E 0, 64, .inl (A4 t_memories))), (a_t_nextPlace, .inl (E 0, 320, .inl (A4 t_nextPlace))), (a_t_kindOf, .inl (E 0, 64, .inl (A4 t_kindOf))), (a_t_newKind, .inl (E 0, 64, .inl (A4 t_newKind))), (a_t_stateOfKind, .inl (E 0, 64, .inl (A4 t_stateOfKind))), (a_t_stateAt, .inl (E 0, 64, .inl (A4 t_stateAt))), (a_t_stepTo, .inl (E 0, 320, .inl (A4 t_stepTo)))] (some (.int (z4 res.1))) [(a_t, .inr (12, [.ref a_t_now, .ref a_t_read, .ref a_t_past, .int (z4 t_deeds), .ref a_t_images, .ref a_t_isKept, .ref a_t_text, .int (z4 t_letters), .int (z4 t_at), .int (z4 t_tokenAt), .int (z4 t_tokenSort), .int (z4 t_tokenValue), .int (z4 t_items), .int (z4 t_isChanceTold), .int (z4 t_areSumsTold), .ref a_t_metAt, .ref a_t_memoryAt, .ref a_t_upAt, .ref a_t_downAt, .ref a_t_isSignal, .ref a_t_memories, .ref a_t_placeOf, .ref a_t_nextPlace, .int (z4 res.2.1), .ref a_t_kindOf, .ref a_t_newKind, .int (z4 res.2.2.1), .ref a_t_stateOfKind, .ref a_t_stateAt, .ref a_t_stepTo, .int (z4 res.2.2.2.1), .ref a_t_far, .ref a_t_ways, .ref a_t_nextWays, .ref a_t_table])), (a_t_now, .inl (E 0, 98, .inl (A4 t_now))), (a_t_metAt, .inl (E 0, 40, .inl (A4 res.2.2.2.2.1))), (a_t_memoryAt, .inl (E 0, 40, .inl (A4 res.2.2.2.2.2.1))), (a_t_isSignal, .inl (E 1, 40, .inl (A4 res.2.2.2.2.2.2.1))), (a_t_upAt, .inl (E 0, 40, .inl (A4 res.2.2.2.2.2.2.2.1))), (a_t_downAt, .inl (E 0, 40, .inl (A4 res.2.2.2.2.2.2.2.2.1))), (a_t_placeOf, .inl (E 0, 64, .inl (A4 res.2.2.2.2.2.2.2.2.2.1))), (a_t_memories, .inl (E 0, 64, .inl (A4 res.2.2.2.2.2.2.2.2.2.2.1))), (a_t_nextPlace, .inl (E 0, 320, .inl (A4 res.2.2.2.2.2.2.2.2.2.2.2.1))), (a_t_kindOf, .inl (E 0, 64, .inl (A4 res.2.2.2.2.2.2.2.2.2.2.2.2.1))), (a_t_newKind, .inl (E 0, 64, .inl (A4 res.2.2.2.2.2.2.2.2.2.2.2.2.2.1))), (a_t_stateOfKind, .inl (E 0, 64, .inl (A4 res.2.2.2.2.2.2.2.2.2.2.2.2.2.2.1))), (a_t_stateAt, .inl (E 0, 64, .inl (A4 res.2.2.2.2.2.2.2.2.2.2.2.2.2.2.2.1))), (a_t_stepTo, .inl (E 0, 320, .inl (A4 res.2.2.2.2.2.2.2.2.2.2.2.2.2.2.2.2)))] := by
  refine MWi (by decide) (Nat.le_of_ble_eq_true rfl) ?_
  intro p e s m args below meth c A Q X hK hP hD hA ret ls hl
  have hS : va_S A s.heap s.heap [] := va_S.rf
  have hx := X.1
  have hb := X.2.1
  have hl : lv_has ls 3 [(0, .ref a_t), (1, .int (z4 x1)), (2, .int (z4 x2))] := hl
  unfold F_X12_row at hf
  refine lv_aload_n hx hb dX12_row_0 rfl (lv_at hl 0 rfl) ?_
  refine lv_iload_n hx hb dX12_row_1 rfl (lv_at hl 1 rfl) ?_
  obtain ⟨o1, ho, hf⟩ := bd_some hf
  refine m_cVR X hK (k_X12_isRow n a_t a_t_now a_t_read a_t_past a_t_images a_t_isKept a_t_text a_t_metAt a_t_memoryAt a_t_upAt a_t_downAt a_t_isSignal a_t_memories a_t_placeOf a_t_nextPlace a_t_kindOf a_t_newKind a_t_stateOfKind a_t_stateAt a_t_stepTo a_t_far a_t_ways a_t_nextWays a_t_table t_deeds t_letters t_at t_tokenAt t_tokenSort t_tokenValue t_items t_isChanceTold t_areSumsTold t_places t_kinds t_states t_now x1 o1 ho) (hP.sub [0, 1] rfl) rfl cl_X12 lk_X12_172 co_X12_isRow dy_X12_isRow rfl rfl ⟨Nat.le_of_ble_eq_true rfl, Nat.le_of_ble_eq_true rfl⟩ hl.1 rfl (Nat.le_of_ble_eq_true rfl) dX12_row_2 (Nat.zero_le _) (Nat.zero_le _) ?_
  obtain ⟨h2, hf⟩ := ck_some hf
  refine m_if_ne X h2 dX12_row_5 (tgt := 10) (by decide) (fun (hc_ : ¬ (o1 = 0)) => ?_) (fun (hc_ : o1 = 0) => ?_)
  · rw [if_neg hc_] at hf
    refine lv_aload_n hx hb dX12_row_10 rfl (lv_at hl 0 rfl) ?_
    obtain ⟨o3, ho, hf⟩ := bd_some hf
    refine m_cVW X hK hP hD hS hA (wr := [(a_t_placeOf, .inl (E 0, 64, .inl (A4 t_placeOf))), (a_t_memories, .inl (E 0, 64, .inl (A4 t_memories))), (a_t_nextPlace, .inl (E 0, 320, .inl (A4 t_nextPlace))), (a_t_kindOf, .inl (E 0, 64, .inl (A4 t_kindOf))), (a_t_newKind, .inl (E 0, 64, .inl (A4 t_newKind))), (a_t_stateOfKind, .inl (E 0, 64, .inl (A4 t_stateOfKind))), (a_t_stateAt, .inl (E 0, 64, .inl (A4 t_stateAt))), (a_t_stepTo, .inl (E 0, 320, .inl (A4 t_stepTo)))]) (k_X12_goThrough n a_t a_t_now a_t_read a_t_past a_t_images a_t_isKept a_t_text a_t_metAt a_t_memoryAt a_t_upAt a_t_downAt a_t_isSignal a_t_memories a_t_placeOf a_t_nextPlace a_t_kindOf a_t_newKind a_t_stateOfKind a_t_stateAt a_t_stepTo a_t_far a_t_ways a_t_nextWays a_t_table t_deeds t_letters t_at t_tokenAt t_tokenSort t_tokenValue t_items t_isChanceTold t_areSumsTold t_places t_kinds t_states t_now t_metAt t_memoryAt t_isSignal t_upAt t_downAt o3 ho) [0, 1, 2, 3, 4, 5, 6] [7, 8, 9, 10, 11, 12, 13, 14] [8, 9, 10, 11, 12, 13, 14, 0, 1, 2, 3, 4, 5, 6, 7] [(a_t, .inr (12, [.ref a_t_now, .ref a_t_read, .ref a_t_past, .int (z4 t_deeds), .ref a_t_images, .ref a_t_isKept, .ref a_t_text, .int (z4 t_letters), .int (z4 t_at), .int (z4 t_tokenAt), .int (z4 t_tokenSort), .int (z4 t_tokenValue), .int (z4 t_items), .int (z4 t_isChanceTold), .int (z4 t_areSumsTold), .ref a_t_metAt, .ref a_t_memoryAt, .ref a_t_upAt, .ref a_t_downAt, .ref a_t_isSignal, .ref a_t_memories, .ref a_t_placeOf, .ref a_t_nextPlace, .int (z4 t_places), .ref a_t_kindOf, .ref a_t_newKind, .int (z4 t_kinds), .ref a_t_stateOfKind, .ref a_t_stateAt, .ref a_t_stepTo, .int (z4 t_states), .ref a_t_far, .ref a_t_ways, .ref a_t_nextWays, .ref a_t_table])), (a_t_now, .inl (E 0, 98, .inl (A4 t_now))), (a_t_metAt, .inl (E 0, 40, .inl (A4 o3.1))), (a_t_memoryAt, .inl (E 0, 40, .inl (A4 o3.2.1))), (a_t_isSignal, .inl (E 1, 40, .inl (A4 o3.2.2.1))), (a_t_upAt, .inl (E 0, 40, .inl (A4 o3.2.2.2.1))), (a_t_downAt, .inl (E 0, 40, .inl (A4 o3.2.2.2.2))), (a_t_placeOf, .inl (E 0, 64, .inl (A4 t_placeOf))), (a_t_memories, .inl (E 0, 64, .inl (A4 t_memories))), (a_t_nextPlace, .inl (E 0, 320, .inl (A4 t_nextPlace))), (a_t_kindOf, .inl (E 0, 64, .inl (A4 t_kindOf))), (a_t_newKind, .inl (E 0, 64, .inl (A4 t_newKind))), (a_t_stateOfKind, .inl (E 0, 64, .inl (A4 t_stateOfKind))), (a_t_stateAt, .inl (E 0, 64, .inl (A4 t_stateAt))), (a_t_stepTo, .inl (E 0, 320, .inl (A4 t_stepTo)))] rfl rfl rfl rfl (by decide) rfl rfl rfl cl_X12 lk_X12_212 co_X12_goThrough dy_X12_goThrough rfl rfl ⟨Nat.le_of_ble_eq_true rfl, Nat.le_of_ble_eq_true rfl⟩ hl.1 rfl (Nat.le_of_ble_eq_true rfl) dX12_row_11 (Nat.zero_le _) (Nat.zero_le _) (fun H locs hP hD hS => ?_)
    refine lv_iload_n hx hb dX12_row_14 rfl (lv_at hl 2 rfl) ?_
    obtain ⟨h4, hf⟩ := ck_some hf
    by_cases hc0 : x2 = 0
    · rw [if_pos hc0] at hf
      refine m_swIn X h4 0 hc0 (by decide) dX12_row_15 rfl (tgt := 56) (by decide) ?_
      refine lv_aload_n hx hb dX12_row_56 rfl (lv_at hl 0 rfl) ?_
      refine m_get X hK hP cl_X12 iT_X12 0 (by decide) fl_X12_7 0 rfl rfl dX12_row_57 ?_
      refine m_bipush X dX12_row_60 (by decide) ?_
      refine lv_iload_n hx hb dX12_row_62 rfl (lv_at hl 1 rfl) ?_
      refine m_iadd X dX12_row_63 ?_
      obtain ⟨h5, hf⟩ := ck_some hf
      refine m_iald X hK hP 1 rfl (by decide) h5 dX12_row_64 ?_
      obtain rfl := Option.some.inj hf
      exact ret _ _ _ _ hP hD hS dX12_row_65
    · rw [if_neg hc0] at hf
      by_cases hc1 : x2 = 1
      · rw [if_pos hc1] at hf
        refine m_swIn X h4 1 hc1 (by decide) dX12_row_15 rfl (tgt := 66) (by decide) ?_
        refine lv_aload_n hx hb dX12_row_66 rfl (lv_at hl 0 rfl) ?_
        refine m_get X hK hP cl_X12 iT_X12 0 (by decide) fl_X12_7 0 rfl rfl dX12_row_67 ?_
        refine m_bipush X dX12_row_70 (by decide) ?_
        refine lv_iload_n hx hb dX12_row_72 rfl (lv_at hl 1 rfl) ?_
        refine m_iadd X dX12_row_73 ?_
        obtain ⟨h6, hf⟩ := ck_some hf
        refine m_iald X hK hP 1 rfl (by decide) h6 dX12_row_74 ?_
        obtain rfl := Option.some.inj hf
        exact ret _ _ _ _ hP hD hS dX12_row_75
      · rw [if_neg hc1] at hf
        by_cases hc2 : x2 = 2
        · rw [if_pos hc2] at hf
          refine m_swIn X h4 2 hc2 (by decide) dX12_row_15 rfl (tgt := 76) (by decide) ?_
          refine lv_aload_n hx hb dX12_row_76 rfl (lv_at hl 0 rfl) ?_
          refine m_get X hK hP cl_X12 iT_X12 15 (by decide) fl_X12_29 0 rfl rfl dX12_row_77 ?_
          refine lv_iload_n hx hb dX12_row_80 rfl (lv_at hl 1 rfl) ?_
          obtain ⟨h7, hf⟩ := ck_some hf
          refine m_iald X hK hP 2 rfl (by decide) h7 dX12_row_81 ?_
          obtain rfl := Option.some.inj hf
          exact ret _ _ _ _ hP hD hS dX12_row_82
        · rw [if_neg hc2] at hf
          by_cases hc3 : x2 = 3
          · rw [if_pos hc3] at hf
            refine m_swIn X h4 3 hc3 (by decide) dX12_row_15 rfl (tgt := 83) (by decide) ?_
            refine lv_aload_n hx hb dX12_row_83 rfl (lv_at hl 0 rfl) ?_
            obtain ⟨o8, ho, hf⟩ := bd_some hf
            refine m_cVW X hK hP hD hS hA (wr := [(a_t_metAt, .inl (E 0, 40, .inl (A4 o3.1))), (a_t_memoryAt, .inl (E 0, 40, .inl (A4 o3.2.1))), (a_t_isSignal, .inl (E 1, 40, .inl (A4 o3.2.2.1))), (a_t_upAt, .inl (E 0, 40, .inl (A4 o3.2.2.2.1))), (a_t_downAt, .inl (E 0, 40, .inl (A4 o3.2.2.2.2)))]) (k_X12_build n a_t a_t_now a_t_read a_t_past a_t_images a_t_isKept a_t_text a_t_metAt a_t_memoryAt a_t_upAt a_t_downAt a_t_isSignal a_t_memories a_t_placeOf a_t_nextPlace a_t_kindOf a_t_newKind a_t_stateOfKind a_t_stateAt a_t_stepTo a_t_far a_t_ways a_t_nextWays a_t_table t_deeds t_letters t_at t_tokenAt t_tokenSort t_tokenValue t_items t_isChanceTold t_areSumsTold t_places t_kinds t_states t_placeOf t_memories t_now t_nextPlace t_kindOf t_newKind t_stateOfKind t_stateAt t_stepTo o8 ho) [0, 7, 8, 1, 9, 10, 11, 12, 13, 14] [2, 3, 4, 5, 6] [5, 8, 0, 1, 2, 3, 4, 6, 7, 9, 10, 11, 12, 13, 14] [(a_t, .inr (12, [.ref a_t_now, .ref a_t_read, .ref a_t_past, .int (z4 t_deeds), .ref a_t_images, .ref a_t_isKept, .ref a_t_text, .int (z4 t_letters), .int (z4 t_at), .int (z4 t_tokenAt), .int (z4 t_tokenSort), .int (z4 t_tokenValue), .int (z4 t_items), .int (z4 t_isChanceTold), .int (z4 t_areSumsTold), .ref a_t_metAt, .ref a_t_memoryAt, .ref a_t_upAt, .ref a_t_downAt, .ref a_t_isSignal, .ref a_t_memories, .ref a_t_placeOf, .ref a_t_nextPlace, .int (z4 o8.1), .ref a_t_kindOf, .ref a_t_newKind, .int (z4 o8.2.1), .ref a_t_stateOfKind, .ref a_t_stateAt, .ref a_t_stepTo, .int (z4 o8.2.2.1), .ref a_t_far, .ref a_t_ways, .ref a_t_nextWays, .ref a_t_table])), (a_t_now, .inl (E 0, 98, .inl (A4 t_now))), (a_t_metAt, .inl (E 0, 40, .inl (A4 o3.1))), (a_t_memoryAt, .inl (E 0, 40, .inl (A4 o3.2.1))), (a_t_isSignal, .inl (E 1, 40, .inl (A4 o3.2.2.1))), (a_t_upAt, .inl (E 0, 40, .inl (A4 o3.2.2.2.1))), (a_t_downAt, .inl (E 0, 40, .inl (A4 o3.2.2.2.2))), (a_t_placeOf, .inl (E 0, 64, .inl (A4 o8.2.2.2.1))), (a_t_memories, .inl (E 0, 64, .inl (A4 o8.2.2.2.2.1))), (a_t_nextPlace, .inl (E 0, 320, .inl (A4 o8.2.2.2.2.2.1))), (a_t_kindOf, .inl (E 0, 64, .inl (A4 o8.2.2.2.2.2.2.1))), (a_t_newKind, .inl (E 0, 64, .inl (A4 o8.2.2.2.2.2.2.2.1))), (a_t_stateOfKind, .inl (E 0, 64, .inl (A4 o8.2.2.2.2.2.2.2.2.1))), (a_t_stateAt, .inl (E 0, 64, .inl (A4 o8.2.2.2.2.2.2.2.2.2.1))), (a_t_stepTo, .inl (E 0, 320, .inl (A4 o8.2.2.2.2.2.2.2.2.2.2)))] rfl rfl rfl rfl (by decide) rfl rfl rfl cl_X12 lk_X12_215 co_X12_build dy_X12_build rfl rfl ⟨Nat.le_of_ble_eq_true rfl, Nat.le_of_ble_eq_true rfl⟩ hl.1 rfl (Nat.le_of_ble_eq_true rfl) dX12_row_84 (Nat.zero_le _) (Nat.zero_le _) (fun H locs hP hD hS => ?_)
            refine lv_aload_n hx hb dX12_row_87 rfl (lv_at hl 0 rfl) ?_
            refine lv_aload_n hx hb dX12_row_88 rfl (lv_at hl 0 rfl) ?_
            refine m_get X hK hP cl_X12 iT_X12 16 (by decide) fl_X12_32 0 rfl rfl dX12_row_89 ?_
            refine lv_iload_n hx hb dX12_row_92 rfl (lv_at hl 1 rfl) ?_
            obtain ⟨h9, hf⟩ := ck_some hf
            refine m_iald X hK hP 3 rfl (by decide) h9 dX12_row_93 ?_
            obtain ⟨o10, ho, hf⟩ := bd_some hf
            refine m_cVR X hK (k_X12_stateOf n a_t a_t_now a_t_read a_t_past a_t_images a_t_isKept a_t_text a_t_metAt a_t_memoryAt a_t_upAt a_t_downAt a_t_isSignal a_t_memories a_t_placeOf a_t_nextPlace a_t_kindOf a_t_newKind a_t_stateOfKind a_t_stateAt a_t_stepTo a_t_far a_t_ways a_t_nextWays a_t_table t_deeds t_letters t_at t_tokenAt t_tokenSort t_tokenValue t_items t_isChanceTold t_areSumsTold o8.1 o8.2.1 o8.2.2.1 o8.2.2.2.1 o8.2.2.2.2.2.2.1 o8.2.2.2.2.2.2.2.2.1 (o3.2.1 (x1).toNat) o10 ho) (hP.sub [0, 7, 10, 12] rfl) rfl cl_X12 lk_X12_218 co_X12_stateOf dy_X12_stateOf rfl rfl ⟨Nat.le_of_ble_eq_true rfl, Nat.le_of_ble_eq_true rfl⟩ hl.1 rfl (Nat.le_of_ble_eq_true rfl) dX12_row_94 (Nat.zero_le _) (Nat.zero_le _) ?_
            obtain rfl := Option.some.inj hf
            exact ret _ _ _ _ hP hD hS dX12_row_97
          · rw [if_neg hc3] at hf
            by_cases hc4 : x2 = 4
            · rw [if_pos hc4] at hf
              refine m_swIn X h4 4 hc4 (by decide) dX12_row_15 rfl (tgt := 98) (by decide) ?_
              refine lv_aload_n hx hb dX12_row_98 rfl (lv_at hl 0 rfl) ?_
              refine m_get X hK hP cl_X12 iT_X12 17 (by decide) fl_X12_35 0 rfl rfl dX12_row_99 ?_
              refine lv_iload_n hx hb dX12_row_102 rfl (lv_at hl 1 rfl) ?_
              obtain ⟨h11, hf⟩ := ck_some hf
              refine m_iald X hK hP 5 rfl (by decide) h11 dX12_row_103 ?_
              obtain rfl := Option.some.inj hf
              exact ret _ _ _ _ hP hD hS dX12_row_104
            · rw [if_neg hc4] at hf
              by_cases hc5 : x2 = 5
              · rw [if_pos hc5] at hf
                refine m_swIn X h4 5 hc5 (by decide) dX12_row_15 rfl (tgt := 105) (by decide) ?_
                refine lv_aload_n hx hb dX12_row_105 rfl (lv_at hl 0 rfl) ?_
                refine m_get X hK hP cl_X12 iT_X12 18 (by decide) fl_X12_38 0 rfl rfl dX12_row_106 ?_
                refine lv_iload_n hx hb dX12_row_109 rfl (lv_at hl 1 rfl) ?_
                obtain ⟨h12, hf⟩ := ck_some hf
                refine m_iald X hK hP 6 rfl (by decide) h12 dX12_row_110 ?_
                obtain rfl := Option.some.inj hf
                exact ret _ _ _ _ hP hD hS dX12_row_111
              · rw [if_neg hc5] at hf
                by_cases hc6 : x2 = 6
                · rw [if_pos hc6] at hf
                  refine m_swIn X h4 6 hc6 (by decide) dX12_row_15 rfl (tgt := 112) (by decide) ?_
                  refine lv_aload_n hx hb dX12_row_112 rfl (lv_at hl 0 rfl) ?_
                  refine m_get X hK hP cl_X12 iT_X12 19 (by decide) fl_X12_41 0 rfl rfl dX12_row_113 ?_
                  refine lv_iload_n hx hb dX12_row_116 rfl (lv_at hl 1 rfl) ?_
                  obtain ⟨h13, hf⟩ := ck_some hf
                  refine m_zald X hK hP 4 rfl (by decide) h13 dX12_row_117 ?_
                  obtain ⟨o14, hj14, hr14⟩ := bd_some hf
                  have J14 : ∀ (o_ : Int), o14 = o_ → ∀ (H : Heap) (locs : List Loc) (ls : Array Slot), lv_has ls 3 [] → va_P D vwCl [(a_t, .inr (12, [.ref a_t_now, .ref a_t_read, .ref a_t_past, .int (z4 t_deeds), .ref a_t_images, .ref a_t_isKept, .ref a_t_text, .int (z4 t_letters), .int (z4 t_at), .int (z4 t_tokenAt), .int (z4 t_tokenSort), .int (z4 t_tokenValue), .int (z4 t_items), .int (z4 t_isChanceTold), .int (z4 t_areSumsTold), .ref a_t_metAt, .ref a_t_memoryAt, .ref a_t_upAt, .ref a_t_downAt, .ref a_t_isSignal, .ref a_t_memories, .ref a_t_placeOf, .ref a_t_nextPlace, .int (z4 t_places), .ref a_t_kindOf, .ref a_t_newKind, .int (z4 t_kinds), .ref a_t_stateOfKind, .ref a_t_stateAt, .ref a_t_stepTo, .int (z4 t_states), .ref a_t_far, .ref a_t_ways, .ref a_t_nextWays, .ref a_t_table])), (a_t_now, .inl (E 0, 98, .inl (A4 t_now))), (a_t_metAt, .inl (E 0, 40, .inl (A4 o3.1))), (a_t_memoryAt, .inl (E 0, 40, .inl (A4 o3.2.1))), (a_t_isSignal, .inl (E 1, 40, .inl (A4 o3.2.2.1))), (a_t_upAt, .inl (E 0, 40, .inl (A4 o3.2.2.2.1))), (a_t_downAt, .inl (E 0, 40, .inl (A4 o3.2.2.2.2))), (a_t_placeOf, .inl (E 0, 64, .inl (A4 t_placeOf))), (a_t_memories, .inl (E 0, 64, .inl (A4 t_memories))), (a_t_nextPlace, .inl (E 0, 320, .inl (A4 t_nextPlace))), (a_t_kindOf, .inl (E 0, 64, .inl (A4 t_kindOf))), (a_t_newKind, .inl (E 0, 64, .inl (A4 t_newKind))), (a_t_stateOfKind, .inl (E 0, 64, .inl (A4 t_stateOfKind))), (a_t_stateAt, .inl (E 0, 64, .inl (A4 t_stateAt))), (a_t_stepTo, .inl (E 0, 320, .inl (A4 t_stepTo)))] H → va_D A [(a_t, .inr (12, [.ref a_t_now, .ref a_t_read, .ref a_t_past, .int (z4 t_deeds), .ref a_t_images, .ref a_t_isKept, .ref a_t_text, .int (z4 t_letters), .int (z4 t_at), .int (z4 t_tokenAt), .int (z4 t_tokenSort), .int (z4 t_tokenValue), .int (z4 t_items), .int (z4 t_isChanceTold), .int (z4 t_areSumsTold), .ref a_t_metAt, .ref a_t_memoryAt, .ref a_t_upAt, .ref a_t_downAt, .ref a_t_isSignal, .ref a_t_memories, .ref a_t_placeOf, .ref a_t_nextPlace, .int (z4 t_places), .ref a_t_kindOf, .ref a_t_newKind, .int (z4 t_kinds), .ref a_t_stateOfKind, .ref a_t_stateAt, .ref a_t_stepTo, .int (z4 t_states), .ref a_t_far, .ref a_t_ways, .ref a_t_nextWays, .ref a_t_table])), (a_t_now, .inl (E 0, 98, .inl (A4 t_now))), (a_t_metAt, .inl (E 0, 40, .inl (A4 o3.1))), (a_t_memoryAt, .inl (E 0, 40, .inl (A4 o3.2.1))), (a_t_isSignal, .inl (E 1, 40, .inl (A4 o3.2.2.1))), (a_t_upAt, .inl (E 0, 40, .inl (A4 o3.2.2.2.1))), (a_t_downAt, .inl (E 0, 40, .inl (A4 o3.2.2.2.2))), (a_t_placeOf, .inl (E 0, 64, .inl (A4 t_placeOf))), (a_t_memories, .inl (E 0, 64, .inl (A4 t_memories))), (a_t_nextPlace, .inl (E 0, 320, .inl (A4 t_nextPlace))), (a_t_kindOf, .inl (E 0, 64, .inl (A4 t_kindOf))), (a_t_newKind, .inl (E 0, 64, .inl (A4 t_newKind))), (a_t_stateOfKind, .inl (E 0, 64, .inl (A4 t_stateOfKind))), (a_t_stateAt, .inl (E 0, 64, .inl (A4 t_stateAt))), (a_t_stepTo, .inl (E 0, 320, .inl (A4 t_stepTo)))] → va_S A s.heap H locs → W p l e rm_X12_row s m args below meth c H locs 0 0 Q (F0 m 126 ls [.int (z4 o_)]) := by
                    intro o_ ho_ H locs ls hl hP hD hS
                    subst ho_
                    obtain rfl := Option.some.inj hr14
                    exact ret _ _ _ _ hP hD hS dX12_row_126
                  obtain ⟨h15, hj14⟩ := ck_some hj14
                  refine m_if_eq X h15 dX12_row_118 (tgt := 125) (by decide) (fun (hc_ : o3.2.2.1 (x1).toNat = 0) => ?_) (fun (hc_ : ¬ (o3.2.2.1 (x1).toNat = 0)) => ?_)
                  · rw [if_pos hc_] at hj14
                    refine m_iconst X dX12_row_125 ?_
                    exact J14 _ (Option.some.inj hj14).symm _ _ _ (lv_sub hl [] rfl) hP hD hS
                  · rw [if_neg hc_] at hj14
                    refine m_iconst X dX12_row_121 ?_
                    refine lv_goto (tgt := 126) hx hb dX12_row_122 (by decide) ?_
                    exact J14 _ (Option.some.inj hj14).symm _ _ _ (lv_sub hl [] rfl) hP hD hS
                · rw [if_neg hc6] at hf
                  refine m_swOut X h4 (by omega) dX12_row_15 (tgt := 127) (by decide) ?_
                  refine m_iconst X dX12_row_127 ?_
                  obtain rfl := Option.some.inj hf
                  exact ret _ _ _ _ hP hD hS dX12_row_128
  · rw [if_pos hc_] at hf
    refine m_iconst X dX12_row_8 ?_
    obtain rfl := Option.some.inj hf
    exact ret _ _ _ _ hP hD hS dX12_row_9
def F_X12_alarm_L15 (n : Nat) (t_now : Nat → Int) (o2 : (Nat → Int) × (Nat → Int) × (Nat → Int) × (Nat → Int) × (Nat → Int)) (x1 : Int) (v15_2 : Int) (v15_3 : Int) : Option ((Int × Int) ⊕ ((Int) ⊕ (Int))) :=
  ck (r4 v15_3 ∧ r4 (t_now 17)) <|
  if v15_3 < t_now 17 then
    ck (ix_ v15_3 40) <|
    ck (r4 (o2.1 (v15_3).toNat)) <|
    if o2.1 (v15_3).toNat = 0 then
      some (.inl (v15_2, v15_3 + 1))
    else
      ck (r4 v15_2 ∧ r4 x1) <|
      if v15_2 = x1 then
        some (.inr (.inr v15_3))
      else
        some (.inl (v15_2 + 1, v15_3 + 1))
  else
    some (.inr (.inl v15_2))
def F_X12_alarm (n : Nat)  (t_now : Nat → Int) (t_metAt : Nat → Int) (t_memoryAt : Nat → Int) (t_isSignal : Nat → Int) (t_upAt : Nat → Int) (t_downAt : Nat → Int) (x1 : Int) : Option (Int × (Nat → Int) × (Nat → Int) × (Nat → Int) × (Nat → Int) × (Nat → Int)) :=
  ck (r4 x1) <|
  if x1 < (-1) then
    some ((-1), t_metAt, t_memoryAt, t_isSignal, t_upAt, t_downAt)
  else
    (F_X12_goThrough n t_now t_metAt t_memoryAt t_isSignal t_upAt t_downAt).bind fun o2 =>
    (lp_ (fun (q : Int × Int) => F_X12_alarm_L15 n t_now o2 x1 q.1 q.2) n (0, 0)).bind fun o3 => match o3 with
    | .inl o3_0 =>
      Option.bind (α := Int) (
        ck (r4 x1) <|
        if x1 = (-1) then
          some o3_0
        else
          some (-9)) fun o8 =>
      some (o8, o2.1, o2.2.1, o2.2.2.1, o2.2.2.2.1, o2.2.2.2.2)
    | .inr o3_1 =>
      ck (ix_ (18 + o3_1) 98) <|
      some (t_now (18 + o3_1).toNat, o2.1, o2.2.1, o2.2.2.1, o2.2.2.2.1, o2.2.2.2.2)
def rm_X12_alarm : Room := { frames := 3, cells := 0, slots := 0, locals := 75 }
set_option maxHeartbeats 4000000 in
set_option maxRecDepth 100000 in
theorem k_X12_alarm {l : Launch} {D : va_G} {E : Nat → ClassId} (n : Nat) (a_t a_t_now a_t_read a_t_past a_t_images a_t_isKept a_t_text a_t_metAt a_t_memoryAt a_t_upAt a_t_downAt a_t_isSignal a_t_memories a_t_placeOf a_t_nextPlace a_t_kindOf a_t_newKind a_t_stateOfKind a_t_stateAt a_t_stepTo a_t_far a_t_ways a_t_nextWays a_t_table : Nat) (t_deeds : Int) (t_letters : Int) (t_at : Int) (t_tokenAt : Int) (t_tokenSort : Int) (t_tokenValue : Int) (t_items : Int) (t_isChanceTold : Int) (t_areSumsTold : Int) (t_places : Int) (t_kinds : Int) (t_states : Int) (t_now : Nat → Int) (t_metAt : Nat → Int) (t_memoryAt : Nat → Int) (t_isSignal : Nat → Int) (t_upAt : Nat → Int) (t_downAt : Nat → Int) (x1 : Int) (res : Int × (Nat → Int) × (Nat → Int) × (Nat → Int) × (Nat → Int) × (Nat → Int)) (hf : F_X12_alarm n t_now t_metAt t_memoryAt t_isSignal t_upAt t_downAt x1 = some res) : MW l yX12_alarm (.code yX12_alarm cX12_alarm 4 (some .int)) rm_X12_alarm D E [.ref a_t, .int (z4 x1)] [(a_t, .inr (12, [.ref a_t_now, .ref a_t_read, .ref a_t_past, .int (z4 t_deeds), .ref a_t_images, .ref a_t_isKept, .ref a_t_text, .int (z4 t_letters), .int (z4 t_at), .int (z4 t_tokenAt), .int (z4 t_tokenSort), .int (z4 t_tokenValue), .int (z4 t_items), .int (z4 t_isChanceTold), .int (z4 t_areSumsTold), .ref a_t_metAt, .ref a_t_memoryAt, .ref a_t_upAt, .ref a_t_downAt, .ref a_t_isSignal, .ref a_t_memories, .ref a_t_placeOf, .ref a_t_nextPlace, .int (z4 t_places), .ref a_t_kindOf, .ref a_t_newKind, .int (z4 t_kinds), .ref a_t_stateOfKind, .ref a_t_stateAt, .ref a_t_stepTo, .int (z4 t_states), .ref a_t_far, .ref a_t_ways, .ref a_t_nextWays, .ref a_t_table])), (a_t_now, .inl (E 0, 98, .inl (A4 t_now))), (a_t_metAt, .inl (E 0, 40, .inl (A4 t_metAt))), (a_t_memoryAt, .inl (E 0, 40, .inl (A4 t_memoryAt))), (a_t_isSignal, .inl (E 1, 40, .inl (A4 t_isSignal))), (a_t_upAt, .inl (E 0, 40, .inl (A4 t_upAt))), (a_t_downAt, .inl (E 0, 40, .inl (A4 t_downAt)))] (some (.int (z4 res.1))) [(a_t, .inr (12, [.ref a_t_now, .ref a_t_read, .ref a_t_past, .int (z4 t_deeds), .ref a_t_images, .ref a_t_isKept, .ref a_t_text, .int (z4 t_letters), .int (z4 t_at), .int (z4 t_tokenAt), .int (z4 t_tokenSort), .int (z4 t_tokenValue), .int (z4 t_items), .int (z4 t_isChanceTold), .int (z4 t_areSumsTold), .ref a_t_metAt, .ref a_t_memoryAt, .ref a_t_upAt, .ref a_t_downAt, .ref a_t_isSignal, .ref a_t_memories, .ref a_t_placeOf, .ref a_t_nextPlace, .int (z4 t_places), .ref a_t_kindOf, .ref a_t_newKind, .int (z4 t_kinds), .ref a_t_stateOfKind, .ref a_t_stateAt, .ref a_t_stepTo, .int (z4 t_states), .ref a_t_far, .ref a_t_ways, .ref a_t_nextWays, .ref a_t_table])), (a_t_now, .inl (E 0, 98, .inl (A4 t_now))), (a_t_metAt, .inl (E 0, 40, .inl (A4 res.2.1))), (a_t_memoryAt, .inl (E 0, 40, .inl (A4 res.2.2.1))), (a_t_isSignal, .inl (E 1, 40, .inl (A4 res.2.2.2.1))), (a_t_upAt, .inl (E 0, 40, .inl (A4 res.2.2.2.2.1))), (a_t_downAt, .inl (E 0, 40, .inl (A4 res.2.2.2.2.2)))] := by
  refine MWi (by decide) (Nat.le_of_ble_eq_true rfl) ?_
  intro p e s m args below meth c A Q X hK hP hD hA ret ls hl
  have hS : va_S A s.heap s.heap [] := va_S.rf
  have hx := X.1
  have hb := X.2.1
  have hl : lv_has ls 4 [(0, .ref a_t), (1, .int (z4 x1))] := hl
  unfold F_X12_alarm at hf
  refine lv_iload_n hx hb dX12_alarm_0 rfl (lv_at hl 1 rfl) ?_
  refine m_iconst X dX12_alarm_1 ?_
  obtain ⟨h1, hf⟩ := ck_some hf
  refine m_icmp_ge X ⟨h1, ⟨by decide, by decide⟩⟩ dX12_alarm_2 (tgt := 7) (by decide) (fun (hc_ : ¬ (x1 < (-1))) => ?_) (fun (hc_ : x1 < (-1)) => ?_)
  · rw [if_neg hc_] at hf
    refine lv_aload_n hx hb dX12_alarm_7 rfl (lv_at hl 0 rfl) ?_
    obtain ⟨o2, ho, hf⟩ := bd_some hf
    refine m_cVW X hK hP hD hS hA (wr := []) (k_X12_goThrough n a_t a_t_now a_t_read a_t_past a_t_images a_t_isKept a_t_text a_t_metAt a_t_memoryAt a_t_upAt a_t_downAt a_t_isSignal a_t_memories a_t_placeOf a_t_nextPlace a_t_kindOf a_t_newKind a_t_stateOfKind a_t_stateAt a_t_stepTo a_t_far a_t_ways a_t_nextWays a_t_table t_deeds t_letters t_at t_tokenAt t_tokenSort t_tokenValue t_items t_isChanceTold t_areSumsTold t_places t_kinds t_states t_now t_metAt t_memoryAt t_isSignal t_upAt t_downAt o2 ho) [0, 1, 2, 3, 4, 5, 6] [] [0, 1, 2, 3, 4, 5, 6] [(a_t, .inr (12, [.ref a_t_now, .ref a_t_read, .ref a_t_past, .int (z4 t_deeds), .ref a_t_images, .ref a_t_isKept, .ref a_t_text, .int (z4 t_letters), .int (z4 t_at), .int (z4 t_tokenAt), .int (z4 t_tokenSort), .int (z4 t_tokenValue), .int (z4 t_items), .int (z4 t_isChanceTold), .int (z4 t_areSumsTold), .ref a_t_metAt, .ref a_t_memoryAt, .ref a_t_upAt, .ref a_t_downAt, .ref a_t_isSignal, .ref a_t_memories, .ref a_t_placeOf, .ref a_t_nextPlace, .int (z4 t_places), .ref a_t_kindOf, .ref a_t_newKind, .int (z4 t_kinds), .ref a_t_stateOfKind, .ref a_t_stateAt, .ref a_t_stepTo, .int (z4 t_states), .ref a_t_far, .ref a_t_ways, .ref a_t_nextWays, .ref a_t_table])), (a_t_now, .inl (E 0, 98, .inl (A4 t_now))), (a_t_metAt, .inl (E 0, 40, .inl (A4 o2.1))), (a_t_memoryAt, .inl (E 0, 40, .inl (A4 o2.2.1))), (a_t_isSignal, .inl (E 1, 40, .inl (A4 o2.2.2.1))), (a_t_upAt, .inl (E 0, 40, .inl (A4 o2.2.2.2.1))), (a_t_downAt, .inl (E 0, 40, .inl (A4 o2.2.2.2.2)))] rfl rfl rfl rfl (by decide) rfl rfl rfl cl_X12 lk_X12_212 co_X12_goThrough dy_X12_goThrough rfl rfl ⟨Nat.le_of_ble_eq_true rfl, Nat.le_of_ble_eq_true rfl⟩ hl.1 rfl (Nat.le_of_ble_eq_true rfl) dX12_alarm_8 (Nat.zero_le _) (Nat.zero_le _) (fun H locs hP hD hS => ?_)
    refine m_iconst X dX12_alarm_11 ?_
    refine lv_istore_n (lv' := [(2, .int (z4 0)), (0, .ref a_t), (1, .int (z4 x1))]) hx hb dX12_alarm_12 rfl hl (by decide) rfl (fun ls hl => ?_)
    refine m_iconst X dX12_alarm_13 ?_
    refine lv_istore_n (lv' := [(3, .int (z4 0)), (2, .int (z4 0)), (0, .ref a_t), (1, .int (z4 x1))]) hx hb dX12_alarm_14 rfl hl (by decide) rfl (fun ls hl => ?_)
    obtain ⟨o3, hj3, hr3⟩ := bd_some hf
    have E3_0 : ∀ (o_ : Int), o3 = (.inl o_) → ∀ (H : Heap) (locs : List Loc) (ls : Array Slot), lv_has ls 4 [(1, .int (z4 x1)), (2, .int (z4 o_))] → va_P D vwCl [(a_t, .inr (12, [.ref a_t_now, .ref a_t_read, .ref a_t_past, .int (z4 t_deeds), .ref a_t_images, .ref a_t_isKept, .ref a_t_text, .int (z4 t_letters), .int (z4 t_at), .int (z4 t_tokenAt), .int (z4 t_tokenSort), .int (z4 t_tokenValue), .int (z4 t_items), .int (z4 t_isChanceTold), .int (z4 t_areSumsTold), .ref a_t_metAt, .ref a_t_memoryAt, .ref a_t_upAt, .ref a_t_downAt, .ref a_t_isSignal, .ref a_t_memories, .ref a_t_placeOf, .ref a_t_nextPlace, .int (z4 t_places), .ref a_t_kindOf, .ref a_t_newKind, .int (z4 t_kinds), .ref a_t_stateOfKind, .ref a_t_stateAt, .ref a_t_stepTo, .int (z4 t_states), .ref a_t_far, .ref a_t_ways, .ref a_t_nextWays, .ref a_t_table])), (a_t_now, .inl (E 0, 98, .inl (A4 t_now))), (a_t_metAt, .inl (E 0, 40, .inl (A4 o2.1))), (a_t_memoryAt, .inl (E 0, 40, .inl (A4 o2.2.1))), (a_t_isSignal, .inl (E 1, 40, .inl (A4 o2.2.2.1))), (a_t_upAt, .inl (E 0, 40, .inl (A4 o2.2.2.2.1))), (a_t_downAt, .inl (E 0, 40, .inl (A4 o2.2.2.2.2)))] H → va_D A [(a_t, .inr (12, [.ref a_t_now, .ref a_t_read, .ref a_t_past, .int (z4 t_deeds), .ref a_t_images, .ref a_t_isKept, .ref a_t_text, .int (z4 t_letters), .int (z4 t_at), .int (z4 t_tokenAt), .int (z4 t_tokenSort), .int (z4 t_tokenValue), .int (z4 t_items), .int (z4 t_isChanceTold), .int (z4 t_areSumsTold), .ref a_t_metAt, .ref a_t_memoryAt, .ref a_t_upAt, .ref a_t_downAt, .ref a_t_isSignal, .ref a_t_memories, .ref a_t_placeOf, .ref a_t_nextPlace, .int (z4 t_places), .ref a_t_kindOf, .ref a_t_newKind, .int (z4 t_kinds), .ref a_t_stateOfKind, .ref a_t_stateAt, .ref a_t_stepTo, .int (z4 t_states), .ref a_t_far, .ref a_t_ways, .ref a_t_nextWays, .ref a_t_table])), (a_t_now, .inl (E 0, 98, .inl (A4 t_now))), (a_t_metAt, .inl (E 0, 40, .inl (A4 o2.1))), (a_t_memoryAt, .inl (E 0, 40, .inl (A4 o2.2.1))), (a_t_isSignal, .inl (E 1, 40, .inl (A4 o2.2.2.1))), (a_t_upAt, .inl (E 0, 40, .inl (A4 o2.2.2.2.1))), (a_t_downAt, .inl (E 0, 40, .inl (A4 o2.2.2.2.2)))] → va_S A s.heap H locs → W p l e rm_X12_alarm s m args below meth c H locs 0 0 Q (F0 m 59 ls []) := by
      intro o3_0 ho_ H locs ls hl hP hD hS
      subst ho_
      refine lv_iload_n hx hb dX12_alarm_59 rfl (lv_at hl 0 rfl) ?_
      refine m_iconst X dX12_alarm_60 ?_
      obtain ⟨o8, hj8, hr8⟩ := bd_some hr3
      have J8 : ∀ (o_ : Int), o8 = o_ → ∀ (H : Heap) (locs : List Loc) (ls : Array Slot), lv_has ls 4 [] → va_P D vwCl [(a_t, .inr (12, [.ref a_t_now, .ref a_t_read, .ref a_t_past, .int (z4 t_deeds), .ref a_t_images, .ref a_t_isKept, .ref a_t_text, .int (z4 t_letters), .int (z4 t_at), .int (z4 t_tokenAt), .int (z4 t_tokenSort), .int (z4 t_tokenValue), .int (z4 t_items), .int (z4 t_isChanceTold), .int (z4 t_areSumsTold), .ref a_t_metAt, .ref a_t_memoryAt, .ref a_t_upAt, .ref a_t_downAt, .ref a_t_isSignal, .ref a_t_memories, .ref a_t_placeOf, .ref a_t_nextPlace, .int (z4 t_places), .ref a_t_kindOf, .ref a_t_newKind, .int (z4 t_kinds), .ref a_t_stateOfKind, .ref a_t_stateAt, .ref a_t_stepTo, .int (z4 t_states), .ref a_t_far, .ref a_t_ways, .ref a_t_nextWays, .ref a_t_table])), (a_t_now, .inl (E 0, 98, .inl (A4 t_now))), (a_t_metAt, .inl (E 0, 40, .inl (A4 o2.1))), (a_t_memoryAt, .inl (E 0, 40, .inl (A4 o2.2.1))), (a_t_isSignal, .inl (E 1, 40, .inl (A4 o2.2.2.1))), (a_t_upAt, .inl (E 0, 40, .inl (A4 o2.2.2.2.1))), (a_t_downAt, .inl (E 0, 40, .inl (A4 o2.2.2.2.2)))] H → va_D A [(a_t, .inr (12, [.ref a_t_now, .ref a_t_read, .ref a_t_past, .int (z4 t_deeds), .ref a_t_images, .ref a_t_isKept, .ref a_t_text, .int (z4 t_letters), .int (z4 t_at), .int (z4 t_tokenAt), .int (z4 t_tokenSort), .int (z4 t_tokenValue), .int (z4 t_items), .int (z4 t_isChanceTold), .int (z4 t_areSumsTold), .ref a_t_metAt, .ref a_t_memoryAt, .ref a_t_upAt, .ref a_t_downAt, .ref a_t_isSignal, .ref a_t_memories, .ref a_t_placeOf, .ref a_t_nextPlace, .int (z4 t_places), .ref a_t_kindOf, .ref a_t_newKind, .int (z4 t_kinds), .ref a_t_stateOfKind, .ref a_t_stateAt, .ref a_t_stepTo, .int (z4 t_states), .ref a_t_far, .ref a_t_ways, .ref a_t_nextWays, .ref a_t_table])), (a_t_now, .inl (E 0, 98, .inl (A4 t_now))), (a_t_metAt, .inl (E 0, 40, .inl (A4 o2.1))), (a_t_memoryAt, .inl (E 0, 40, .inl (A4 o2.2.1))), (a_t_isSignal, .inl (E 1, 40, .inl (A4 o2.2.2.1))), (a_t_upAt, .inl (E 0, 40, .inl (A4 o2.2.2.2.1))), (a_t_downAt, .inl (E 0, 40, .inl (A4 o2.2.2.2.2)))] → va_S A s.heap H locs → W p l e rm_X12_alarm s m args below meth c H locs 0 0 Q (F0 m 70 ls [.int (z4 o_)]) := by
        intro o_ ho_ H locs ls hl hP hD hS
        subst ho_
        obtain rfl := Option.some.inj hr8
        exact ret _ _ _ _ hP hD hS dX12_alarm_70
      obtain ⟨h9, hj8⟩ := ck_some hj8
      refine m_icmp_ne X ⟨h9, ⟨by decide, by decide⟩⟩ dX12_alarm_61 (tgt := 68) (by decide) (fun (hc_ : ¬ (x1 = (-1))) => ?_) (fun (hc_ : x1 = (-1)) => ?_)
      · rw [if_neg hc_] at hj8
        refine m_bipush X dX12_alarm_68 (by decide) ?_
        exact J8 _ (Option.some.inj hj8).symm _ _ _ (lv_sub hl [] rfl) hP hD hS
      · rw [if_pos hc_] at hj8
        refine lv_iload_n hx hb dX12_alarm_64 rfl (lv_at hl 1 rfl) ?_
        refine lv_goto (tgt := 70) hx hb dX12_alarm_65 (by decide) ?_
        exact J8 _ (Option.some.inj hj8).symm _ _ _ (lv_sub hl [] rfl) hP hD hS
    have E3_1 : ∀ (o_ : Int), o3 = (.inr o_) → ∀ (H : Heap) (locs : List Loc) (ls : Array Slot), lv_has ls 4 [(0, .ref a_t), (3, .int (z4 o_))] → va_P D vwCl [(a_t, .inr (12, [.ref a_t_now, .ref a_t_read, .ref a_t_past, .int (z4 t_deeds), .ref a_t_images, .ref a_t_isKept, .ref a_t_text, .int (z4 t_letters), .int (z4 t_at), .int (z4 t_tokenAt), .int (z4 t_tokenSort), .int (z4 t_tokenValue), .int (z4 t_items), .int (z4 t_isChanceTold), .int (z4 t_areSumsTold), .ref a_t_metAt, .ref a_t_memoryAt, .ref a_t_upAt, .ref a_t_downAt, .ref a_t_isSignal, .ref a_t_memories, .ref a_t_placeOf, .ref a_t_nextPlace, .int (z4 t_places), .ref a_t_kindOf, .ref a_t_newKind, .int (z4 t_kinds), .ref a_t_stateOfKind, .ref a_t_stateAt, .ref a_t_stepTo, .int (z4 t_states), .ref a_t_far, .ref a_t_ways, .ref a_t_nextWays, .ref a_t_table])), (a_t_now, .inl (E 0, 98, .inl (A4 t_now))), (a_t_metAt, .inl (E 0, 40, .inl (A4 o2.1))), (a_t_memoryAt, .inl (E 0, 40, .inl (A4 o2.2.1))), (a_t_isSignal, .inl (E 1, 40, .inl (A4 o2.2.2.1))), (a_t_upAt, .inl (E 0, 40, .inl (A4 o2.2.2.2.1))), (a_t_downAt, .inl (E 0, 40, .inl (A4 o2.2.2.2.2)))] H → va_D A [(a_t, .inr (12, [.ref a_t_now, .ref a_t_read, .ref a_t_past, .int (z4 t_deeds), .ref a_t_images, .ref a_t_isKept, .ref a_t_text, .int (z4 t_letters), .int (z4 t_at), .int (z4 t_tokenAt), .int (z4 t_tokenSort), .int (z4 t_tokenValue), .int (z4 t_items), .int (z4 t_isChanceTold), .int (z4 t_areSumsTold), .ref a_t_metAt, .ref a_t_memoryAt, .ref a_t_upAt, .ref a_t_downAt, .ref a_t_isSignal, .ref a_t_memories, .ref a_t_placeOf, .ref a_t_nextPlace, .int (z4 t_places), .ref a_t_kindOf, .ref a_t_newKind, .int (z4 t_kinds), .ref a_t_stateOfKind, .ref a_t_stateAt, .ref a_t_stepTo, .int (z4 t_states), .ref a_t_far, .ref a_t_ways, .ref a_t_nextWays, .ref a_t_table])), (a_t_now, .inl (E 0, 98, .inl (A4 t_now))), (a_t_metAt, .inl (E 0, 40, .inl (A4 o2.1))), (a_t_memoryAt, .inl (E 0, 40, .inl (A4 o2.2.1))), (a_t_isSignal, .inl (E 1, 40, .inl (A4 o2.2.2.1))), (a_t_upAt, .inl (E 0, 40, .inl (A4 o2.2.2.2.1))), (a_t_downAt, .inl (E 0, 40, .inl (A4 o2.2.2.2.2)))] → va_S A s.heap H locs → W p l e rm_X12_alarm s m args below meth c H locs 0 0 Q (F0 m 40 ls []) := by
      intro o3_1 ho_ H locs ls hl hP hD hS
      subst ho_
      refine lv_aload_n hx hb dX12_alarm_40 rfl (lv_at hl 0 rfl) ?_
      refine m_get X hK hP cl_X12 iT_X12 0 (by decide) fl_X12_7 0 rfl rfl dX12_alarm_41 ?_
      refine m_bipush X dX12_alarm_44 (by decide) ?_
      refine lv_iload_n hx hb dX12_alarm_46 rfl (lv_at hl 1 rfl) ?_
      refine m_iadd X dX12_alarm_47 ?_
      obtain ⟨h10, hr3⟩ := ck_some hr3
      refine m_iald X hK hP 1 rfl (by decide) h10 dX12_alarm_48 ?_
      obtain rfl := Option.some.inj hr3
      exact ret _ _ _ _ hP hD hS dX12_alarm_49
    have L3 : ∀ (k_ : Nat) (v15_2 : Int) (v15_3 : Int), ∀ (H : Heap) (locs : List Loc) (ls : Array Slot), lv_has ls 4 [(0, .ref a_t), (1, .int (z4 x1)), (2, .int (z4 v15_2)), (3, .int (z4 v15_3))] → va_P D vwCl [(a_t, .inr (12, [.ref a_t_now, .ref a_t_read, .ref a_t_past, .int (z4 t_deeds), .ref a_t_images, .ref a_t_isKept, .ref a_t_text, .int (z4 t_letters), .int (z4 t_at), .int (z4 t_tokenAt), .int (z4 t_tokenSort), .int (z4 t_tokenValue), .int (z4 t_items), .int (z4 t_isChanceTold), .int (z4 t_areSumsTold), .ref a_t_metAt, .ref a_t_memoryAt, .ref a_t_upAt, .ref a_t_downAt, .ref a_t_isSignal, .ref a_t_memories, .ref a_t_placeOf, .ref a_t_nextPlace, .int (z4 t_places), .ref a_t_kindOf, .ref a_t_newKind, .int (z4 t_kinds), .ref a_t_stateOfKind, .ref a_t_stateAt, .ref a_t_stepTo, .int (z4 t_states), .ref a_t_far, .ref a_t_ways, .ref a_t_nextWays, .ref a_t_table])), (a_t_now, .inl (E 0, 98, .inl (A4 t_now))), (a_t_metAt, .inl (E 0, 40, .inl (A4 o2.1))), (a_t_memoryAt, .inl (E 0, 40, .inl (A4 o2.2.1))), (a_t_isSignal, .inl (E 1, 40, .inl (A4 o2.2.2.1))), (a_t_upAt, .inl (E 0, 40, .inl (A4 o2.2.2.2.1))), (a_t_downAt, .inl (E 0, 40, .inl (A4 o2.2.2.2.2)))] H → va_D A [(a_t, .inr (12, [.ref a_t_now, .ref a_t_read, .ref a_t_past, .int (z4 t_deeds), .ref a_t_images, .ref a_t_isKept, .ref a_t_text, .int (z4 t_letters), .int (z4 t_at), .int (z4 t_tokenAt), .int (z4 t_tokenSort), .int (z4 t_tokenValue), .int (z4 t_items), .int (z4 t_isChanceTold), .int (z4 t_areSumsTold), .ref a_t_metAt, .ref a_t_memoryAt, .ref a_t_upAt, .ref a_t_downAt, .ref a_t_isSignal, .ref a_t_memories, .ref a_t_placeOf, .ref a_t_nextPlace, .int (z4 t_places), .ref a_t_kindOf, .ref a_t_newKind, .int (z4 t_kinds), .ref a_t_stateOfKind, .ref a_t_stateAt, .ref a_t_stepTo, .int (z4 t_states), .ref a_t_far, .ref a_t_ways, .ref a_t_nextWays, .ref a_t_table])), (a_t_now, .inl (E 0, 98, .inl (A4 t_now))), (a_t_metAt, .inl (E 0, 40, .inl (A4 o2.1))), (a_t_memoryAt, .inl (E 0, 40, .inl (A4 o2.2.1))), (a_t_isSignal, .inl (E 1, 40, .inl (A4 o2.2.2.1))), (a_t_upAt, .inl (E 0, 40, .inl (A4 o2.2.2.2.1))), (a_t_downAt, .inl (E 0, 40, .inl (A4 o2.2.2.2.2)))] → va_S A s.heap H locs → lp_ (fun (q : Int × Int) => F_X12_alarm_L15 n t_now o2 x1 q.1 q.2) k_ (v15_2, v15_3) = some o3 → W p l e rm_X12_alarm s m args below meth c H locs 0 0 Q (F0 m 15 ls []) := by
      intro k_
      induction k_ with
      | zero =>
        intro v15_2 v15_3 H locs ls hl hP hD hS hq_; exact (lp_zero hq_).elim
      | succ k_ ih3 =>
        intro v15_2 v15_3 H locs ls hl hP hD hS hq_
        obtain ⟨t_3, hb3, hq3⟩ := lp_some hq_
        replace hb3 : F_X12_alarm_L15 n t_now o2 x1 v15_2 v15_3 = some t_3 := hb3
        unfold F_X12_alarm_L15 at hb3
        refine lv_iload_n hx hb dX12_alarm_15 rfl (lv_at hl 3 rfl) ?_
        refine lv_aload_n hx hb dX12_alarm_16 rfl (lv_at hl 0 rfl) ?_
        refine m_get X hK hP cl_X12 iT_X12 0 (by decide) fl_X12_7 0 rfl rfl dX12_alarm_17 ?_
        refine m_bipush X dX12_alarm_20 (by decide) ?_
        refine m_iald X hK hP 1 rfl (by decide) (by decide) dX12_alarm_22 ?_
        obtain ⟨h4, hb3⟩ := ck_some hb3
        refine m_icmp_ge X h4 dX12_alarm_23 (tgt := 59) (by decide) (fun (hc_ : ¬ (v15_3 < t_now 17)) => ?_) (fun (hc_ : v15_3 < t_now 17) => ?_)
        · rw [if_neg hc_] at hb3
          obtain rfl := Option.some.inj hb3
          exact E3_0 _ (Option.some.inj hq3).symm _ _ _ (lv_sub hl [1, 2] rfl) hP hD hS
        · rw [if_pos hc_] at hb3
          refine lv_aload_n hx hb dX12_alarm_26 rfl (lv_at hl 0 rfl) ?_
          refine m_get X hK hP cl_X12 iT_X12 15 (by decide) fl_X12_29 0 rfl rfl dX12_alarm_27 ?_
          refine lv_iload_n hx hb dX12_alarm_30 rfl (lv_at hl 3 rfl) ?_
          obtain ⟨h5, hb3⟩ := ck_some hb3
          refine m_iald X hK hP 2 rfl (by decide) h5 dX12_alarm_31 ?_
          obtain ⟨h6, hb3⟩ := ck_some hb3
          refine m_if_eq X h6 dX12_alarm_32 (tgt := 53) (by decide) (fun (hc_ : o2.1 (v15_3).toNat = 0) => ?_) (fun (hc_ : ¬ (o2.1 (v15_3).toNat = 0)) => ?_)
          · rw [if_pos hc_] at hb3
            refine m_iinc X 3 [(3, .int (z4 (v15_3 + 1))), (0, .ref a_t), (1, .int (z4 x1)), (2, .int (z4 v15_2))] dX12_alarm_53 hl rfl (by decide) rfl (fun ls hl => ?_)
            refine lv_goto (tgt := 15) hx hb dX12_alarm_56 (by decide) ?_
            obtain rfl := Option.some.inj hb3
            exact ih3 _ _ _ _ _ (lv_sub hl [1, 2, 3, 0] rfl) hP hD hS hq3
          · rw [if_neg hc_] at hb3
            refine lv_iload_n hx hb dX12_alarm_35 rfl (lv_at hl 2 rfl) ?_
            refine lv_iload_n hx hb dX12_alarm_36 rfl (lv_at hl 1 rfl) ?_
            obtain ⟨h7, hb3⟩ := ck_some hb3
            refine m_icmp_ne X h7 dX12_alarm_37 (tgt := 50) (by decide) (fun (hc_ : ¬ (v15_2 = x1)) => ?_) (fun (hc_ : v15_2 = x1) => ?_)
            · rw [if_neg hc_] at hb3
              refine m_iinc X 2 [(2, .int (z4 (v15_2 + 1))), (0, .ref a_t), (1, .int (z4 x1)), (3, .int (z4 v15_3))] dX12_alarm_50 hl rfl (by decide) rfl (fun ls hl => ?_)
              refine m_iinc X 3 [(3, .int (z4 (v15_3 + 1))), (2, .int (z4 (v15_2 + 1))), (0, .ref a_t), (1, .int (z4 x1))] dX12_alarm_53 hl rfl (by decide) rfl (fun ls hl => ?_)
              refine lv_goto (tgt := 15) hx hb dX12_alarm_56 (by decide) ?_
              obtain rfl := Option.some.inj hb3
              exact ih3 _ _ _ _ _ (lv_sub hl [2, 3, 1, 0] rfl) hP hD hS hq3
            · rw [if_pos hc_] at hb3
              obtain rfl := Option.some.inj hb3
              exact E3_1 _ (Option.some.inj hq3).symm _ _ _ (lv_sub hl [0, 3] rfl) hP hD hS
    exact L3 n _ _ _ _ _ (lv_sub hl [2, 3, 1, 0] rfl) hP hD hS hj3
  · rw [if_pos hc_] at hf
    refine m_iconst X dX12_alarm_5 ?_
    obtain rfl := Option.some.inj hf
    exact ret _ _ _ _ hP hD hS dX12_alarm_6
def F_X12_signal_L15 (n : Nat) (t_now : Nat → Int) (o2 : (Nat → Int) × (Nat → Int) × (Nat → Int) × (Nat → Int) × (Nat → Int)) (x1 : Int) (v15_2 : Int) (v15_3 : Int) : Option ((Int × Int) ⊕ ((Int) ⊕ (Int))) :=
  ck (r4 v15_3 ∧ r4 (t_now 17)) <|
  if v15_3 < t_now 17 then
    ck (ix_ v15_3 40) <|
    ck (r4 (o2.2.2.1 (v15_3).toNat)) <|
    if o2.2.2.1 (v15_3).toNat = 0 then
      some (.inl (v15_2, v15_3 + 1))
    else
      ck (r4 v15_2 ∧ r4 x1) <|
      if v15_2 = x1 then
        some (.inr (.inr v15_3))
      else
        some (.inl (v15_2 + 1, v15_3 + 1))
  else
    some (.inr (.inl v15_2))
def F_X12_signal (n : Nat)  (t_now : Nat → Int) (t_metAt : Nat → Int) (t_memoryAt : Nat → Int) (t_isSignal : Nat → Int) (t_upAt : Nat → Int) (t_downAt : Nat → Int) (x1 : Int) : Option (Int × (Nat → Int) × (Nat → Int) × (Nat → Int) × (Nat → Int) × (Nat → Int)) :=
  ck (r4 x1) <|
  if x1 < (-1) then
    some ((-1), t_metAt, t_memoryAt, t_isSignal, t_upAt, t_downAt)
  else
    (F_X12_goThrough n t_now t_metAt t_memoryAt t_isSignal t_upAt t_downAt).bind fun o2 =>
    (lp_ (fun (q : Int × Int) => F_X12_signal_L15 n t_now o2 x1 q.1 q.2) n (0, 0)).bind fun o3 => match o3 with
    | .inl o3_0 =>
      Option.bind (α := Int) (
        ck (r4 x1) <|
        if x1 = (-1) then
          some o3_0
        else
          some (-9)) fun o8 =>
      some (o8, o2.1, o2.2.1, o2.2.2.1, o2.2.2.2.1, o2.2.2.2.2)
    | .inr o3_1 =>
      ck (ix_ (18 + o3_1) 98) <|
      some (t_now (18 + o3_1).toNat, o2.1, o2.2.1, o2.2.2.1, o2.2.2.2.1, o2.2.2.2.2)
def rm_X12_signal : Room := { frames := 3, cells := 0, slots := 0, locals := 75 }
set_option maxHeartbeats 4000000 in
set_option maxRecDepth 100000 in
theorem k_X12_signal {l : Launch} {D : va_G} {E : Nat → ClassId} (n : Nat) (a_t a_t_now a_t_read a_t_past a_t_images a_t_isKept a_t_text a_t_metAt a_t_memoryAt a_t_upAt a_t_downAt a_t_isSignal a_t_memories a_t_placeOf a_t_nextPlace a_t_kindOf a_t_newKind a_t_stateOfKind a_t_stateAt a_t_stepTo a_t_far a_t_ways a_t_nextWays a_t_table : Nat) (t_deeds : Int) (t_letters : Int) (t_at : Int) (t_tokenAt : Int) (t_tokenSort : Int) (t_tokenValue : Int) (t_items : Int) (t_isChanceTold : Int) (t_areSumsTold : Int) (t_places : Int) (t_kinds : Int) (t_states : Int) (t_now : Nat → Int) (t_metAt : Nat → Int) (t_memoryAt : Nat → Int) (t_isSignal : Nat → Int) (t_upAt : Nat → Int) (t_downAt : Nat → Int) (x1 : Int) (res : Int × (Nat → Int) × (Nat → Int) × (Nat → Int) × (Nat → Int) × (Nat → Int)) (hf : F_X12_signal n t_now t_metAt t_memoryAt t_isSignal t_upAt t_downAt x1 = some res) : MW l yX12_signal (.code yX12_signal cX12_signal 4 (some .int)) rm_X12_signal D E [.ref a_t, .int (z4 x1)] [(a_t, .inr (12, [.ref a_t_now, .ref a_t_read, .ref a_t_past, .int (z4 t_deeds), .ref a_t_images, .ref a_t_isKept, .ref a_t_text, .int (z4 t_letters), .int (z4 t_at), .int (z4 t_tokenAt), .int (z4 t_tokenSort), .int (z4 t_tokenValue), .int (z4 t_items), .int (z4 t_isChanceTold), .int (z4 t_areSumsTold), .ref a_t_metAt, .ref a_t_memoryAt, .ref a_t_upAt, .ref a_t_downAt, .ref a_t_isSignal, .ref a_t_memories, .ref a_t_placeOf, .ref a_t_nextPlace, .int (z4 t_places), .ref a_t_kindOf, .ref a_t_newKind, .int (z4 t_kinds), .ref a_t_stateOfKind, .ref a_t_stateAt, .ref a_t_stepTo, .int (z4 t_states), .ref a_t_far, .ref a_t_ways, .ref a_t_nextWays, .ref a_t_table])), (a_t_now, .inl (E 0, 98, .inl (A4 t_now))), (a_t_metAt, .inl (E 0, 40, .inl (A4 t_metAt))), (a_t_memoryAt, .inl (E 0, 40, .inl (A4 t_memoryAt))), (a_t_isSignal, .inl (E 1, 40, .inl (A4 t_isSignal))), (a_t_upAt, .inl (E 0, 40, .inl (A4 t_upAt))), (a_t_downAt, .inl (E 0, 40, .inl (A4 t_downAt)))] (some (.int (z4 res.1))) [(a_t, .inr (12, [.ref a_t_now, .ref a_t_read, .ref a_t_past, .int (z4 t_deeds), .ref a_t_images, .ref a_t_isKept, .ref a_t_text, .int (z4 t_letters), .int (z4 t_at), .int (z4 t_tokenAt), .int (z4 t_tokenSort), .int (z4 t_tokenValue), .int (z4 t_items), .int (z4 t_isChanceTold), .int (z4 t_areSumsTold), .ref a_t_metAt, .ref a_t_memoryAt, .ref a_t_upAt, .ref a_t_downAt, .ref a_t_isSignal, .ref a_t_memories, .ref a_t_placeOf, .ref a_t_nextPlace, .int (z4 t_places), .ref a_t_kindOf, .ref a_t_newKind, .int (z4 t_kinds), .ref a_t_stateOfKind, .ref a_t_stateAt, .ref a_t_stepTo, .int (z4 t_states), .ref a_t_far, .ref a_t_ways, .ref a_t_nextWays, .ref a_t_table])), (a_t_now, .inl (E 0, 98, .inl (A4 t_now))), (a_t_metAt, .inl (E 0, 40, .inl (A4 res.2.1))), (a_t_memoryAt, .inl (E 0, 40, .inl (A4 res.2.2.1))), (a_t_isSignal, .inl (E 1, 40, .inl (A4 res.2.2.2.1))), (a_t_upAt, .inl (E 0, 40, .inl (A4 res.2.2.2.2.1))), (a_t_downAt, .inl (E 0, 40, .inl (A4 res.2.2.2.2.2)))] := by
  refine MWi (by decide) (Nat.le_of_ble_eq_true rfl) ?_
  intro p e s m args below meth c A Q X hK hP hD hA ret ls hl
  have hS : va_S A s.heap s.heap [] := va_S.rf
  have hx := X.1
  have hb := X.2.1
  have hl : lv_has ls 4 [(0, .ref a_t), (1, .int (z4 x1))] := hl
  unfold F_X12_signal at hf
  refine lv_iload_n hx hb dX12_signal_0 rfl (lv_at hl 1 rfl) ?_
  refine m_iconst X dX12_signal_1 ?_
  obtain ⟨h1, hf⟩ := ck_some hf
  refine m_icmp_ge X ⟨h1, ⟨by decide, by decide⟩⟩ dX12_signal_2 (tgt := 7) (by decide) (fun (hc_ : ¬ (x1 < (-1))) => ?_) (fun (hc_ : x1 < (-1)) => ?_)
  · rw [if_neg hc_] at hf
    refine lv_aload_n hx hb dX12_signal_7 rfl (lv_at hl 0 rfl) ?_
    obtain ⟨o2, ho, hf⟩ := bd_some hf
    refine m_cVW X hK hP hD hS hA (wr := []) (k_X12_goThrough n a_t a_t_now a_t_read a_t_past a_t_images a_t_isKept a_t_text a_t_metAt a_t_memoryAt a_t_upAt a_t_downAt a_t_isSignal a_t_memories a_t_placeOf a_t_nextPlace a_t_kindOf a_t_newKind a_t_stateOfKind a_t_stateAt a_t_stepTo a_t_far a_t_ways a_t_nextWays a_t_table t_deeds t_letters t_at t_tokenAt t_tokenSort t_tokenValue t_items t_isChanceTold t_areSumsTold t_places t_kinds t_states t_now t_metAt t_memoryAt t_isSignal t_upAt t_downAt o2 ho) [0, 1, 2, 3, 4, 5, 6] [] [0, 1, 2, 3, 4, 5, 6] [(a_t, .inr (12, [.ref a_t_now, .ref a_t_read, .ref a_t_past, .int (z4 t_deeds), .ref a_t_images, .ref a_t_isKept, .ref a_t_text, .int (z4 t_letters), .int (z4 t_at), .int (z4 t_tokenAt), .int (z4 t_tokenSort), .int (z4 t_tokenValue), .int (z4 t_items), .int (z4 t_isChanceTold), .int (z4 t_areSumsTold), .ref a_t_metAt, .ref a_t_memoryAt, .ref a_t_upAt, .ref a_t_downAt, .ref a_t_isSignal, .ref a_t_memories, .ref a_t_placeOf, .ref a_t_nextPlace, .int (z4 t_places), .ref a_t_kindOf, .ref a_t_newKind, .int (z4 t_kinds), .ref a_t_stateOfKind, .ref a_t_stateAt, .ref a_t_stepTo, .int (z4 t_states), .ref a_t_far, .ref a_t_ways, .ref a_t_nextWays, .ref a_t_table])), (a_t_now, .inl (E 0, 98, .inl (A4 t_now))), (a_t_metAt, .inl (E 0, 40, .inl (A4 o2.1))), (a_t_memoryAt, .inl (E 0, 40, .inl (A4 o2.2.1))), (a_t_isSignal, .inl (E 1, 40, .inl (A4 o2.2.2.1))), (a_t_upAt, .inl (E 0, 40, .inl (A4 o2.2.2.2.1))), (a_t_downAt, .inl (E 0, 40, .inl (A4 o2.2.2.2.2)))] rfl rfl rfl rfl (by decide) rfl rfl rfl cl_X12 lk_X12_212 co_X12_goThrough dy_X12_goThrough rfl rfl ⟨Nat.le_of_ble_eq_true rfl, Nat.le_of_ble_eq_true rfl⟩ hl.1 rfl (Nat.le_of_ble_eq_true rfl) dX12_signal_8 (Nat.zero_le _) (Nat.zero_le _) (fun H locs hP hD hS => ?_)
    refine m_iconst X dX12_signal_11 ?_
    refine lv_istore_n (lv' := [(2, .int (z4 0)), (0, .ref a_t), (1, .int (z4 x1))]) hx hb dX12_signal_12 rfl hl (by decide) rfl (fun ls hl => ?_)
    refine m_iconst X dX12_signal_13 ?_
    refine lv_istore_n (lv' := [(3, .int (z4 0)), (2, .int (z4 0)), (0, .ref a_t), (1, .int (z4 x1))]) hx hb dX12_signal_14 rfl hl (by decide) rfl (fun ls hl => ?_)
    obtain ⟨o3, hj3, hr3⟩ := bd_some hf
    have E3_0 : ∀ (o_ : Int), o3 = (.inl o_) → ∀ (H : Heap) (locs : List Loc) (ls : Array Slot), lv_has ls 4 [(1, .int (z4 x1)), (2, .int (z4 o_))] → va_P D vwCl [(a_t, .inr (12, [.ref a_t_now, .ref a_t_read, .ref a_t_past, .int (z4 t_deeds), .ref a_t_images, .ref a_t_isKept, .ref a_t_text, .int (z4 t_letters), .int (z4 t_at), .int (z4 t_tokenAt), .int (z4 t_tokenSort), .int (z4 t_tokenValue), .int (z4 t_items), .int (z4 t_isChanceTold), .int (z4 t_areSumsTold), .ref a_t_metAt, .ref a_t_memoryAt, .ref a_t_upAt, .ref a_t_downAt, .ref a_t_isSignal, .ref a_t_memories, .ref a_t_placeOf, .ref a_t_nextPlace, .int (z4 t_places), .ref a_t_kindOf, .ref a_t_newKind, .int (z4 t_kinds), .ref a_t_stateOfKind, .ref a_t_stateAt, .ref a_t_stepTo, .int (z4 t_states), .ref a_t_far, .ref a_t_ways, .ref a_t_nextWays, .ref a_t_table])), (a_t_now, .inl (E 0, 98, .inl (A4 t_now))), (a_t_metAt, .inl (E 0, 40, .inl (A4 o2.1))), (a_t_memoryAt, .inl (E 0, 40, .inl (A4 o2.2.1))), (a_t_isSignal, .inl (E 1, 40, .inl (A4 o2.2.2.1))), (a_t_upAt, .inl (E 0, 40, .inl (A4 o2.2.2.2.1))), (a_t_downAt, .inl (E 0, 40, .inl (A4 o2.2.2.2.2)))] H → va_D A [(a_t, .inr (12, [.ref a_t_now, .ref a_t_read, .ref a_t_past, .int (z4 t_deeds), .ref a_t_images, .ref a_t_isKept, .ref a_t_text, .int (z4 t_letters), .int (z4 t_at), .int (z4 t_tokenAt), .int (z4 t_tokenSort), .int (z4 t_tokenValue), .int (z4 t_items), .int (z4 t_isChanceTold), .int (z4 t_areSumsTold), .ref a_t_metAt, .ref a_t_memoryAt, .ref a_t_upAt, .ref a_t_downAt, .ref a_t_isSignal, .ref a_t_memories, .ref a_t_placeOf, .ref a_t_nextPlace, .int (z4 t_places), .ref a_t_kindOf, .ref a_t_newKind, .int (z4 t_kinds), .ref a_t_stateOfKind, .ref a_t_stateAt, .ref a_t_stepTo, .int (z4 t_states), .ref a_t_far, .ref a_t_ways, .ref a_t_nextWays, .ref a_t_table])), (a_t_now, .inl (E 0, 98, .inl (A4 t_now))), (a_t_metAt, .inl (E 0, 40, .inl (A4 o2.1))), (a_t_memoryAt, .inl (E 0, 40, .inl (A4 o2.2.1))), (a_t_isSignal, .inl (E 1, 40, .inl (A4 o2.2.2.1))), (a_t_upAt, .inl (E 0, 40, .inl (A4 o2.2.2.2.1))), (a_t_downAt, .inl (E 0, 40, .inl (A4 o2.2.2.2.2)))] → va_S A s.heap H locs → W p l e rm_X12_signal s m args below meth c H locs 0 0 Q (F0 m 59 ls []) := by
      intro o3_0 ho_ H locs ls hl hP hD hS
      subst ho_
      refine lv_iload_n hx hb dX12_signal_59 rfl (lv_at hl 0 rfl) ?_
      refine m_iconst X dX12_signal_60 ?_
      obtain ⟨o8, hj8, hr8⟩ := bd_some hr3
      have J8 : ∀ (o_ : Int), o8 = o_ → ∀ (H : Heap) (locs : List Loc) (ls : Array Slot), lv_has ls 4 [] → va_P D vwCl [(a_t, .inr (12, [.ref a_t_now, .ref a_t_read, .ref a_t_past, .int (z4 t_deeds), .ref a_t_images, .ref a_t_isKept, .ref a_t_text, .int (z4 t_letters), .int (z4 t_at), .int (z4 t_tokenAt), .int (z4 t_tokenSort), .int (z4 t_tokenValue), .int (z4 t_items), .int (z4 t_isChanceTold), .int (z4 t_areSumsTold), .ref a_t_metAt, .ref a_t_memoryAt, .ref a_t_upAt, .ref a_t_downAt, .ref a_t_isSignal, .ref a_t_memories, .ref a_t_placeOf, .ref a_t_nextPlace, .int (z4 t_places), .ref a_t_kindOf, .ref a_t_newKind, .int (z4 t_kinds), .ref a_t_stateOfKind, .ref a_t_stateAt, .ref a_t_stepTo, .int (z4 t_states), .ref a_t_far, .ref a_t_ways, .ref a_t_nextWays, .ref a_t_table])), (a_t_now, .inl (E 0, 98, .inl (A4 t_now))), (a_t_metAt, .inl (E 0, 40, .inl (A4 o2.1))), (a_t_memoryAt, .inl (E 0, 40, .inl (A4 o2.2.1))), (a_t_isSignal, .inl (E 1, 40, .inl (A4 o2.2.2.1))), (a_t_upAt, .inl (E 0, 40, .inl (A4 o2.2.2.2.1))), (a_t_downAt, .inl (E 0, 40, .inl (A4 o2.2.2.2.2)))] H → va_D A [(a_t, .inr (12, [.ref a_t_now, .ref a_t_read, .ref a_t_past, .int (z4 t_deeds), .ref a_t_images, .ref a_t_isKept, .ref a_t_text, .int (z4 t_letters), .int (z4 t_at), .int (z4 t_tokenAt), .int (z4 t_tokenSort), .int (z4 t_tokenValue), .int (z4 t_items), .int (z4 t_isChanceTold), .int (z4 t_areSumsTold), .ref a_t_metAt, .ref a_t_memoryAt, .ref a_t_upAt, .ref a_t_downAt, .ref a_t_isSignal, .ref a_t_memories, .ref a_t_placeOf, .ref a_t_nextPlace, .int (z4 t_places), .ref a_t_kindOf, .ref a_t_newKind, .int (z4 t_kinds), .ref a_t_stateOfKind, .ref a_t_stateAt, .ref a_t_stepTo, .int (z4 t_states), .ref a_t_far, .ref a_t_ways, .ref a_t_nextWays, .ref a_t_table])), (a_t_now, .inl (E 0, 98, .inl (A4 t_now))), (a_t_metAt, .inl (E 0, 40, .inl (A4 o2.1))), (a_t_memoryAt, .inl (E 0, 40, .inl (A4 o2.2.1))), (a_t_isSignal, .inl (E 1, 40, .inl (A4 o2.2.2.1))), (a_t_upAt, .inl (E 0, 40, .inl (A4 o2.2.2.2.1))), (a_t_downAt, .inl (E 0, 40, .inl (A4 o2.2.2.2.2)))] → va_S A s.heap H locs → W p l e rm_X12_signal s m args below meth c H locs 0 0 Q (F0 m 70 ls [.int (z4 o_)]) := by
        intro o_ ho_ H locs ls hl hP hD hS
        subst ho_
        obtain rfl := Option.some.inj hr8
        exact ret _ _ _ _ hP hD hS dX12_signal_70
      obtain ⟨h9, hj8⟩ := ck_some hj8
      refine m_icmp_ne X ⟨h9, ⟨by decide, by decide⟩⟩ dX12_signal_61 (tgt := 68) (by decide) (fun (hc_ : ¬ (x1 = (-1))) => ?_) (fun (hc_ : x1 = (-1)) => ?_)
      · rw [if_neg hc_] at hj8
        refine m_bipush X dX12_signal_68 (by decide) ?_
        exact J8 _ (Option.some.inj hj8).symm _ _ _ (lv_sub hl [] rfl) hP hD hS
      · rw [if_pos hc_] at hj8
        refine lv_iload_n hx hb dX12_signal_64 rfl (lv_at hl 1 rfl) ?_
        refine lv_goto (tgt := 70) hx hb dX12_signal_65 (by decide) ?_
        exact J8 _ (Option.some.inj hj8).symm _ _ _ (lv_sub hl [] rfl) hP hD hS
    have E3_1 : ∀ (o_ : Int), o3 = (.inr o_) → ∀ (H : Heap) (locs : List Loc) (ls : Array Slot), lv_has ls 4 [(0, .ref a_t), (3, .int (z4 o_))] → va_P D vwCl [(a_t, .inr (12, [.ref a_t_now, .ref a_t_read, .ref a_t_past, .int (z4 t_deeds), .ref a_t_images, .ref a_t_isKept, .ref a_t_text, .int (z4 t_letters), .int (z4 t_at), .int (z4 t_tokenAt), .int (z4 t_tokenSort), .int (z4 t_tokenValue), .int (z4 t_items), .int (z4 t_isChanceTold), .int (z4 t_areSumsTold), .ref a_t_metAt, .ref a_t_memoryAt, .ref a_t_upAt, .ref a_t_downAt, .ref a_t_isSignal, .ref a_t_memories, .ref a_t_placeOf, .ref a_t_nextPlace, .int (z4 t_places), .ref a_t_kindOf, .ref a_t_newKind, .int (z4 t_kinds), .ref a_t_stateOfKind, .ref a_t_stateAt, .ref a_t_stepTo, .int (z4 t_states), .ref a_t_far, .ref a_t_ways, .ref a_t_nextWays, .ref a_t_table])), (a_t_now, .inl (E 0, 98, .inl (A4 t_now))), (a_t_metAt, .inl (E 0, 40, .inl (A4 o2.1))), (a_t_memoryAt, .inl (E 0, 40, .inl (A4 o2.2.1))), (a_t_isSignal, .inl (E 1, 40, .inl (A4 o2.2.2.1))), (a_t_upAt, .inl (E 0, 40, .inl (A4 o2.2.2.2.1))), (a_t_downAt, .inl (E 0, 40, .inl (A4 o2.2.2.2.2)))] H → va_D A [(a_t, .inr (12, [.ref a_t_now, .ref a_t_read, .ref a_t_past, .int (z4 t_deeds), .ref a_t_images, .ref a_t_isKept, .ref a_t_text, .int (z4 t_letters), .int (z4 t_at), .int (z4 t_tokenAt), .int (z4 t_tokenSort), .int (z4 t_tokenValue), .int (z4 t_items), .int (z4 t_isChanceTold), .int (z4 t_areSumsTold), .ref a_t_metAt, .ref a_t_memoryAt, .ref a_t_upAt, .ref a_t_downAt, .ref a_t_isSignal, .ref a_t_memories, .ref a_t_placeOf, .ref a_t_nextPlace, .int (z4 t_places), .ref a_t_kindOf, .ref a_t_newKind, .int (z4 t_kinds), .ref a_t_stateOfKind, .ref a_t_stateAt, .ref a_t_stepTo, .int (z4 t_states), .ref a_t_far, .ref a_t_ways, .ref a_t_nextWays, .ref a_t_table])), (a_t_now, .inl (E 0, 98, .inl (A4 t_now))), (a_t_metAt, .inl (E 0, 40, .inl (A4 o2.1))), (a_t_memoryAt, .inl (E 0, 40, .inl (A4 o2.2.1))), (a_t_isSignal, .inl (E 1, 40, .inl (A4 o2.2.2.1))), (a_t_upAt, .inl (E 0, 40, .inl (A4 o2.2.2.2.1))), (a_t_downAt, .inl (E 0, 40, .inl (A4 o2.2.2.2.2)))] → va_S A s.heap H locs → W p l e rm_X12_signal s m args below meth c H locs 0 0 Q (F0 m 40 ls []) := by
      intro o3_1 ho_ H locs ls hl hP hD hS
      subst ho_
      refine lv_aload_n hx hb dX12_signal_40 rfl (lv_at hl 0 rfl) ?_
      refine m_get X hK hP cl_X12 iT_X12 0 (by decide) fl_X12_7 0 rfl rfl dX12_signal_41 ?_
      refine m_bipush X dX12_signal_44 (by decide) ?_
      refine lv_iload_n hx hb dX12_signal_46 rfl (lv_at hl 1 rfl) ?_
      refine m_iadd X dX12_signal_47 ?_
      obtain ⟨h10, hr3⟩ := ck_some hr3
      refine m_iald X hK hP 1 rfl (by decide) h10 dX12_signal_48 ?_
      obtain rfl := Option.some.inj hr3
      exact ret _ _ _ _ hP hD hS dX12_signal_49
    have L3 : ∀ (k_ : Nat) (v15_2 : Int) (v15_3 : Int), ∀ (H : Heap) (locs : List Loc) (ls : Array Slot), lv_has ls 4 [(0, .ref a_t), (1, .int (z4 x1)), (2, .int (z4 v15_2)), (3, .int (z4 v15_3))] → va_P D vwCl [(a_t, .inr (12, [.ref a_t_now, .ref a_t_read, .ref a_t_past, .int (z4 t_deeds), .ref a_t_images, .ref a_t_isKept, .ref a_t_text, .int (z4 t_letters), .int (z4 t_at), .int (z4 t_tokenAt), .int (z4 t_tokenSort), .int (z4 t_tokenValue), .int (z4 t_items), .int (z4 t_isChanceTold), .int (z4 t_areSumsTold), .ref a_t_metAt, .ref a_t_memoryAt, .ref a_t_upAt, .ref a_t_downAt, .ref a_t_isSignal, .ref a_t_memories, .ref a_t_placeOf, .ref a_t_nextPlace, .int (z4 t_places), .ref a_t_kindOf, .ref a_t_newKind, .int (z4 t_kinds), .ref a_t_stateOfKind, .ref a_t_stateAt, .ref a_t_stepTo, .int (z4 t_states), .ref a_t_far, .ref a_t_ways, .ref a_t_nextWays, .ref a_t_table])), (a_t_now, .inl (E 0, 98, .inl (A4 t_now))), (a_t_metAt, .inl (E 0, 40, .inl (A4 o2.1))), (a_t_memoryAt, .inl (E 0, 40, .inl (A4 o2.2.1))), (a_t_isSignal, .inl (E 1, 40, .inl (A4 o2.2.2.1))), (a_t_upAt, .inl (E 0, 40, .inl (A4 o2.2.2.2.1))), (a_t_downAt, .inl (E 0, 40, .inl (A4 o2.2.2.2.2)))] H → va_D A [(a_t, .inr (12, [.ref a_t_now, .ref a_t_read, .ref a_t_past, .int (z4 t_deeds), .ref a_t_images, .ref a_t_isKept, .ref a_t_text, .int (z4 t_letters), .int (z4 t_at), .int (z4 t_tokenAt), .int (z4 t_tokenSort), .int (z4 t_tokenValue), .int (z4 t_items), .int (z4 t_isChanceTold), .int (z4 t_areSumsTold), .ref a_t_metAt, .ref a_t_memoryAt, .ref a_t_upAt, .ref a_t_downAt, .ref a_t_isSignal, .ref a_t_memories, .ref a_t_placeOf, .ref a_t_nextPlace, .int (z4 t_places), .ref a_t_kindOf, .ref a_t_newKind, .int (z4 t_kinds), .ref a_t_stateOfKind, .ref a_t_stateAt, .ref a_t_stepTo, .int (z4 t_states), .ref a_t_far, .ref a_t_ways, .ref a_t_nextWays, .ref a_t_table])), (a_t_now, .inl (E 0, 98, .inl (A4 t_now))), (a_t_metAt, .inl (E 0, 40, .inl (A4 o2.1))), (a_t_memoryAt, .inl (E 0, 40, .inl (A4 o2.2.1))), (a_t_isSignal, .inl (E 1, 40, .inl (A4 o2.2.2.1))), (a_t_upAt, .inl (E 0, 40, .inl (A4 o2.2.2.2.1))), (a_t_downAt, .inl (E 0, 40, .inl (A4 o2.2.2.2.2)))] → va_S A s.heap H locs → lp_ (fun (q : Int × Int) => F_X12_signal_L15 n t_now o2 x1 q.1 q.2) k_ (v15_2, v15_3) = some o3 → W p l e rm_X12_signal s m args below meth c H locs 0 0 Q (F0 m 15 ls []) := by
      intro k_
      induction k_ with
      | zero =>
        intro v15_2 v15_3 H locs ls hl hP hD hS hq_; exact (lp_zero hq_).elim
      | succ k_ ih3 =>
        intro v15_2 v15_3 H locs ls hl hP hD hS hq_
        obtain ⟨t_3, hb3, hq3⟩ := lp_some hq_
        replace hb3 : F_X12_signal_L15 n t_now o2 x1 v15_2 v15_3 = some t_3 := hb3
        unfold F_X12_signal_L15 at hb3
        refine lv_iload_n hx hb dX12_signal_15 rfl (lv_at hl 3 rfl) ?_
        refine lv_aload_n hx hb dX12_signal_16 rfl (lv_at hl 0 rfl) ?_
        refine m_get X hK hP cl_X12 iT_X12 0 (by decide) fl_X12_7 0 rfl rfl dX12_signal_17 ?_
        refine m_bipush X dX12_signal_20 (by decide) ?_
        refine m_iald X hK hP 1 rfl (by decide) (by decide) dX12_signal_22 ?_
        obtain ⟨h4, hb3⟩ := ck_some hb3
        refine m_icmp_ge X h4 dX12_signal_23 (tgt := 59) (by decide) (fun (hc_ : ¬ (v15_3 < t_now 17)) => ?_) (fun (hc_ : v15_3 < t_now 17) => ?_)
        · rw [if_neg hc_] at hb3
          obtain rfl := Option.some.inj hb3
          exact E3_0 _ (Option.some.inj hq3).symm _ _ _ (lv_sub hl [1, 2] rfl) hP hD hS
        · rw [if_pos hc_] at hb3
          refine lv_aload_n hx hb dX12_signal_26 rfl (lv_at hl 0 rfl) ?_
          refine m_get X hK hP cl_X12 iT_X12 19 (by decide) fl_X12_41 0 rfl rfl dX12_signal_27 ?_
          refine lv_iload_n hx hb dX12_signal_30 rfl (lv_at hl 3 rfl) ?_
          obtain ⟨h5, hb3⟩ := ck_some hb3
          refine m_zald X hK hP 4 rfl (by decide) h5 dX12_signal_31 ?_
          obtain ⟨h6, hb3⟩ := ck_some hb3
          refine m_if_eq X h6 dX12_signal_32 (tgt := 53) (by decide) (fun (hc_ : o2.2.2.1 (v15_3).toNat = 0) => ?_) (fun (hc_ : ¬ (o2.2.2.1 (v15_3).toNat = 0)) => ?_)
          · rw [if_pos hc_] at hb3
            refine m_iinc X 3 [(3, .int (z4 (v15_3 + 1))), (0, .ref a_t), (1, .int (z4 x1)), (2, .int (z4 v15_2))] dX12_signal_53 hl rfl (by decide) rfl (fun ls hl => ?_)
            refine lv_goto (tgt := 15) hx hb dX12_signal_56 (by decide) ?_
            obtain rfl := Option.some.inj hb3
            exact ih3 _ _ _ _ _ (lv_sub hl [1, 2, 3, 0] rfl) hP hD hS hq3
          · rw [if_neg hc_] at hb3
            refine lv_iload_n hx hb dX12_signal_35 rfl (lv_at hl 2 rfl) ?_
            refine lv_iload_n hx hb dX12_signal_36 rfl (lv_at hl 1 rfl) ?_
            obtain ⟨h7, hb3⟩ := ck_some hb3
            refine m_icmp_ne X h7 dX12_signal_37 (tgt := 50) (by decide) (fun (hc_ : ¬ (v15_2 = x1)) => ?_) (fun (hc_ : v15_2 = x1) => ?_)
            · rw [if_neg hc_] at hb3
              refine m_iinc X 2 [(2, .int (z4 (v15_2 + 1))), (0, .ref a_t), (1, .int (z4 x1)), (3, .int (z4 v15_3))] dX12_signal_50 hl rfl (by decide) rfl (fun ls hl => ?_)
              refine m_iinc X 3 [(3, .int (z4 (v15_3 + 1))), (2, .int (z4 (v15_2 + 1))), (0, .ref a_t), (1, .int (z4 x1))] dX12_signal_53 hl rfl (by decide) rfl (fun ls hl => ?_)
              refine lv_goto (tgt := 15) hx hb dX12_signal_56 (by decide) ?_
              obtain rfl := Option.some.inj hb3
              exact ih3 _ _ _ _ _ (lv_sub hl [2, 3, 1, 0] rfl) hP hD hS hq3
            · rw [if_pos hc_] at hb3
              obtain rfl := Option.some.inj hb3
              exact E3_1 _ (Option.some.inj hq3).symm _ _ _ (lv_sub hl [0, 3] rfl) hP hD hS
    exact L3 n _ _ _ _ _ (lv_sub hl [2, 3, 1, 0] rfl) hP hD hS hj3
  · rw [if_pos hc_] at hf
    refine m_iconst X dX12_signal_5 ?_
    obtain rfl := Option.some.inj hf
    exact ret _ _ _ _ hP hD hS dX12_signal_6
def F_X12_step (n : Nat)  (t_placeOf : Nat → Int) (t_memories : Nat → Int) (t_now : Nat → Int) (t_nextPlace : Nat → Int) (t_kindOf : Nat → Int) (t_newKind : Nat → Int) (t_stateOfKind : Nat → Int) (t_stateAt : Nat → Int) (t_stepTo : Nat → Int) (x1 : Int) (x2 : Int) : Option (Int × Int × Int × Int × (Nat → Int) × (Nat → Int) × (Nat → Int) × (Nat → Int) × (Nat → Int) × (Nat → Int) × (Nat → Int) × (Nat → Int)) :=
  (F_X12_build n t_placeOf t_memories t_now t_nextPlace t_kindOf t_newKind t_stateOfKind t_stateAt t_stepTo).bind fun o1 =>
  (F_X12_in n x1 0 (o1.2.2.1 - 1)).bind fun o2 =>
  Option.bind (α := Int) (
    ck (r4 o2) <|
    if o2 = 0 then
      some (-1)
    else
      (F_X12_isSign n x2).bind fun o5 =>
      ck (r4 o5) <|
      if o5 = 0 then
        some (-1)
      else
        ck (ix_ ((5 * x1) + x2) 320) <|
        some (o1.2.2.2.2.2.2.2.2.2.2 ((5 * x1) + x2).toNat)) fun o3 =>
  some (o3, o1.1, o1.2.1, o1.2.2.1, o1.2.2.2.1, o1.2.2.2.2.1, o1.2.2.2.2.2.1, o1.2.2.2.2.2.2.1, o1.2.2.2.2.2.2.2.1, o1.2.2.2.2.2.2.2.2.1, o1.2.2.2.2.2.2.2.2.2.1, o1.2.2.2.2.2.2.2.2.2.2)
def rm_X12_step : Room := { frames := 4, cells := 0, slots := 0, locals := 98 }
set_option maxHeartbeats 4000000 in
set_option maxRecDepth 100000 in
theorem k_X12_step {l : Launch} {D : va_G} {E : Nat → ClassId} (n : Nat) (a_t a_t_now a_t_read a_t_past a_t_images a_t_isKept a_t_text a_t_metAt a_t_memoryAt a_t_upAt a_t_downAt a_t_isSignal a_t_memories a_t_placeOf a_t_nextPlace a_t_kindOf a_t_newKind a_t_stateOfKind a_t_stateAt a_t_stepTo a_t_far a_t_ways a_t_nextWays a_t_table : Nat) (t_deeds : Int) (t_letters : Int) (t_at : Int) (t_tokenAt : Int) (t_tokenSort : Int) (t_tokenValue : Int) (t_items : Int) (t_isChanceTold : Int) (t_areSumsTold : Int) (t_places : Int) (t_kinds : Int) (t_states : Int) (t_placeOf : Nat → Int) (t_memories : Nat → Int) (t_now : Nat → Int) (t_nextPlace : Nat → Int) (t_kindOf : Nat → Int) (t_newKind : Nat → Int) (t_stateOfKind : Nat → Int) (t_stateAt : Nat → Int) (t_stepTo : Nat → Int) (x1 : Int) (x2 : Int) (res : Int × Int × Int × Int × (Nat → Int) × (Nat → Int) × (Nat → Int) × (Nat → Int) × (Nat → Int) × (Nat → Int) × (Nat → Int) × (Nat → Int)) (hf : F_X12_step n t_placeOf t_memories t_now t_nextPlace t_kindOf t_newKind t_stateOfKind t_stateAt t_stepTo x1 x2 = some res) : MW l yX12_step (.code yX12_step cX12_step 3 (some .int)) rm_X12_step D E [.ref a_t, .int (z4 x1), .int (z4 x2)] [(a_t, .inr (12, [.ref a_t_now, .ref a_t_read, .ref a_t_past, .int (z4 t_deeds), .ref a_t_images, .ref a_t_isKept, .ref a_t_text, .int (z4 t_letters), .int (z4 t_at), .int (z4 t_tokenAt), .int (z4 t_tokenSort), .int (z4 t_tokenValue), .int (z4 t_items), .int (z4 t_isChanceTold), .int (z4 t_areSumsTold), .ref a_t_metAt, .ref a_t_memoryAt, .ref a_t_upAt, .ref a_t_downAt, .ref a_t_isSignal, .ref a_t_memories, .ref a_t_placeOf, .ref a_t_nextPlace, .int (z4 t_places), .ref a_t_kindOf, .ref a_t_newKind, .int (z4 t_kinds), .ref a_t_stateOfKind, .ref a_t_stateAt, .ref a_t_stepTo, .int (z4 t_states), .ref a_t_far, .ref a_t_ways, .ref a_t_nextWays, .ref a_t_table])), (a_t_placeOf, .inl (E 0, 64, .inl (A4 t_placeOf))), (a_t_memories, .inl (E 0, 64, .inl (A4 t_memories))), (a_t_now, .inl (E 0, 98, .inl (A4 t_now))), (a_t_nextPlace, .inl (E 0, 320, .inl (A4 t_nextPlace))), (a_t_kindOf, .inl (E 0, 64, .inl (A4 t_kindOf))), (a_t_newKind, .inl (E 0, 64, .inl (A4 t_newKind))), (a_t_stateOfKind, .inl (E 0, 64, .inl (A4 t_stateOfKind))), (a_t_stateAt, .inl (E 0, 64, .inl (A4 t_stateAt))), (a_t_stepTo, .inl (E 0, 320, .inl (A4 t_stepTo)))] (some (.int (z4 res.1))) [(a_t, .inr (12, [.ref a_t_now, .ref a_t_read, .ref a_t_past, .int (z4 t_deeds), .ref a_t_images, .ref a_t_isKept, .ref a_t_text, .int (z4 t_letters), .int (z4 t_at), .int (z4 t_tokenAt), .int (z4 t_tokenSort), .int (z4 t_tokenValue), .int (z4 t_items), .int (z4 t_isChanceTold), .int (z4 t_areSumsTold), .ref a_t_metAt, .ref a_t_memoryAt, .ref a_t_upAt, .ref a_t_downAt, .ref a_t_isSignal, .ref a_t_memories, .ref a_t_placeOf, .ref a_t_nextPlace, .int (z4 res.2.1), .ref a_t_kindOf, .ref a_t_newKind, .int (z4 res.2.2.1), .ref a_t_stateOfKind, .ref a_t_stateAt, .ref a_t_stepTo, .int (z4 res.2.2.2.1), .ref a_t_far, .ref a_t_ways, .ref a_t_nextWays, .ref a_t_table])), (a_t_placeOf, .inl (E 0, 64, .inl (A4 res.2.2.2.2.1))), (a_t_memories, .inl (E 0, 64, .inl (A4 res.2.2.2.2.2.1))), (a_t_now, .inl (E 0, 98, .inl (A4 t_now))), (a_t_nextPlace, .inl (E 0, 320, .inl (A4 res.2.2.2.2.2.2.1))), (a_t_kindOf, .inl (E 0, 64, .inl (A4 res.2.2.2.2.2.2.2.1))), (a_t_newKind, .inl (E 0, 64, .inl (A4 res.2.2.2.2.2.2.2.2.1))), (a_t_stateOfKind, .inl (E 0, 64, .inl (A4 res.2.2.2.2.2.2.2.2.2.1))), (a_t_stateAt, .inl (E 0, 64, .inl (A4 res.2.2.2.2.2.2.2.2.2.2.1))), (a_t_stepTo, .inl (E 0, 320, .inl (A4 res.2.2.2.2.2.2.2.2.2.2.2)))] := by
  refine MWi (by decide) (Nat.le_of_ble_eq_true rfl) ?_
  intro p e s m args below meth c A Q X hK hP hD hA ret ls hl
  have hS : va_S A s.heap s.heap [] := va_S.rf
  have hx := X.1
  have hb := X.2.1
  have hl : lv_has ls 3 [(0, .ref a_t), (1, .int (z4 x1)), (2, .int (z4 x2))] := hl
  unfold F_X12_step at hf
  refine lv_aload_n hx hb dX12_step_0 rfl (lv_at hl 0 rfl) ?_
  obtain ⟨o1, ho, hf⟩ := bd_some hf
  refine m_cVW X hK hP hD hS hA (wr := []) (k_X12_build n a_t a_t_now a_t_read a_t_past a_t_images a_t_isKept a_t_text a_t_metAt a_t_memoryAt a_t_upAt a_t_downAt a_t_isSignal a_t_memories a_t_placeOf a_t_nextPlace a_t_kindOf a_t_newKind a_t_stateOfKind a_t_stateAt a_t_stepTo a_t_far a_t_ways a_t_nextWays a_t_table t_deeds t_letters t_at t_tokenAt t_tokenSort t_tokenValue t_items t_isChanceTold t_areSumsTold t_places t_kinds t_states t_placeOf t_memories t_now t_nextPlace t_kindOf t_newKind t_stateOfKind t_stateAt t_stepTo o1 ho) [0, 1, 2, 3, 4, 5, 6, 7, 8, 9] [] [0, 1, 2, 3, 4, 5, 6, 7, 8, 9] [(a_t, .inr (12, [.ref a_t_now, .ref a_t_read, .ref a_t_past, .int (z4 t_deeds), .ref a_t_images, .ref a_t_isKept, .ref a_t_text, .int (z4 t_letters), .int (z4 t_at), .int (z4 t_tokenAt), .int (z4 t_tokenSort), .int (z4 t_tokenValue), .int (z4 t_items), .int (z4 t_isChanceTold), .int (z4 t_areSumsTold), .ref a_t_metAt, .ref a_t_memoryAt, .ref a_t_upAt, .ref a_t_downAt, .ref a_t_isSignal, .ref a_t_memories, .ref a_t_placeOf, .ref a_t_nextPlace, .int (z4 o1.1), .ref a_t_kindOf, .ref a_t_newKind, .int (z4 o1.2.1), .ref a_t_stateOfKind, .ref a_t_stateAt, .ref a_t_stepTo, .int (z4 o1.2.2.1), .ref a_t_far, .ref a_t_ways, .ref a_t_nextWays, .ref a_t_table])), (a_t_placeOf, .inl (E 0, 64, .inl (A4 o1.2.2.2.1))), (a_t_memories, .inl (E 0, 64, .inl (A4 o1.2.2.2.2.1))), (a_t_now, .inl (E 0, 98, .inl (A4 t_now))), (a_t_nextPlace, .inl (E 0, 320, .inl (A4 o1.2.2.2.2.2.1))), (a_t_kindOf, .inl (E 0, 64, .inl (A4 o1.2.2.2.2.2.2.1))), (a_t_newKind, .inl (E 0, 64, .inl (A4 o1.2.2.2.2.2.2.2.1))), (a_t_stateOfKind, .inl (E 0, 64, .inl (A4 o1.2.2.2.2.2.2.2.2.1))), (a_t_stateAt, .inl (E 0, 64, .inl (A4 o1.2.2.2.2.2.2.2.2.2.1))), (a_t_stepTo, .inl (E 0, 320, .inl (A4 o1.2.2.2.2.2.2.2.2.2.2)))] rfl rfl rfl rfl (by decide) rfl rfl rfl cl_X12 lk_X12_215 co_X12_build dy_X12_build rfl rfl ⟨Nat.le_of_ble_eq_true rfl, Nat.le_of_ble_eq_true rfl⟩ hl.1 rfl (Nat.le_of_ble_eq_true rfl) dX12_step_1 (Nat.zero_le _) (Nat.zero_le _) (fun H locs hP hD hS => ?_)
  refine lv_iload_n hx hb dX12_step_4 rfl (lv_at hl 1 rfl) ?_
  refine m_iconst X dX12_step_5 ?_
  refine lv_aload_n hx hb dX12_step_6 rfl (lv_at hl 0 rfl) ?_
  refine m_get X hK hP cl_X12 iT_X12 30 (by decide) fl_X12_200 0 rfl rfl dX12_step_7 ?_
  refine m_iconst X dX12_step_10 ?_
  refine m_isub X dX12_step_11 ?_
  obtain ⟨o2, ho, hf⟩ := bd_some hf
  refine m_cSR X hK (k_X12_in n x1 0 (o1.2.2.1 - 1) o2 ho) (hP.sub (ws' := []) [] rfl) lk_X12_87 co_X12_in dy_X12_in rfl rfl ⟨Nat.le_of_ble_eq_true rfl, Nat.le_of_ble_eq_true rfl⟩ hl.1 rfl (Nat.le_of_ble_eq_true rfl) dX12_step_12 (Nat.zero_le _) (Nat.zero_le _) ?_
  obtain ⟨o3, hj3, hr3⟩ := bd_some hf
  have J3 : ∀ (o_ : Int), o3 = o_ → ∀ (H : Heap) (locs : List Loc) (ls : Array Slot), lv_has ls 3 [] → va_P D vwCl [(a_t, .inr (12, [.ref a_t_now, .ref a_t_read, .ref a_t_past, .int (z4 t_deeds), .ref a_t_images, .ref a_t_isKept, .ref a_t_text, .int (z4 t_letters), .int (z4 t_at), .int (z4 t_tokenAt), .int (z4 t_tokenSort), .int (z4 t_tokenValue), .int (z4 t_items), .int (z4 t_isChanceTold), .int (z4 t_areSumsTold), .ref a_t_metAt, .ref a_t_memoryAt, .ref a_t_upAt, .ref a_t_downAt, .ref a_t_isSignal, .ref a_t_memories, .ref a_t_placeOf, .ref a_t_nextPlace, .int (z4 o1.1), .ref a_t_kindOf, .ref a_t_newKind, .int (z4 o1.2.1), .ref a_t_stateOfKind, .ref a_t_stateAt, .ref a_t_stepTo, .int (z4 o1.2.2.1), .ref a_t_far, .ref a_t_ways, .ref a_t_nextWays, .ref a_t_table])), (a_t_placeOf, .inl (E 0, 64, .inl (A4 o1.2.2.2.1))), (a_t_memories, .inl (E 0, 64, .inl (A4 o1.2.2.2.2.1))), (a_t_now, .inl (E 0, 98, .inl (A4 t_now))), (a_t_nextPlace, .inl (E 0, 320, .inl (A4 o1.2.2.2.2.2.1))), (a_t_kindOf, .inl (E 0, 64, .inl (A4 o1.2.2.2.2.2.2.1))), (a_t_newKind, .inl (E 0, 64, .inl (A4 o1.2.2.2.2.2.2.2.1))), (a_t_stateOfKind, .inl (E 0, 64, .inl (A4 o1.2.2.2.2.2.2.2.2.1))), (a_t_stateAt, .inl (E 0, 64, .inl (A4 o1.2.2.2.2.2.2.2.2.2.1))), (a_t_stepTo, .inl (E 0, 320, .inl (A4 o1.2.2.2.2.2.2.2.2.2.2)))] H → va_D A [(a_t, .inr (12, [.ref a_t_now, .ref a_t_read, .ref a_t_past, .int (z4 t_deeds), .ref a_t_images, .ref a_t_isKept, .ref a_t_text, .int (z4 t_letters), .int (z4 t_at), .int (z4 t_tokenAt), .int (z4 t_tokenSort), .int (z4 t_tokenValue), .int (z4 t_items), .int (z4 t_isChanceTold), .int (z4 t_areSumsTold), .ref a_t_metAt, .ref a_t_memoryAt, .ref a_t_upAt, .ref a_t_downAt, .ref a_t_isSignal, .ref a_t_memories, .ref a_t_placeOf, .ref a_t_nextPlace, .int (z4 o1.1), .ref a_t_kindOf, .ref a_t_newKind, .int (z4 o1.2.1), .ref a_t_stateOfKind, .ref a_t_stateAt, .ref a_t_stepTo, .int (z4 o1.2.2.1), .ref a_t_far, .ref a_t_ways, .ref a_t_nextWays, .ref a_t_table])), (a_t_placeOf, .inl (E 0, 64, .inl (A4 o1.2.2.2.1))), (a_t_memories, .inl (E 0, 64, .inl (A4 o1.2.2.2.2.1))), (a_t_now, .inl (E 0, 98, .inl (A4 t_now))), (a_t_nextPlace, .inl (E 0, 320, .inl (A4 o1.2.2.2.2.2.1))), (a_t_kindOf, .inl (E 0, 64, .inl (A4 o1.2.2.2.2.2.2.1))), (a_t_newKind, .inl (E 0, 64, .inl (A4 o1.2.2.2.2.2.2.2.1))), (a_t_stateOfKind, .inl (E 0, 64, .inl (A4 o1.2.2.2.2.2.2.2.2.1))), (a_t_stateAt, .inl (E 0, 64, .inl (A4 o1.2.2.2.2.2.2.2.2.2.1))), (a_t_stepTo, .inl (E 0, 320, .inl (A4 o1.2.2.2.2.2.2.2.2.2.2)))] → va_S A s.heap H locs → W p l e rm_X12_step s m args below meth c H locs 0 0 Q (F0 m 39 ls [.int (z4 o_)]) := by
    intro o_ ho_ H locs ls hl hP hD hS
    subst ho_
    obtain rfl := Option.some.inj hr3
    exact ret _ _ _ _ hP hD hS dX12_step_39
  obtain ⟨h4, hj3⟩ := ck_some hj3
  refine m_if_eq X h4 dX12_step_15 (tgt := 38) (by decide) (fun (hc_ : o2 = 0) => ?_) (fun (hc_ : ¬ (o2 = 0)) => ?_)
  · rw [if_pos hc_] at hj3
    refine m_iconst X dX12_step_38 ?_
    exact J3 _ (Option.some.inj hj3).symm _ _ _ (lv_sub hl [] rfl) hP hD hS
  · rw [if_neg hc_] at hj3
    refine lv_iload_n hx hb dX12_step_18 rfl (lv_at hl 2 rfl) ?_
    obtain ⟨o5, ho, hj3⟩ := bd_some hj3
    refine m_cSR X hK (k_X12_isSign n x2 o5 ho) (hP.sub (ws' := []) [] rfl) lk_X12_169 co_X12_isSign dy_X12_isSign rfl rfl ⟨Nat.le_of_ble_eq_true rfl, Nat.le_of_ble_eq_true rfl⟩ hl.1 rfl (Nat.le_of_ble_eq_true rfl) dX12_step_19 (Nat.zero_le _) (Nat.zero_le _) ?_
    obtain ⟨h6, hj3⟩ := ck_some hj3
    refine m_if_eq X h6 dX12_step_22 (tgt := 38) (by decide) (fun (hc_ : o5 = 0) => ?_) (fun (hc_ : ¬ (o5 = 0)) => ?_)
    · rw [if_pos hc_] at hj3
      refine m_iconst X dX12_step_38 ?_
      exact J3 _ (Option.some.inj hj3).symm _ _ _ (lv_sub hl [] rfl) hP hD hS
    · rw [if_neg hc_] at hj3
      refine lv_aload_n hx hb dX12_step_25 rfl (lv_at hl 0 rfl) ?_
      refine m_get X hK hP cl_X12 iT_X12 29 (by decide) fl_X12_65 0 rfl rfl dX12_step_26 ?_
      refine m_iconst X dX12_step_29 ?_
      refine lv_iload_n hx hb dX12_step_30 rfl (lv_at hl 1 rfl) ?_
      refine m_imul X dX12_step_31 ?_
      refine lv_iload_n hx hb dX12_step_32 rfl (lv_at hl 2 rfl) ?_
      refine m_iadd X dX12_step_33 ?_
      obtain ⟨h7, hj3⟩ := ck_some hj3
      refine m_iald X hK hP 9 rfl (by decide) h7 dX12_step_34 ?_
      refine lv_goto (tgt := 39) hx hb dX12_step_35 (by decide) ?_
      exact J3 _ (Option.some.inj hj3).symm _ _ _ (lv_sub hl [] rfl) hP hD hS
def F_X12_farBehind (n : Nat)  (t_stepTo : Nat → Int) (t_far : Nat → Int) (x1 : Int) (x2 : Int) : Option (Int) :=
  ck (ix_ ((5 * x1) + x2) 320) <|
  Option.bind (α := Int) (
    ck (r4 (t_stepTo ((5 * x1) + x2).toNat)) <|
    if t_stepTo ((5 * x1) + x2).toNat = (-5) then
      some 0
    else
      ck (ix_ (t_stepTo ((5 * x1) + x2).toNat) 64) <|
      some (t_far (t_stepTo ((5 * x1) + x2).toNat).toNat)) fun o2 =>
  some o2
def rm_X12_farBehind : Room := { frames := 0, cells := 0, slots := 0, locals := 0 }
set_option maxHeartbeats 4000000 in
set_option maxRecDepth 100000 in
theorem k_X12_farBehind {l : Launch} {D : va_G} {E : Nat → ClassId} (n : Nat) (a_t a_t_now a_t_read a_t_past a_t_images a_t_isKept a_t_text a_t_metAt a_t_memoryAt a_t_upAt a_t_downAt a_t_isSignal a_t_memories a_t_placeOf a_t_nextPlace a_t_kindOf a_t_newKind a_t_stateOfKind a_t_stateAt a_t_stepTo a_t_far a_t_ways a_t_nextWays a_t_table : Nat) (t_deeds : Int) (t_letters : Int) (t_at : Int) (t_tokenAt : Int) (t_tokenSort : Int) (t_tokenValue : Int) (t_items : Int) (t_isChanceTold : Int) (t_areSumsTold : Int) (t_places : Int) (t_kinds : Int) (t_states : Int) (t_stepTo : Nat → Int) (t_far : Nat → Int) (x1 : Int) (x2 : Int) (res : Int) (hf : F_X12_farBehind n t_stepTo t_far x1 x2 = some res) : MR l yX12_farBehind (.code yX12_farBehind cX12_farBehind 4 (some .int)) rm_X12_farBehind D E [.ref a_t, .int (z4 x1), .int (z4 x2)] [(a_t, .inr (12, [.ref a_t_now, .ref a_t_read, .ref a_t_past, .int (z4 t_deeds), .ref a_t_images, .ref a_t_isKept, .ref a_t_text, .int (z4 t_letters), .int (z4 t_at), .int (z4 t_tokenAt), .int (z4 t_tokenSort), .int (z4 t_tokenValue), .int (z4 t_items), .int (z4 t_isChanceTold), .int (z4 t_areSumsTold), .ref a_t_metAt, .ref a_t_memoryAt, .ref a_t_upAt, .ref a_t_downAt, .ref a_t_isSignal, .ref a_t_memories, .ref a_t_placeOf, .ref a_t_nextPlace, .int (z4 t_places), .ref a_t_kindOf, .ref a_t_newKind, .int (z4 t_kinds), .ref a_t_stateOfKind, .ref a_t_stateAt, .ref a_t_stepTo, .int (z4 t_states), .ref a_t_far, .ref a_t_ways, .ref a_t_nextWays, .ref a_t_table])), (a_t_stepTo, .inl (E 0, 320, .inl (A4 t_stepTo))), (a_t_far, .inl (E 0, 64, .inl (A4 t_far)))] (some (.int (z4 res))) := by
  refine MRi (by decide) (Nat.le_of_ble_eq_true rfl) ?_
  intro p e s m args below meth c Q X hK hP ret ls hl
  have hx := X.1
  have hb := X.2.1
  have hl : lv_has ls 4 [(0, .ref a_t), (1, .int (z4 x1)), (2, .int (z4 x2))] := hl
  unfold F_X12_farBehind at hf
  refine lv_aload_n hx hb dX12_farBehind_0 rfl (lv_at hl 0 rfl) ?_
  refine m_get X hK hP cl_X12 iT_X12 29 (by decide) fl_X12_65 0 rfl rfl dX12_farBehind_1 ?_
  refine m_iconst X dX12_farBehind_4 ?_
  refine lv_iload_n hx hb dX12_farBehind_5 rfl (lv_at hl 1 rfl) ?_
  refine m_imul X dX12_farBehind_6 ?_
  refine lv_iload_n hx hb dX12_farBehind_7 rfl (lv_at hl 2 rfl) ?_
  refine m_iadd X dX12_farBehind_8 ?_
  obtain ⟨h1, hf⟩ := ck_some hf
  refine m_iald X hK hP 1 rfl (by decide) h1 dX12_farBehind_9 ?_
  refine lv_istore_n (lv' := [(3, .int (z4 (t_stepTo ((5 * x1) + x2).toNat))), (0, .ref a_t), (1, .int (z4 x1)), (2, .int (z4 x2))]) hx hb dX12_farBehind_10 rfl hl (by decide) rfl (fun ls hl => ?_)
  refine lv_iload_n hx hb dX12_farBehind_11 rfl (lv_at hl 0 rfl) ?_
  refine m_bipush X dX12_farBehind_12 (by decide) ?_
  obtain ⟨o2, hj2, hr2⟩ := bd_some hf
  have J2 : ∀ (o_ : Int), o2 = o_ → ∀ (ls : Array Slot), lv_has ls 4 [] → W p l e rm_X12_farBehind s m args below meth c s.heap [] 0 0 Q (F0 m 27 ls [.int (z4 o_)]) := by
    intro o_ ho_ ls hl 
    subst ho_
    obtain rfl := Option.some.inj hr2
    exact ret _ _ dX12_farBehind_27
  obtain ⟨h3, hj2⟩ := ck_some hj2
  refine m_icmp_ne X ⟨h3, ⟨by decide, by decide⟩⟩ dX12_farBehind_14 (tgt := 21) (by decide) (fun (hc_ : ¬ (t_stepTo ((5 * x1) + x2).toNat = (-5))) => ?_) (fun (hc_ : t_stepTo ((5 * x1) + x2).toNat = (-5)) => ?_)
  · rw [if_neg hc_] at hj2
    refine lv_aload_n hx hb dX12_farBehind_21 rfl (lv_at hl 1 rfl) ?_
    refine m_get X hK hP cl_X12 iT_X12 31 (by decide) fl_X12_68 0 rfl rfl dX12_farBehind_22 ?_
    refine lv_iload_n hx hb dX12_farBehind_25 rfl (lv_at hl 0 rfl) ?_
    obtain ⟨h4, hj2⟩ := ck_some hj2
    refine m_iald X hK hP 2 rfl (by decide) h4 dX12_farBehind_26 ?_
    exact J2 _ (Option.some.inj hj2).symm _ (lv_sub hl [] rfl) 
  · rw [if_pos hc_] at hj2
    refine m_iconst X dX12_farBehind_17 ?_
    refine lv_goto (tgt := 27) hx hb dX12_farBehind_18 (by decide) ?_
    exact J2 _ (Option.some.inj hj2).symm _ (lv_sub hl [] rfl) 
def F_X12_findFar_L2 (n : Nat) (t_states : Int) (v2_1 : Int) (t_far_l2 : Nat → Int) : Option ((Int × (Nat → Int)) ⊕ ((Nat → Int))) :=
  ck (r4 v2_1 ∧ r4 t_states) <|
  if v2_1 < t_states then
    ck (ix_ v2_1 64) <|
    some (.inl (v2_1 + 1, up_ t_far_l2 (v2_1).toNat 100))
  else
    some (.inr t_far_l2)
def F_X12_findFar_L46 (n : Nat) (t_stepTo : Nat → Int) (v36_2 : Int) (v46_3 : Int) (t_far_l46 : Nat → Int) : Option ((Int × (Nat → Int)) ⊕ ((Nat → Int))) :=
  ck (r4 v46_3) <|
  if v46_3 < 5 then
    (F_X12_farBehind n t_stepTo t_far_l46 v36_2 v46_3).bind fun o10 =>
    ck (ix_ v36_2 64) <|
    Option.bind (α := Int) (
      ck (r4 (o10 + 1) ∧ r4 (t_far_l46 (v36_2).toNat)) <|
      if o10 + 1 < t_far_l46 (v36_2).toNat then
        some (o10 + 1)
      else
        ck (ix_ v36_2 64) <|
        some (t_far_l46 (v36_2).toNat)) fun o12 =>
    ck (ix_ v36_2 64) <|
    some (.inl (v46_3 + 1, up_ t_far_l46 (v36_2).toNat o12))
  else
    some (.inr t_far_l46)
def F_X12_findFar_L36 (n : Nat) (t_states : Int) (t_stepTo : Nat → Int) (v36_2 : Int) (t_far_l36 : Nat → Int) : Option ((Int × (Nat → Int)) ⊕ ((Nat → Int))) :=
  ck (r4 v36_2 ∧ r4 t_states) <|
  if v36_2 < t_states then
    (lp_ (fun (q : Int × (Nat → Int)) => F_X12_findFar_L46 n t_stepTo v36_2 q.1 q.2) n (0, t_far_l36)).bind fun o8 =>
    some (.inl (v36_2 + 1, o8))
  else
    some (.inr t_far_l36)
def F_X12_findFar_L26 (n : Nat) (t_states : Int) (t_stepTo : Nat → Int) (v26_1 : Int) (t_far_l26 : Nat → Int) : Option ((Int × (Nat → Int)) ⊕ ((Nat → Int))) :=
  ck (r4 v26_1 ∧ r4 t_states) <|
  if v26_1 < t_states then
    (lp_ (fun (q : Int × (Nat → Int)) => F_X12_findFar_L36 n t_states t_stepTo q.1 q.2) n (0, t_far_l26)).bind fun o6 =>
    some (.inl (v26_1 + 1, o6))
  else
    some (.inr t_far_l26)
def F_X12_findFar (n : Nat)  (t_states : Int) (t_far : Nat → Int) (t_stepTo : Nat → Int)  : Option ((Nat → Int)) :=
  (lp_ (fun (q : Int × (Nat → Int)) => F_X12_findFar_L2 n t_states q.1 q.2) n (0, t_far)).bind fun o1 =>
  (lp_ (fun (q : Int × (Nat → Int)) => F_X12_findFar_L26 n t_states t_stepTo q.1 q.2) n (0, o1)).bind fun o4 =>
  some o4
def rm_X12_findFar : Room := { frames := 1, cells := 0, slots := 0, locals := 23 }
set_option maxHeartbeats 4000000 in
set_option maxRecDepth 100000 in
theorem k_X12_findFar {l : Launch} {D : va_G} {E : Nat → ClassId} (n : Nat) (a_t a_t_now a_t_read a_t_past a_t_images a_t_isKept a_t_text a_t_metAt a_t_memoryAt a_t_upAt a_t_downAt a_t_isSignal a_t_memories a_t_placeOf a_t_nextPlace a_t_kindOf a_t_newKind a_t_stateOfKind a_t_stateAt a_t_stepTo a_t_far a_t_ways a_t_nextWays a_t_table : Nat) (t_deeds : Int) (t_letters : Int) (t_at : Int) (t_tokenAt : Int) (t_tokenSort : Int) (t_tokenValue : Int) (t_items : Int) (t_isChanceTold : Int) (t_areSumsTold : Int) (t_places : Int) (t_kinds : Int) (t_states : Int) (t_far : Nat → Int) (t_stepTo : Nat → Int) (res : (Nat → Int)) (hf : F_X12_findFar n t_states t_far t_stepTo = some res) : MW l yX12_findFar (.code yX12_findFar cX12_findFar 5 none) rm_X12_findFar D E [.ref a_t] [(a_t, .inr (12, [.ref a_t_now, .ref a_t_read, .ref a_t_past, .int (z4 t_deeds), .ref a_t_images, .ref a_t_isKept, .ref a_t_text, .int (z4 t_letters), .int (z4 t_at), .int (z4 t_tokenAt), .int (z4 t_tokenSort), .int (z4 t_tokenValue), .int (z4 t_items), .int (z4 t_isChanceTold), .int (z4 t_areSumsTold), .ref a_t_metAt, .ref a_t_memoryAt, .ref a_t_upAt, .ref a_t_downAt, .ref a_t_isSignal, .ref a_t_memories, .ref a_t_placeOf, .ref a_t_nextPlace, .int (z4 t_places), .ref a_t_kindOf, .ref a_t_newKind, .int (z4 t_kinds), .ref a_t_stateOfKind, .ref a_t_stateAt, .ref a_t_stepTo, .int (z4 t_states), .ref a_t_far, .ref a_t_ways, .ref a_t_nextWays, .ref a_t_table])), (a_t_far, .inl (E 0, 64, .inl (A4 t_far))), (a_t_stepTo, .inl (E 0, 320, .inl (A4 t_stepTo)))] none [(a_t, .inr (12, [.ref a_t_now, .ref a_t_read, .ref a_t_past, .int (z4 t_deeds), .ref a_t_images, .ref a_t_isKept, .ref a_t_text, .int (z4 t_letters), .int (z4 t_at), .int (z4 t_tokenAt), .int (z4 t_tokenSort), .int (z4 t_tokenValue), .int (z4 t_items), .int (z4 t_isChanceTold), .int (z4 t_areSumsTold), .ref a_t_metAt, .ref a_t_memoryAt, .ref a_t_upAt, .ref a_t_downAt, .ref a_t_isSignal, .ref a_t_memories, .ref a_t_placeOf, .ref a_t_nextPlace, .int (z4 t_places), .ref a_t_kindOf, .ref a_t_newKind, .int (z4 t_kinds), .ref a_t_stateOfKind, .ref a_t_stateAt, .ref a_t_stepTo, .int (z4 t_states), .ref a_t_far, .ref a_t_ways, .ref a_t_nextWays, .ref a_t_table])), (a_t_far, .inl (E 0, 64, .inl (A4 res))), (a_t_stepTo, .inl (E 0, 320, .inl (A4 t_stepTo)))] := by
  refine MWv (by decide) (Nat.le_of_ble_eq_true rfl) ?_
  intro p e s m args below meth c A Q X hK hP hD hA ret ls hl
  have hS : va_S A s.heap s.heap [] := va_S.rf
  have hx := X.1
  have hb := X.2.1
  have hl : lv_has ls 5 [(0, .ref a_t)] := hl
  unfold F_X12_findFar at hf
  refine m_iconst X dX12_findFar_0 ?_
  refine lv_istore_n (lv' := [(1, .int (z4 0)), (0, .ref a_t)]) hx hb dX12_findFar_1 rfl hl (by decide) rfl (fun ls hl => ?_)
  obtain ⟨o1, hj1, hr1⟩ := bd_some hf
  have E1_0 : ∀ (o_ : (Nat → Int)), o1 = o_ → ∀ (H : Heap) (locs : List Loc) (ls : Array Slot), lv_has ls 5 [(0, .ref a_t)] → va_P D vwCl [(a_t, .inr (12, [.ref a_t_now, .ref a_t_read, .ref a_t_past, .int (z4 t_deeds), .ref a_t_images, .ref a_t_isKept, .ref a_t_text, .int (z4 t_letters), .int (z4 t_at), .int (z4 t_tokenAt), .int (z4 t_tokenSort), .int (z4 t_tokenValue), .int (z4 t_items), .int (z4 t_isChanceTold), .int (z4 t_areSumsTold), .ref a_t_metAt, .ref a_t_memoryAt, .ref a_t_upAt, .ref a_t_downAt, .ref a_t_isSignal, .ref a_t_memories, .ref a_t_placeOf, .ref a_t_nextPlace, .int (z4 t_places), .ref a_t_kindOf, .ref a_t_newKind, .int (z4 t_kinds), .ref a_t_stateOfKind, .ref a_t_stateAt, .ref a_t_stepTo, .int (z4 t_states), .ref a_t_far, .ref a_t_ways, .ref a_t_nextWays, .ref a_t_table])), (a_t_far, .inl (E 0, 64, .inl (A4 o_))), (a_t_stepTo, .inl (E 0, 320, .inl (A4 t_stepTo)))] H → va_D A [(a_t, .inr (12, [.ref a_t_now, .ref a_t_read, .ref a_t_past, .int (z4 t_deeds), .ref a_t_images, .ref a_t_isKept, .ref a_t_text, .int (z4 t_letters), .int (z4 t_at), .int (z4 t_tokenAt), .int (z4 t_tokenSort), .int (z4 t_tokenValue), .int (z4 t_items), .int (z4 t_isChanceTold), .int (z4 t_areSumsTold), .ref a_t_metAt, .ref a_t_memoryAt, .ref a_t_upAt, .ref a_t_downAt, .ref a_t_isSignal, .ref a_t_memories, .ref a_t_placeOf, .ref a_t_nextPlace, .int (z4 t_places), .ref a_t_kindOf, .ref a_t_newKind, .int (z4 t_kinds), .ref a_t_stateOfKind, .ref a_t_stateAt, .ref a_t_stepTo, .int (z4 t_states), .ref a_t_far, .ref a_t_ways, .ref a_t_nextWays, .ref a_t_table])), (a_t_far, .inl (E 0, 64, .inl (A4 o_))), (a_t_stepTo, .inl (E 0, 320, .inl (A4 t_stepTo)))] → va_S A s.heap H locs → W p l e rm_X12_findFar s m args below meth c H locs 0 0 Q (F0 m 24 ls []) := by
    intro o_ ho_ H locs ls hl hP hD hS
    subst ho_
    refine m_iconst X dX12_findFar_24 ?_
    refine lv_istore_n (lv' := [(1, .int (z4 0)), (0, .ref a_t)]) hx hb dX12_findFar_25 rfl hl (by decide) rfl (fun ls hl => ?_)
    obtain ⟨o4, hj4, hr4⟩ := bd_some hr1
    have E4_0 : ∀ (o_ : (Nat → Int)), o4 = o_ → ∀ (H : Heap) (locs : List Loc) (ls : Array Slot), lv_has ls 5 [] → va_P D vwCl [(a_t, .inr (12, [.ref a_t_now, .ref a_t_read, .ref a_t_past, .int (z4 t_deeds), .ref a_t_images, .ref a_t_isKept, .ref a_t_text, .int (z4 t_letters), .int (z4 t_at), .int (z4 t_tokenAt), .int (z4 t_tokenSort), .int (z4 t_tokenValue), .int (z4 t_items), .int (z4 t_isChanceTold), .int (z4 t_areSumsTold), .ref a_t_metAt, .ref a_t_memoryAt, .ref a_t_upAt, .ref a_t_downAt, .ref a_t_isSignal, .ref a_t_memories, .ref a_t_placeOf, .ref a_t_nextPlace, .int (z4 t_places), .ref a_t_kindOf, .ref a_t_newKind, .int (z4 t_kinds), .ref a_t_stateOfKind, .ref a_t_stateAt, .ref a_t_stepTo, .int (z4 t_states), .ref a_t_far, .ref a_t_ways, .ref a_t_nextWays, .ref a_t_table])), (a_t_far, .inl (E 0, 64, .inl (A4 o_))), (a_t_stepTo, .inl (E 0, 320, .inl (A4 t_stepTo)))] H → va_D A [(a_t, .inr (12, [.ref a_t_now, .ref a_t_read, .ref a_t_past, .int (z4 t_deeds), .ref a_t_images, .ref a_t_isKept, .ref a_t_text, .int (z4 t_letters), .int (z4 t_at), .int (z4 t_tokenAt), .int (z4 t_tokenSort), .int (z4 t_tokenValue), .int (z4 t_items), .int (z4 t_isChanceTold), .int (z4 t_areSumsTold), .ref a_t_metAt, .ref a_t_memoryAt, .ref a_t_upAt, .ref a_t_downAt, .ref a_t_isSignal, .ref a_t_memories, .ref a_t_placeOf, .ref a_t_nextPlace, .int (z4 t_places), .ref a_t_kindOf, .ref a_t_newKind, .int (z4 t_kinds), .ref a_t_stateOfKind, .ref a_t_stateAt, .ref a_t_stepTo, .int (z4 t_states), .ref a_t_far, .ref a_t_ways, .ref a_t_nextWays, .ref a_t_table])), (a_t_far, .inl (E 0, 64, .inl (A4 o_))), (a_t_stepTo, .inl (E 0, 320, .inl (A4 t_stepTo)))] → va_S A s.heap H locs → W p l e rm_X12_findFar s m args below meth c H locs 0 0 Q (F0 m 107 ls []) := by
      intro o_ ho_ H locs ls hl hP hD hS
      subst ho_
      obtain rfl := Option.some.inj hr4
      exact ret _ _ _ _ hP hD hS dX12_findFar_107
    have L4 : ∀ (k_ : Nat) (v26_1 : Int) (t_far_l26 : Nat → Int), ∀ (H : Heap) (locs : List Loc) (ls : Array Slot), lv_has ls 5 [(0, .ref a_t), (1, .int (z4 v26_1))] → va_P D vwCl [(a_t, .inr (12, [.ref a_t_now, .ref a_t_read, .ref a_t_past, .int (z4 t_deeds), .ref a_t_images, .ref a_t_isKept, .ref a_t_text, .int (z4 t_letters), .int (z4 t_at), .int (z4 t_tokenAt), .int (z4 t_tokenSort), .int (z4 t_tokenValue), .int (z4 t_items), .int (z4 t_isChanceTold), .int (z4 t_areSumsTold), .ref a_t_metAt, .ref a_t_memoryAt, .ref a_t_upAt, .ref a_t_downAt, .ref a_t_isSignal, .ref a_t_memories, .ref a_t_placeOf, .ref a_t_nextPlace, .int (z4 t_places), .ref a_t_kindOf, .ref a_t_newKind, .int (z4 t_kinds), .ref a_t_stateOfKind, .ref a_t_stateAt, .ref a_t_stepTo, .int (z4 t_states), .ref a_t_far, .ref a_t_ways, .ref a_t_nextWays, .ref a_t_table])), (a_t_far, .inl (E 0, 64, .inl (A4 t_far_l26))), (a_t_stepTo, .inl (E 0, 320, .inl (A4 t_stepTo)))] H → va_D A [(a_t, .inr (12, [.ref a_t_now, .ref a_t_read, .ref a_t_past, .int (z4 t_deeds), .ref a_t_images, .ref a_t_isKept, .ref a_t_text, .int (z4 t_letters), .int (z4 t_at), .int (z4 t_tokenAt), .int (z4 t_tokenSort), .int (z4 t_tokenValue), .int (z4 t_items), .int (z4 t_isChanceTold), .int (z4 t_areSumsTold), .ref a_t_metAt, .ref a_t_memoryAt, .ref a_t_upAt, .ref a_t_downAt, .ref a_t_isSignal, .ref a_t_memories, .ref a_t_placeOf, .ref a_t_nextPlace, .int (z4 t_places), .ref a_t_kindOf, .ref a_t_newKind, .int (z4 t_kinds), .ref a_t_stateOfKind, .ref a_t_stateAt, .ref a_t_stepTo, .int (z4 t_states), .ref a_t_far, .ref a_t_ways, .ref a_t_nextWays, .ref a_t_table])), (a_t_far, .inl (E 0, 64, .inl (A4 t_far_l26))), (a_t_stepTo, .inl (E 0, 320, .inl (A4 t_stepTo)))] → va_S A s.heap H locs → lp_ (fun (q : Int × (Nat → Int)) => F_X12_findFar_L26 n t_states t_stepTo q.1 q.2) k_ (v26_1, t_far_l26) = some o4 → W p l e rm_X12_findFar s m args below meth c H locs 0 0 Q (F0 m 26 ls []) := by
      intro k_
      induction k_ with
      | zero =>
        intro v26_1 t_far_l26 H locs ls hl hP hD hS hq_; exact (lp_zero hq_).elim
      | succ k_ ih4 =>
        intro v26_1 t_far_l26 H locs ls hl hP hD hS hq_
        obtain ⟨t_4, hb4, hq4⟩ := lp_some hq_
        replace hb4 : F_X12_findFar_L26 n t_states t_stepTo v26_1 t_far_l26 = some t_4 := hb4
        unfold F_X12_findFar_L26 at hb4
        refine lv_iload_n hx hb dX12_findFar_26 rfl (lv_at hl 1 rfl) ?_
        refine lv_aload_n hx hb dX12_findFar_27 rfl (lv_at hl 0 rfl) ?_
        refine m_get X hK hP cl_X12 iT_X12 30 (by decide) fl_X12_200 0 rfl rfl dX12_findFar_28 ?_
        obtain ⟨h5, hb4⟩ := ck_some hb4
        refine m_icmp_ge X h5 dX12_findFar_31 (tgt := 107) (by decide) (fun (hc_ : ¬ (v26_1 < t_states)) => ?_) (fun (hc_ : v26_1 < t_states) => ?_)
        · rw [if_neg hc_] at hb4
          obtain rfl := Option.some.inj hb4
          exact E4_0 _ (Option.some.inj hq4).symm _ _ _ (lv_sub hl [] rfl) hP hD hS
        · rw [if_pos hc_] at hb4
          refine m_iconst X dX12_findFar_34 ?_
          refine lv_istore_n (lv' := [(2, .int (z4 0)), (0, .ref a_t), (1, .int (z4 v26_1))]) hx hb dX12_findFar_35 rfl hl (by decide) rfl (fun ls hl => ?_)
          obtain ⟨o6, hj6, hr6⟩ := bd_some hb4
          have E6_0 : ∀ (o_ : (Nat → Int)), o6 = o_ → ∀ (H : Heap) (locs : List Loc) (ls : Array Slot), lv_has ls 5 [(0, .ref a_t), (1, .int (z4 v26_1))] → va_P D vwCl [(a_t, .inr (12, [.ref a_t_now, .ref a_t_read, .ref a_t_past, .int (z4 t_deeds), .ref a_t_images, .ref a_t_isKept, .ref a_t_text, .int (z4 t_letters), .int (z4 t_at), .int (z4 t_tokenAt), .int (z4 t_tokenSort), .int (z4 t_tokenValue), .int (z4 t_items), .int (z4 t_isChanceTold), .int (z4 t_areSumsTold), .ref a_t_metAt, .ref a_t_memoryAt, .ref a_t_upAt, .ref a_t_downAt, .ref a_t_isSignal, .ref a_t_memories, .ref a_t_placeOf, .ref a_t_nextPlace, .int (z4 t_places), .ref a_t_kindOf, .ref a_t_newKind, .int (z4 t_kinds), .ref a_t_stateOfKind, .ref a_t_stateAt, .ref a_t_stepTo, .int (z4 t_states), .ref a_t_far, .ref a_t_ways, .ref a_t_nextWays, .ref a_t_table])), (a_t_far, .inl (E 0, 64, .inl (A4 o_))), (a_t_stepTo, .inl (E 0, 320, .inl (A4 t_stepTo)))] H → va_D A [(a_t, .inr (12, [.ref a_t_now, .ref a_t_read, .ref a_t_past, .int (z4 t_deeds), .ref a_t_images, .ref a_t_isKept, .ref a_t_text, .int (z4 t_letters), .int (z4 t_at), .int (z4 t_tokenAt), .int (z4 t_tokenSort), .int (z4 t_tokenValue), .int (z4 t_items), .int (z4 t_isChanceTold), .int (z4 t_areSumsTold), .ref a_t_metAt, .ref a_t_memoryAt, .ref a_t_upAt, .ref a_t_downAt, .ref a_t_isSignal, .ref a_t_memories, .ref a_t_placeOf, .ref a_t_nextPlace, .int (z4 t_places), .ref a_t_kindOf, .ref a_t_newKind, .int (z4 t_kinds), .ref a_t_stateOfKind, .ref a_t_stateAt, .ref a_t_stepTo, .int (z4 t_states), .ref a_t_far, .ref a_t_ways, .ref a_t_nextWays, .ref a_t_table])), (a_t_far, .inl (E 0, 64, .inl (A4 o_))), (a_t_stepTo, .inl (E 0, 320, .inl (A4 t_stepTo)))] → va_S A s.heap H locs → W p l e rm_X12_findFar s m args below meth c H locs 0 0 Q (F0 m 101 ls []) := by
            intro o_ ho_ H locs ls hl hP hD hS
            subst ho_
            refine m_iinc X 1 [(1, .int (z4 (v26_1 + 1))), (0, .ref a_t)] dX12_findFar_101 hl rfl (by decide) rfl (fun ls hl => ?_)
            refine lv_goto (tgt := 26) hx hb dX12_findFar_104 (by decide) ?_
            obtain rfl := Option.some.inj hr6
            exact ih4 _ _ _ _ _ (lv_sub hl [1, 0] rfl) hP hD hS hq4
          have L6 : ∀ (k_ : Nat) (v36_2 : Int) (t_far_l36 : Nat → Int), ∀ (H : Heap) (locs : List Loc) (ls : Array Slot), lv_has ls 5 [(0, .ref a_t), (1, .int (z4 v26_1)), (2, .int (z4 v36_2))] → va_P D vwCl [(a_t, .inr (12, [.ref a_t_now, .ref a_t_read, .ref a_t_past, .int (z4 t_deeds), .ref a_t_images, .ref a_t_isKept, .ref a_t_text, .int (z4 t_letters), .int (z4 t_at), .int (z4 t_tokenAt), .int (z4 t_tokenSort), .int (z4 t_tokenValue), .int (z4 t_items), .int (z4 t_isChanceTold), .int (z4 t_areSumsTold), .ref a_t_metAt, .ref a_t_memoryAt, .ref a_t_upAt, .ref a_t_downAt, .ref a_t_isSignal, .ref a_t_memories, .ref a_t_placeOf, .ref a_t_nextPlace, .int (z4 t_places), .ref a_t_kindOf, .ref a_t_newKind, .int (z4 t_kinds), .ref a_t_stateOfKind, .ref a_t_stateAt, .ref a_t_stepTo, .int (z4 t_states), .ref a_t_far, .ref a_t_ways, .ref a_t_nextWays, .ref a_t_table])), (a_t_far, .inl (E 0, 64, .inl (A4 t_far_l36))), (a_t_stepTo, .inl (E 0, 320, .inl (A4 t_stepTo)))] H → va_D A [(a_t, .inr (12, [.ref a_t_now, .ref a_t_read, .ref a_t_past, .int (z4 t_deeds), .ref a_t_images, .ref a_t_isKept, .ref a_t_text, .int (z4 t_letters), .int (z4 t_at), .int (z4 t_tokenAt), .int (z4 t_tokenSort), .int (z4 t_tokenValue), .int (z4 t_items), .int (z4 t_isChanceTold), .int (z4 t_areSumsTold), .ref a_t_metAt, .ref a_t_memoryAt, .ref a_t_upAt, .ref a_t_downAt, .ref a_t_isSignal, .ref a_t_memories, .ref a_t_placeOf, .ref a_t_nextPlace, .int (z4 t_places), .ref a_t_kindOf, .ref a_t_newKind, .int (z4 t_kinds), .ref a_t_stateOfKind, .ref a_t_stateAt, .ref a_t_stepTo, .int (z4 t_states), .ref a_t_far, .ref a_t_ways, .ref a_t_nextWays, .ref a_t_table])), (a_t_far, .inl (E 0, 64, .inl (A4 t_far_l36))), (a_t_stepTo, .inl (E 0, 320, .inl (A4 t_stepTo)))] → va_S A s.heap H locs → lp_ (fun (q : Int × (Nat → Int)) => F_X12_findFar_L36 n t_states t_stepTo q.1 q.2) k_ (v36_2, t_far_l36) = some o6 → W p l e rm_X12_findFar s m args below meth c H locs 0 0 Q (F0 m 36 ls []) := by
            intro k_
            induction k_ with
            | zero =>
              intro v36_2 t_far_l36 H locs ls hl hP hD hS hq_; exact (lp_zero hq_).elim
            | succ k_ ih6 =>
              intro v36_2 t_far_l36 H locs ls hl hP hD hS hq_
              obtain ⟨t_6, hb6, hq6⟩ := lp_some hq_
              replace hb6 : F_X12_findFar_L36 n t_states t_stepTo v36_2 t_far_l36 = some t_6 := hb6
              unfold F_X12_findFar_L36 at hb6
              refine lv_iload_n hx hb dX12_findFar_36 rfl (lv_at hl 2 rfl) ?_
              refine lv_aload_n hx hb dX12_findFar_37 rfl (lv_at hl 0 rfl) ?_
              refine m_get X hK hP cl_X12 iT_X12 30 (by decide) fl_X12_200 0 rfl rfl dX12_findFar_38 ?_
              obtain ⟨h7, hb6⟩ := ck_some hb6
              refine m_icmp_ge X h7 dX12_findFar_41 (tgt := 101) (by decide) (fun (hc_ : ¬ (v36_2 < t_states)) => ?_) (fun (hc_ : v36_2 < t_states) => ?_)
              · rw [if_neg hc_] at hb6
                obtain rfl := Option.some.inj hb6
                exact E6_0 _ (Option.some.inj hq6).symm _ _ _ (lv_sub hl [0, 1] rfl) hP hD hS
              · rw [if_pos hc_] at hb6
                refine m_iconst X dX12_findFar_44 ?_
                refine lv_istore_n (lv' := [(3, .int (z4 0)), (0, .ref a_t), (1, .int (z4 v26_1)), (2, .int (z4 v36_2))]) hx hb dX12_findFar_45 rfl hl (by decide) rfl (fun ls hl => ?_)
                obtain ⟨o8, hj8, hr8⟩ := bd_some hb6
                have E8_0 : ∀ (o_ : (Nat → Int)), o8 = o_ → ∀ (H : Heap) (locs : List Loc) (ls : Array Slot), lv_has ls 5 [(0, .ref a_t), (1, .int (z4 v26_1)), (2, .int (z4 v36_2))] → va_P D vwCl [(a_t, .inr (12, [.ref a_t_now, .ref a_t_read, .ref a_t_past, .int (z4 t_deeds), .ref a_t_images, .ref a_t_isKept, .ref a_t_text, .int (z4 t_letters), .int (z4 t_at), .int (z4 t_tokenAt), .int (z4 t_tokenSort), .int (z4 t_tokenValue), .int (z4 t_items), .int (z4 t_isChanceTold), .int (z4 t_areSumsTold), .ref a_t_metAt, .ref a_t_memoryAt, .ref a_t_upAt, .ref a_t_downAt, .ref a_t_isSignal, .ref a_t_memories, .ref a_t_placeOf, .ref a_t_nextPlace, .int (z4 t_places), .ref a_t_kindOf, .ref a_t_newKind, .int (z4 t_kinds), .ref a_t_stateOfKind, .ref a_t_stateAt, .ref a_t_stepTo, .int (z4 t_states), .ref a_t_far, .ref a_t_ways, .ref a_t_nextWays, .ref a_t_table])), (a_t_far, .inl (E 0, 64, .inl (A4 o_))), (a_t_stepTo, .inl (E 0, 320, .inl (A4 t_stepTo)))] H → va_D A [(a_t, .inr (12, [.ref a_t_now, .ref a_t_read, .ref a_t_past, .int (z4 t_deeds), .ref a_t_images, .ref a_t_isKept, .ref a_t_text, .int (z4 t_letters), .int (z4 t_at), .int (z4 t_tokenAt), .int (z4 t_tokenSort), .int (z4 t_tokenValue), .int (z4 t_items), .int (z4 t_isChanceTold), .int (z4 t_areSumsTold), .ref a_t_metAt, .ref a_t_memoryAt, .ref a_t_upAt, .ref a_t_downAt, .ref a_t_isSignal, .ref a_t_memories, .ref a_t_placeOf, .ref a_t_nextPlace, .int (z4 t_places), .ref a_t_kindOf, .ref a_t_newKind, .int (z4 t_kinds), .ref a_t_stateOfKind, .ref a_t_stateAt, .ref a_t_stepTo, .int (z4 t_states), .ref a_t_far, .ref a_t_ways, .ref a_t_nextWays, .ref a_t_table])), (a_t_far, .inl (E 0, 64, .inl (A4 o_))), (a_t_stepTo, .inl (E 0, 320, .inl (A4 t_stepTo)))] → va_S A s.heap H locs → W p l e rm_X12_findFar s m args below meth c H locs 0 0 Q (F0 m 95 ls []) := by
                  intro o_ ho_ H locs ls hl hP hD hS
                  subst ho_
                  refine m_iinc X 2 [(2, .int (z4 (v36_2 + 1))), (0, .ref a_t), (1, .int (z4 v26_1))] dX12_findFar_95 hl rfl (by decide) rfl (fun ls hl => ?_)
                  refine lv_goto (tgt := 36) hx hb dX12_findFar_98 (by decide) ?_
                  obtain rfl := Option.some.inj hr8
                  exact ih6 _ _ _ _ _ (lv_sub hl [1, 2, 0] rfl) hP hD hS hq6
                have L8 : ∀ (k_ : Nat) (v46_3 : Int) (t_far_l46 : Nat → Int), ∀ (H : Heap) (locs : List Loc) (ls : Array Slot), lv_has ls 5 [(0, .ref a_t), (1, .int (z4 v26_1)), (2, .int (z4 v36_2)), (3, .int (z4 v46_3))] → va_P D vwCl [(a_t, .inr (12, [.ref a_t_now, .ref a_t_read, .ref a_t_past, .int (z4 t_deeds), .ref a_t_images, .ref a_t_isKept, .ref a_t_text, .int (z4 t_letters), .int (z4 t_at), .int (z4 t_tokenAt), .int (z4 t_tokenSort), .int (z4 t_tokenValue), .int (z4 t_items), .int (z4 t_isChanceTold), .int (z4 t_areSumsTold), .ref a_t_metAt, .ref a_t_memoryAt, .ref a_t_upAt, .ref a_t_downAt, .ref a_t_isSignal, .ref a_t_memories, .ref a_t_placeOf, .ref a_t_nextPlace, .int (z4 t_places), .ref a_t_kindOf, .ref a_t_newKind, .int (z4 t_kinds), .ref a_t_stateOfKind, .ref a_t_stateAt, .ref a_t_stepTo, .int (z4 t_states), .ref a_t_far, .ref a_t_ways, .ref a_t_nextWays, .ref a_t_table])), (a_t_far, .inl (E 0, 64, .inl (A4 t_far_l46))), (a_t_stepTo, .inl (E 0, 320, .inl (A4 t_stepTo)))] H → va_D A [(a_t, .inr (12, [.ref a_t_now, .ref a_t_read, .ref a_t_past, .int (z4 t_deeds), .ref a_t_images, .ref a_t_isKept, .ref a_t_text, .int (z4 t_letters), .int (z4 t_at), .int (z4 t_tokenAt), .int (z4 t_tokenSort), .int (z4 t_tokenValue), .int (z4 t_items), .int (z4 t_isChanceTold), .int (z4 t_areSumsTold), .ref a_t_metAt, .ref a_t_memoryAt, .ref a_t_upAt, .ref a_t_downAt, .ref a_t_isSignal, .ref a_t_memories, .ref a_t_placeOf, .ref a_t_nextPlace, .int (z4 t_places), .ref a_t_kindOf, .ref a_t_newKind, .int (z4 t_kinds), .ref a_t_stateOfKind, .ref a_t_stateAt, .ref a_t_stepTo, .int (z4 t_states), .ref a_t_far, .ref a_t_ways, .ref a_t_nextWays, .ref a_t_table])), (a_t_far, .inl (E 0, 64, .inl (A4 t_far_l46))), (a_t_stepTo, .inl (E 0, 320, .inl (A4 t_stepTo)))] → va_S A s.heap H locs → lp_ (fun (q : Int × (Nat → Int)) => F_X12_findFar_L46 n t_stepTo v36_2 q.1 q.2) k_ (v46_3, t_far_l46) = some o8 → W p l e rm_X12_findFar s m args below meth c H locs 0 0 Q (F0 m 46 ls []) := by
                  intro k_
                  induction k_ with
                  | zero =>
                    intro v46_3 t_far_l46 H locs ls hl hP hD hS hq_; exact (lp_zero hq_).elim
                  | succ k_ ih8 =>
                    intro v46_3 t_far_l46 H locs ls hl hP hD hS hq_
                    obtain ⟨t_8, hb8, hq8⟩ := lp_some hq_
                    replace hb8 : F_X12_findFar_L46 n t_stepTo v36_2 v46_3 t_far_l46 = some t_8 := hb8
                    unfold F_X12_findFar_L46 at hb8
                    refine lv_iload_n hx hb dX12_findFar_46 rfl (lv_at hl 3 rfl) ?_
                    refine m_iconst X dX12_findFar_47 ?_
                    obtain ⟨h9, hb8⟩ := ck_some hb8
                    refine m_icmp_ge X ⟨h9, ⟨by decide, by decide⟩⟩ dX12_findFar_48 (tgt := 95) (by decide) (fun (hc_ : ¬ (v46_3 < 5)) => ?_) (fun (hc_ : v46_3 < 5) => ?_)
                    · rw [if_neg hc_] at hb8
                      obtain rfl := Option.some.inj hb8
                      exact E8_0 _ (Option.some.inj hq8).symm _ _ _ (lv_sub hl [0, 1, 2] rfl) hP hD hS
                    · rw [if_pos hc_] at hb8
                      refine lv_aload_n hx hb dX12_findFar_51 rfl (lv_at hl 0 rfl) ?_
                      refine lv_iload_n hx hb dX12_findFar_52 rfl (lv_at hl 2 rfl) ?_
                      refine lv_iload_n hx hb dX12_findFar_53 rfl (lv_at hl 3 rfl) ?_
                      obtain ⟨o10, ho, hb8⟩ := bd_some hb8
                      refine m_cVR X hK (k_X12_farBehind n a_t a_t_now a_t_read a_t_past a_t_images a_t_isKept a_t_text a_t_metAt a_t_memoryAt a_t_upAt a_t_downAt a_t_isSignal a_t_memories a_t_placeOf a_t_nextPlace a_t_kindOf a_t_newKind a_t_stateOfKind a_t_stateAt a_t_stepTo a_t_far a_t_ways a_t_nextWays a_t_table t_deeds t_letters t_at t_tokenAt t_tokenSort t_tokenValue t_items t_isChanceTold t_areSumsTold t_places t_kinds t_states t_stepTo t_far_l46 v36_2 v46_3 o10 ho) (hP.sub [0, 2, 1] rfl) rfl cl_X12 lk_X12_221 co_X12_farBehind dy_X12_farBehind rfl rfl ⟨Nat.le_of_ble_eq_true rfl, Nat.le_of_ble_eq_true rfl⟩ hl.1 rfl (Nat.le_of_ble_eq_true rfl) dX12_findFar_54 (Nat.zero_le _) (Nat.zero_le _) ?_
                      refine m_iconst X dX12_findFar_57 ?_
                      refine m_iadd X dX12_findFar_58 ?_
                      refine lv_istore (lv' := [(4, .int (z4 (o10 + 1))), (0, .ref a_t), (1, .int (z4 v26_1)), (2, .int (z4 v36_2)), (3, .int (z4 v46_3))]) hx hb dX12_findFar_59 hl (by decide) rfl (fun ls hl => ?_)
                      refine lv_aload_n hx hb dX12_findFar_61 rfl (lv_at hl 1 rfl) ?_
                      refine m_get X hK hP cl_X12 iT_X12 31 (by decide) fl_X12_68 0 rfl rfl dX12_findFar_62 ?_
                      refine lv_iload_n hx hb dX12_findFar_65 rfl (lv_at hl 3 rfl) ?_
                      refine lv_iload hx hb dX12_findFar_66 (lv_at hl 0 rfl) ?_
                      refine lv_aload_n hx hb dX12_findFar_68 rfl (lv_at hl 1 rfl) ?_
                      refine m_get X hK hP cl_X12 iT_X12 31 (by decide) fl_X12_68 0 rfl rfl dX12_findFar_69 ?_
                      refine lv_iload_n hx hb dX12_findFar_72 rfl (lv_at hl 3 rfl) ?_
                      obtain ⟨h11, hb8⟩ := ck_some hb8
                      refine m_iald X hK hP 1 rfl (by decide) h11 dX12_findFar_73 ?_
                      obtain ⟨o12, hj12, hr12⟩ := bd_some hb8
                      have J12 : ∀ (o_ : Int), o12 = o_ → ∀ (H : Heap) (locs : List Loc) (ls : Array Slot), lv_has ls 5 [(0, .ref a_t), (1, .int (z4 v26_1)), (2, .int (z4 v36_2)), (3, .int (z4 v46_3))] → va_P D vwCl [(a_t, .inr (12, [.ref a_t_now, .ref a_t_read, .ref a_t_past, .int (z4 t_deeds), .ref a_t_images, .ref a_t_isKept, .ref a_t_text, .int (z4 t_letters), .int (z4 t_at), .int (z4 t_tokenAt), .int (z4 t_tokenSort), .int (z4 t_tokenValue), .int (z4 t_items), .int (z4 t_isChanceTold), .int (z4 t_areSumsTold), .ref a_t_metAt, .ref a_t_memoryAt, .ref a_t_upAt, .ref a_t_downAt, .ref a_t_isSignal, .ref a_t_memories, .ref a_t_placeOf, .ref a_t_nextPlace, .int (z4 t_places), .ref a_t_kindOf, .ref a_t_newKind, .int (z4 t_kinds), .ref a_t_stateOfKind, .ref a_t_stateAt, .ref a_t_stepTo, .int (z4 t_states), .ref a_t_far, .ref a_t_ways, .ref a_t_nextWays, .ref a_t_table])), (a_t_far, .inl (E 0, 64, .inl (A4 t_far_l46))), (a_t_stepTo, .inl (E 0, 320, .inl (A4 t_stepTo)))] H → va_D A [(a_t, .inr (12, [.ref a_t_now, .ref a_t_read, .ref a_t_past, .int (z4 t_deeds), .ref a_t_images, .ref a_t_isKept, .ref a_t_text, .int (z4 t_letters), .int (z4 t_at), .int (z4 t_tokenAt), .int (z4 t_tokenSort), .int (z4 t_tokenValue), .int (z4 t_items), .int (z4 t_isChanceTold), .int (z4 t_areSumsTold), .ref a_t_metAt, .ref a_t_memoryAt, .ref a_t_upAt, .ref a_t_downAt, .ref a_t_isSignal, .ref a_t_memories, .ref a_t_placeOf, .ref a_t_nextPlace, .int (z4 t_places), .ref a_t_kindOf, .ref a_t_newKind, .int (z4 t_kinds), .ref a_t_stateOfKind, .ref a_t_stateAt, .ref a_t_stepTo, .int (z4 t_states), .ref a_t_far, .ref a_t_ways, .ref a_t_nextWays, .ref a_t_table])), (a_t_far, .inl (E 0, 64, .inl (A4 t_far_l46))), (a_t_stepTo, .inl (E 0, 320, .inl (A4 t_stepTo)))] → va_S A s.heap H locs → W p l e rm_X12_findFar s m args below meth c H locs 0 0 Q (F0 m 88 ls [.int (z4 o_), .int (z4 v36_2), .ref a_t_far]) := by
                        intro o_ ho_ H locs ls hl hP hD hS
                        subst ho_
                        obtain ⟨h15, hr12⟩ := ck_some hr12
                        refine m_iast X hK hP hD hS 1 rfl (by decide) h15 [(a_t, .inr (12, [.ref a_t_now, .ref a_t_read, .ref a_t_past, .int (z4 t_deeds), .ref a_t_images, .ref a_t_isKept, .ref a_t_text, .int (z4 t_letters), .int (z4 t_at), .int (z4 t_tokenAt), .int (z4 t_tokenSort), .int (z4 t_tokenValue), .int (z4 t_items), .int (z4 t_isChanceTold), .int (z4 t_areSumsTold), .ref a_t_metAt, .ref a_t_memoryAt, .ref a_t_upAt, .ref a_t_downAt, .ref a_t_isSignal, .ref a_t_memories, .ref a_t_placeOf, .ref a_t_nextPlace, .int (z4 t_places), .ref a_t_kindOf, .ref a_t_newKind, .int (z4 t_kinds), .ref a_t_stateOfKind, .ref a_t_stateAt, .ref a_t_stepTo, .int (z4 t_states), .ref a_t_far, .ref a_t_ways, .ref a_t_nextWays, .ref a_t_table])), (a_t_far, .inl (E 0, 64, .inl (A4 (up_ t_far_l46 (v36_2).toNat o12)))), (a_t_stepTo, .inl (E 0, 320, .inl (A4 t_stepTo)))] rfl dX12_findFar_88 (fun H locs hP hD hS => ?_)
                        refine m_iinc X 3 [(3, .int (z4 (v46_3 + 1))), (0, .ref a_t), (1, .int (z4 v26_1)), (2, .int (z4 v36_2))] dX12_findFar_89 hl rfl (by decide) rfl (fun ls hl => ?_)
                        refine lv_goto (tgt := 46) hx hb dX12_findFar_92 (by decide) ?_
                        obtain rfl := Option.some.inj hr12
                        exact ih8 _ _ _ _ _ (lv_sub hl [1, 2, 3, 0] rfl) hP hD hS hq8
                      obtain ⟨h13, hj12⟩ := ck_some hj12
                      refine m_icmp_ge X h13 dX12_findFar_74 (tgt := 82) (by decide) (fun (hc_ : ¬ (o10 + 1 < t_far_l46 (v36_2).toNat)) => ?_) (fun (hc_ : o10 + 1 < t_far_l46 (v36_2).toNat) => ?_)
                      · rw [if_neg hc_] at hj12
                        refine lv_aload_n hx hb dX12_findFar_82 rfl (lv_at hl 1 rfl) ?_
                        refine m_get X hK hP cl_X12 iT_X12 31 (by decide) fl_X12_68 0 rfl rfl dX12_findFar_83 ?_
                        refine lv_iload_n hx hb dX12_findFar_86 rfl (lv_at hl 3 rfl) ?_
                        obtain ⟨h14, hj12⟩ := ck_some hj12
                        refine m_iald X hK hP 1 rfl (by decide) h14 dX12_findFar_87 ?_
                        exact J12 _ (Option.some.inj hj12).symm _ _ _ (lv_sub hl [1, 2, 3, 4] rfl) hP hD hS
                      · rw [if_pos hc_] at hj12
                        refine lv_iload hx hb dX12_findFar_77 (lv_at hl 0 rfl) ?_
                        refine lv_goto (tgt := 88) hx hb dX12_findFar_79 (by decide) ?_
                        exact J12 _ (Option.some.inj hj12).symm _ _ _ (lv_sub hl [1, 2, 3, 4] rfl) hP hD hS
                exact L8 n _ _ _ _ _ (lv_sub hl [1, 2, 3, 0] rfl) hP hD hS hj8
          exact L6 n _ _ _ _ _ (lv_sub hl [1, 2, 0] rfl) hP hD hS hj6
    exact L4 n _ _ _ _ _ (lv_sub hl [1, 0] rfl) hP hD hS hj4
  have L1 : ∀ (k_ : Nat) (v2_1 : Int) (t_far_l2 : Nat → Int), ∀ (H : Heap) (locs : List Loc) (ls : Array Slot), lv_has ls 5 [(0, .ref a_t), (1, .int (z4 v2_1))] → va_P D vwCl [(a_t, .inr (12, [.ref a_t_now, .ref a_t_read, .ref a_t_past, .int (z4 t_deeds), .ref a_t_images, .ref a_t_isKept, .ref a_t_text, .int (z4 t_letters), .int (z4 t_at), .int (z4 t_tokenAt), .int (z4 t_tokenSort), .int (z4 t_tokenValue), .int (z4 t_items), .int (z4 t_isChanceTold), .int (z4 t_areSumsTold), .ref a_t_metAt, .ref a_t_memoryAt, .ref a_t_upAt, .ref a_t_downAt, .ref a_t_isSignal, .ref a_t_memories, .ref a_t_placeOf, .ref a_t_nextPlace, .int (z4 t_places), .ref a_t_kindOf, .ref a_t_newKind, .int (z4 t_kinds), .ref a_t_stateOfKind, .ref a_t_stateAt, .ref a_t_stepTo, .int (z4 t_states), .ref a_t_far, .ref a_t_ways, .ref a_t_nextWays, .ref a_t_table])), (a_t_far, .inl (E 0, 64, .inl (A4 t_far_l2))), (a_t_stepTo, .inl (E 0, 320, .inl (A4 t_stepTo)))] H → va_D A [(a_t, .inr (12, [.ref a_t_now, .ref a_t_read, .ref a_t_past, .int (z4 t_deeds), .ref a_t_images, .ref a_t_isKept, .ref a_t_text, .int (z4 t_letters), .int (z4 t_at), .int (z4 t_tokenAt), .int (z4 t_tokenSort), .int (z4 t_tokenValue), .int (z4 t_items), .int (z4 t_isChanceTold), .int (z4 t_areSumsTold), .ref a_t_metAt, .ref a_t_memoryAt, .ref a_t_upAt, .ref a_t_downAt, .ref a_t_isSignal, .ref a_t_memories, .ref a_t_placeOf, .ref a_t_nextPlace, .int (z4 t_places), .ref a_t_kindOf, .ref a_t_newKind, .int (z4 t_kinds), .ref a_t_stateOfKind, .ref a_t_stateAt, .ref a_t_stepTo, .int (z4 t_states), .ref a_t_far, .ref a_t_ways, .ref a_t_nextWays, .ref a_t_table])), (a_t_far, .inl (E 0, 64, .inl (A4 t_far_l2))), (a_t_stepTo, .inl (E 0, 320, .inl (A4 t_stepTo)))] → va_S A s.heap H locs → lp_ (fun (q : Int × (Nat → Int)) => F_X12_findFar_L2 n t_states q.1 q.2) k_ (v2_1, t_far_l2) = some o1 → W p l e rm_X12_findFar s m args below meth c H locs 0 0 Q (F0 m 2 ls []) := by
    intro k_
    induction k_ with
    | zero =>
      intro v2_1 t_far_l2 H locs ls hl hP hD hS hq_; exact (lp_zero hq_).elim
    | succ k_ ih1 =>
      intro v2_1 t_far_l2 H locs ls hl hP hD hS hq_
      obtain ⟨t_1, hb1, hq1⟩ := lp_some hq_
      replace hb1 : F_X12_findFar_L2 n t_states v2_1 t_far_l2 = some t_1 := hb1
      unfold F_X12_findFar_L2 at hb1
      refine lv_iload_n hx hb dX12_findFar_2 rfl (lv_at hl 1 rfl) ?_
      refine lv_aload_n hx hb dX12_findFar_3 rfl (lv_at hl 0 rfl) ?_
      refine m_get X hK hP cl_X12 iT_X12 30 (by decide) fl_X12_200 0 rfl rfl dX12_findFar_4 ?_
      obtain ⟨h2, hb1⟩ := ck_some hb1
      refine m_icmp_ge X h2 dX12_findFar_7 (tgt := 24) (by decide) (fun (hc_ : ¬ (v2_1 < t_states)) => ?_) (fun (hc_ : v2_1 < t_states) => ?_)
      · rw [if_neg hc_] at hb1
        obtain rfl := Option.some.inj hb1
        exact E1_0 _ (Option.some.inj hq1).symm _ _ _ (lv_sub hl [0] rfl) hP hD hS
      · rw [if_pos hc_] at hb1
        refine lv_aload_n hx hb dX12_findFar_10 rfl (lv_at hl 0 rfl) ?_
        refine m_get X hK hP cl_X12 iT_X12 31 (by decide) fl_X12_68 0 rfl rfl dX12_findFar_11 ?_
        refine lv_iload_n hx hb dX12_findFar_14 rfl (lv_at hl 1 rfl) ?_
        refine m_bipush X dX12_findFar_15 (by decide) ?_
        obtain ⟨h3, hb1⟩ := ck_some hb1
        refine m_iast X hK hP hD hS 1 rfl (by decide) h3 [(a_t, .inr (12, [.ref a_t_now, .ref a_t_read, .ref a_t_past, .int (z4 t_deeds), .ref a_t_images, .ref a_t_isKept, .ref a_t_text, .int (z4 t_letters), .int (z4 t_at), .int (z4 t_tokenAt), .int (z4 t_tokenSort), .int (z4 t_tokenValue), .int (z4 t_items), .int (z4 t_isChanceTold), .int (z4 t_areSumsTold), .ref a_t_metAt, .ref a_t_memoryAt, .ref a_t_upAt, .ref a_t_downAt, .ref a_t_isSignal, .ref a_t_memories, .ref a_t_placeOf, .ref a_t_nextPlace, .int (z4 t_places), .ref a_t_kindOf, .ref a_t_newKind, .int (z4 t_kinds), .ref a_t_stateOfKind, .ref a_t_stateAt, .ref a_t_stepTo, .int (z4 t_states), .ref a_t_far, .ref a_t_ways, .ref a_t_nextWays, .ref a_t_table])), (a_t_far, .inl (E 0, 64, .inl (A4 (up_ t_far_l2 (v2_1).toNat 100)))), (a_t_stepTo, .inl (E 0, 320, .inl (A4 t_stepTo)))] rfl dX12_findFar_17 (fun H locs hP hD hS => ?_)
        refine m_iinc X 1 [(1, .int (z4 (v2_1 + 1))), (0, .ref a_t)] dX12_findFar_18 hl rfl (by decide) rfl (fun ls hl => ?_)
        refine lv_goto (tgt := 2) hx hb dX12_findFar_21 (by decide) ?_
        obtain rfl := Option.some.inj hb1
        exact ih1 _ _ _ _ _ (lv_sub hl [1, 0] rfl) hP hD hS hq1
  exact L1 n _ _ _ _ _ (lv_sub hl [1, 0] rfl) hP hD hS hj1
def F_X12_soonest_L59 (n : Nat) (o2 : Int × Int × Int × Int × (Nat → Int) × (Nat → Int) × (Nat → Int) × (Nat → Int) × (Nat → Int) × (Nat → Int) × (Nat → Int) × (Nat → Int) × (Nat → Int) × (Nat → Int) × (Nat → Int) × (Nat → Int) × (Nat → Int)) (o3 : (Nat → Int)) (v50_2 : Int) (v50_5 : Int) (v59_4 : Int) : Option ((Int) ⊕ (Int)) :=
  (F_X12_farBehind n o2.2.2.2.2.2.2.2.2.2.2.2.2.2.2.2.2 o3 v50_2 v59_4).bind fun o11 =>
  ck (r4 (o11 + 1) ∧ r4 ((o3 (o2.1).toNat) - v50_5)) <|
  if o11 + 1 = (o3 (o2.1).toNat) - v50_5 then
    some (.inr v59_4)
  else
    some (.inl (v59_4 + 1))
def F_X12_soonest_L50 (n : Nat) (x1 : Int) (o2 : Int × Int × Int × Int × (Nat → Int) × (Nat → Int) × (Nat → Int) × (Nat → Int) × (Nat → Int) × (Nat → Int) × (Nat → Int) × (Nat → Int) × (Nat → Int) × (Nat → Int) × (Nat → Int) × (Nat → Int) × (Nat → Int)) (o3 : (Nat → Int)) (v50_2 : Int) (v50_4 : Int) (v50_5 : Int) : Option ((Int × Int × Int) ⊕ (Int)) :=
  ck (r4 v50_5 ∧ r4 x1) <|
  if x1 < v50_5 then
    some (.inr v50_4)
  else
    (lp_ (fun (q : Int) => F_X12_soonest_L59 n o2 o3 v50_2 v50_5 q) n 0).bind fun o10 =>
    Option.bind (α := Int) (
      ck (r4 v50_5 ∧ r4 x1) <|
      if v50_5 < x1 then
        ck (ix_ ((5 * v50_2) + o10) 320) <|
        some (o2.2.2.2.2.2.2.2.2.2.2.2.2.2.2.2.2 ((5 * v50_2) + o10).toNat)
      else
        some v50_2) fun o13 =>
    some (.inl (o13, o10, v50_5 + 1))
def F_X12_soonest (n : Nat)  (t_places : Int) (t_kinds : Int) (t_states : Int) (t_now : Nat → Int) (t_metAt : Nat → Int) (t_memoryAt : Nat → Int) (t_isSignal : Nat → Int) (t_upAt : Nat → Int) (t_downAt : Nat → Int) (t_placeOf : Nat → Int) (t_memories : Nat → Int) (t_nextPlace : Nat → Int) (t_kindOf : Nat → Int) (t_newKind : Nat → Int) (t_stateOfKind : Nat → Int) (t_stateAt : Nat → Int) (t_stepTo : Nat → Int) (t_far : Nat → Int) (x1 : Int) : Option (Int × Int × Int × Int × (Nat → Int) × (Nat → Int) × (Nat → Int) × (Nat → Int) × (Nat → Int) × (Nat → Int) × (Nat → Int) × (Nat → Int) × (Nat → Int) × (Nat → Int) × (Nat → Int) × (Nat → Int) × (Nat → Int) × (Nat → Int)) :=
  ck (r4 x1) <|
  if x1 < (-1) then
    some ((-1), t_places, t_kinds, t_states, t_metAt, t_memoryAt, t_isSignal, t_upAt, t_downAt, t_placeOf, t_memories, t_nextPlace, t_kindOf, t_newKind, t_stateOfKind, t_stateAt, t_stepTo, t_far)
  else
    (F_X12_stateNow n t_now t_metAt t_memoryAt t_isSignal t_upAt t_downAt t_placeOf t_memories t_nextPlace t_kindOf t_newKind t_stateOfKind t_stateAt t_stepTo).bind fun o2 =>
    (F_X12_findFar n o2.2.2.2.1 t_far o2.2.2.2.2.2.2.2.2.2.2.2.2.2.2.2.2).bind fun o3 =>
    ck (ix_ o2.1 64) <|
    ck (r4 (o3 (o2.1).toNat)) <|
    if o3 (o2.1).toNat = 100 then
      some ((-9), o2.2.1, o2.2.2.1, o2.2.2.2.1, o2.2.2.2.2.1, o2.2.2.2.2.2.1, o2.2.2.2.2.2.2.1, o2.2.2.2.2.2.2.2.1, o2.2.2.2.2.2.2.2.2.1, o2.2.2.2.2.2.2.2.2.2.1, o2.2.2.2.2.2.2.2.2.2.2.1, o2.2.2.2.2.2.2.2.2.2.2.2.1, o2.2.2.2.2.2.2.2.2.2.2.2.2.1, o2.2.2.2.2.2.2.2.2.2.2.2.2.2.1, o2.2.2.2.2.2.2.2.2.2.2.2.2.2.2.1, o2.2.2.2.2.2.2.2.2.2.2.2.2.2.2.2.1, o2.2.2.2.2.2.2.2.2.2.2.2.2.2.2.2.2, o3)
    else
      ck (r4 x1 ∧ r4 (o3 (o2.1).toNat)) <|
      if x1 < o3 (o2.1).toNat then
        ck (r4 x1) <|
        if x1 = (-1) then
          some (o3 (o2.1).toNat, o2.2.1, o2.2.2.1, o2.2.2.2.1, o2.2.2.2.2.1, o2.2.2.2.2.2.1, o2.2.2.2.2.2.2.1, o2.2.2.2.2.2.2.2.1, o2.2.2.2.2.2.2.2.2.1, o2.2.2.2.2.2.2.2.2.2.1, o2.2.2.2.2.2.2.2.2.2.2.1, o2.2.2.2.2.2.2.2.2.2.2.2.1, o2.2.2.2.2.2.2.2.2.2.2.2.2.1, o2.2.2.2.2.2.2.2.2.2.2.2.2.2.1, o2.2.2.2.2.2.2.2.2.2.2.2.2.2.2.1, o2.2.2.2.2.2.2.2.2.2.2.2.2.2.2.2.1, o2.2.2.2.2.2.2.2.2.2.2.2.2.2.2.2.2, o3)
        else
          (lp_ (fun (q : Int × Int × Int) => F_X12_soonest_L50 n x1 o2 o3 q.1 q.2.1 q.2.2) n (o2.1, 0, 0)).bind fun o8 =>
          some (o8, o2.2.1, o2.2.2.1, o2.2.2.2.1, o2.2.2.2.2.1, o2.2.2.2.2.2.1, o2.2.2.2.2.2.2.1, o2.2.2.2.2.2.2.2.1, o2.2.2.2.2.2.2.2.2.1, o2.2.2.2.2.2.2.2.2.2.1, o2.2.2.2.2.2.2.2.2.2.2.1, o2.2.2.2.2.2.2.2.2.2.2.2.1, o2.2.2.2.2.2.2.2.2.2.2.2.2.1, o2.2.2.2.2.2.2.2.2.2.2.2.2.2.1, o2.2.2.2.2.2.2.2.2.2.2.2.2.2.2.1, o2.2.2.2.2.2.2.2.2.2.2.2.2.2.2.2.1, o2.2.2.2.2.2.2.2.2.2.2.2.2.2.2.2.2, o3)
      else
        some ((-9), o2.2.1, o2.2.2.1, o2.2.2.2.1, o2.2.2.2.2.1, o2.2.2.2.2.2.1, o2.2.2.2.2.2.2.1, o2.2.2.2.2.2.2.2.1, o2.2.2.2.2.2.2.2.2.1, o2.2.2.2.2.2.2.2.2.2.1, o2.2.2.2.2.2.2.2.2.2.2.1, o2.2.2.2.2.2.2.2.2.2.2.2.1, o2.2.2.2.2.2.2.2.2.2.2.2.2.1, o2.2.2.2.2.2.2.2.2.2.2.2.2.2.1, o2.2.2.2.2.2.2.2.2.2.2.2.2.2.2.1, o2.2.2.2.2.2.2.2.2.2.2.2.2.2.2.2.1, o2.2.2.2.2.2.2.2.2.2.2.2.2.2.2.2.2, o3)
def rm_X12_soonest : Room := { frames := 5, cells := 0, slots := 0, locals := 118 }
set_option maxHeartbeats 4000000 in
set_option maxRecDepth 100000 in
theorem k_X12_soonest {l : Launch} {D : va_G} {E : Nat → ClassId} (n : Nat) (a_t a_t_now a_t_read a_t_past a_t_images a_t_isKept a_t_text a_t_metAt a_t_memoryAt a_t_upAt a_t_downAt a_t_isSignal a_t_memories a_t_placeOf a_t_nextPlace a_t_kindOf a_t_newKind a_t_stateOfKind a_t_stateAt a_t_stepTo a_t_far a_t_ways a_t_nextWays a_t_table : Nat) (t_deeds : Int) (t_letters : Int) (t_at : Int) (t_tokenAt : Int) (t_tokenSort : Int) (t_tokenValue : Int) (t_items : Int) (t_isChanceTold : Int) (t_areSumsTold : Int) (t_places : Int) (t_kinds : Int) (t_states : Int) (t_now : Nat → Int) (t_metAt : Nat → Int) (t_memoryAt : Nat → Int) (t_isSignal : Nat → Int) (t_upAt : Nat → Int) (t_downAt : Nat → Int) (t_placeOf : Nat → Int) (t_memories : Nat → Int) (t_nextPlace : Nat → Int) (t_kindOf : Nat → Int) (t_newKind : Nat → Int) (t_stateOfKind : Nat → Int) (t_stateAt : Nat → Int) (t_stepTo : Nat → Int) (t_far : Nat → Int) (x1 : Int) (res : Int × Int × Int × Int × (Nat → Int) × (Nat → Int) × (Nat → Int) × (Nat → Int) × (Nat → Int) × (Nat → Int) × (Nat → Int) × (Nat → Int) × (Nat → Int) × (Nat → Int) × (Nat → Int) × (Nat → Int) × (Nat → Int) × (Nat → Int)) (hf : F_X12_soonest n t_places t_kinds t_states t_now t_metAt t_memoryAt t_isSignal t_upAt t_downAt t_placeOf t_memories t_nextPlace t_kindOf t_newKind t_stateOfKind t_stateAt t_stepTo t_far x1 = some res) : MW l yX12_soonest (.code yX12_soonest cX12_soonest 6 (some .int)) rm_X12_soonest D E [.ref a_t, .int (z4 x1)] [(a_t, .inr (12, [.ref a_t_now, .ref a_t_read, .ref a_t_past, .int (z4 t_deeds), .ref a_t_images, .ref a_t_isKept, .ref a_t_text, .int (z4 t_letters), .int (z4 t_at), .int (z4 t_tokenAt), .int (z4 t_tokenSort), .int (z4 t_tokenValue), .int (z4 t_items), .int (z4 t_isChanceTold), .int (z4 t_areSumsTold), .ref a_t_metAt, .ref a_t_memoryAt, .ref a_t_upAt, .ref a_t_downAt, .ref a_t_isSignal, .ref a_t_memories, .ref a_t_placeOf, .ref a_t_nextPlace, .int (z4 t_places), .ref a_t_kindOf, .ref a_t_newKind, .int (z4 t_kinds), .ref a_t_stateOfKind, .ref a_t_stateAt, .ref a_t_stepTo, .int (z4 t_states), .ref a_t_far, .ref a_t_ways, .ref a_t_nextWays, .ref a_t_table])), (a_t_now, .inl (E 0, 98, .inl (A4 t_now))), (a_t_metAt, .inl (E 0, 40, .inl (A4 t_metAt))), (a_t_memoryAt, .inl (E 0, 40, .inl (A4 t_memoryAt))), (a_t_isSignal, .inl (E 1, 40, .inl (A4 t_isSignal))), (a_t_upAt, .inl (E 0, 40, .inl (A4 t_upAt))), (a_t_downAt, .inl (E 0, 40, .inl (A4 t_downAt))), (a_t_placeOf, .inl (E 0, 64, .inl (A4 t_placeOf))), (a_t_memories, .inl (E 0, 64, .inl (A4 t_memories))), (a_t_nextPlace, .inl (E 0, 320, .inl (A4 t_nextPlace))), (a_t_kindOf, .inl (E 0, 64, .inl (A4 t_kindOf))), (a_t_newKind, .inl (E 0, 64, .inl (A4 t_newKind))), (a_t_stateOfKind, .inl (E 0, 64, .inl (A4 t_stateOfKind))), (a_t_stateAt, .inl (E 0, 64, .inl (A4 t_stateAt))), (a_t_stepTo, .inl (E 0, 320, .inl (A4 t_stepTo))), (a_t_far, .inl (E 0, 64, .inl (A4 t_far)))] (some (.int (z4 res.1))) [(a_t, .inr (12, [.ref a_t_now, .ref a_t_read, .ref a_t_past, .int (z4 t_deeds), .ref a_t_images, .ref a_t_isKept, .ref a_t_text, .int (z4 t_letters), .int (z4 t_at), .int (z4 t_tokenAt), .int (z4 t_tokenSort), .int (z4 t_tokenValue), .int (z4 t_items), .int (z4 t_isChanceTold), .int (z4 t_areSumsTold), .ref a_t_metAt, .ref a_t_memoryAt, .ref a_t_upAt, .ref a_t_downAt, .ref a_t_isSignal, .ref a_t_memories, .ref a_t_placeOf, .ref a_t_nextPlace, .int (z4 res.2.1), .ref a_t_kindOf, .ref a_t_newKind, .int (z4 res.2.2.1), .ref a_t_stateOfKind, .ref a_t_stateAt, .ref a_t_stepTo, .int (z4 res.2.2.2.1), .ref a_t_far, .ref a_t_ways, .ref a_t_nextWays, .ref a_t_table])), (a_t_now, .inl (E 0, 98, .inl (A4 t_now))), (a_t_metAt, .inl (E 0, 40, .inl (A4 res.2.2.2.2.1))), (a_t_memoryAt, .inl (E 0, 40, .inl (A4 res.2.2.2.2.2.1))), (a_t_isSignal, .inl (E 1, 40, .inl (A4 res.2.2.2.2.2.2.1))), (a_t_upAt, .inl (E 0, 40, .inl (A4 res.2.2.2.2.2.2.2.1))), (a_t_downAt, .inl (E 0, 40, .inl (A4 res.2.2.2.2.2.2.2.2.1))), (a_t_placeOf, .inl (E 0, 64, .inl (A4 res.2.2.2.2.2.2.2.2.2.1))), (a_t_memories, .inl (E 0, 64, .inl (A4 res.2.2.2.2.2.2.2.2.2.2.1))), (a_t_nextPlace, .inl (E 0, 320, .inl (A4 res.2.2.2.2.2.2.2.2.2.2.2.1))), (a_t_kindOf, .inl (E 0, 64, .inl (A4 res.2.2.2.2.2.2.2.2.2.2.2.2.1))), (a_t_newKind, .inl (E 0, 64, .inl (A4 res.2.2.2.2.2.2.2.2.2.2.2.2.2.1))), (a_t_stateOfKind, .inl (E 0, 64, .inl (A4 res.2.2.2.2.2.2.2.2.2.2.2.2.2.2.1))), (a_t_stateAt, .inl (E 0, 64, .inl (A4 res.2.2.2.2.2.2.2.2.2.2.2.2.2.2.2.1))), (a_t_stepTo, .inl (E 0, 320, .inl (A4 res.2.2.2.2.2.2.2.2.2.2.2.2.2.2.2.2.1))), (a_t_far, .inl (E 0, 64, .inl (A4 res.2.2.2.2.2.2.2.2.2.2.2.2.2.2.2.2.2)))] := by
  refine MWi (by decide) (Nat.le_of_ble_eq_true rfl) ?_
  intro p e s m args below meth c A Q X hK hP hD hA ret ls hl
  have hS : va_S A s.heap s.heap [] := va_S.rf
  have hx := X.1
  have hb := X.2.1
  have hl : lv_has ls 6 [(0, .ref a_t), (1, .int (z4 x1))] := hl
  unfold F_X12_soonest at hf
  refine lv_iload_n hx hb dX12_soonest_0 rfl (lv_at hl 1 rfl) ?_
  refine m_iconst X dX12_soonest_1 ?_
  obtain ⟨h1, hf⟩ := ck_some hf
  refine m_icmp_ge X ⟨h1, ⟨by decide, by decide⟩⟩ dX12_soonest_2 (tgt := 7) (by decide) (fun (hc_ : ¬ (x1 < (-1))) => ?_) (fun (hc_ : x1 < (-1)) => ?_)
  · rw [if_neg hc_] at hf
    refine lv_aload_n hx hb dX12_soonest_7 rfl (lv_at hl 0 rfl) ?_
    obtain ⟨o2, ho, hf⟩ := bd_some hf
    refine m_cVW X hK hP hD hS hA (wr := [(a_t_far, .inl (E 0, 64, .inl (A4 t_far)))]) (k_X12_stateNow n a_t a_t_now a_t_read a_t_past a_t_images a_t_isKept a_t_text a_t_metAt a_t_memoryAt a_t_upAt a_t_downAt a_t_isSignal a_t_memories a_t_placeOf a_t_nextPlace a_t_kindOf a_t_newKind a_t_stateOfKind a_t_stateAt a_t_stepTo a_t_far a_t_ways a_t_nextWays a_t_table t_deeds t_letters t_at t_tokenAt t_tokenSort t_tokenValue t_items t_isChanceTold t_areSumsTold t_places t_kinds t_states t_now t_metAt t_memoryAt t_isSignal t_upAt t_downAt t_placeOf t_memories t_nextPlace t_kindOf t_newKind t_stateOfKind t_stateAt t_stepTo o2 ho) [0, 1, 2, 3, 4, 5, 6, 7, 8, 9, 10, 11, 12, 13, 14] [15] [1, 2, 3, 4, 5, 6, 7, 8, 9, 10, 11, 12, 13, 14, 15, 0] [(a_t, .inr (12, [.ref a_t_now, .ref a_t_read, .ref a_t_past, .int (z4 t_deeds), .ref a_t_images, .ref a_t_isKept, .ref a_t_text, .int (z4 t_letters), .int (z4 t_at), .int (z4 t_tokenAt), .int (z4 t_tokenSort), .int (z4 t_tokenValue), .int (z4 t_items), .int (z4 t_isChanceTold), .int (z4 t_areSumsTold), .ref a_t_metAt, .ref a_t_memoryAt, .ref a_t_upAt, .ref a_t_downAt, .ref a_t_isSignal, .ref a_t_memories, .ref a_t_placeOf, .ref a_t_nextPlace, .int (z4 o2.2.1), .ref a_t_kindOf, .ref a_t_newKind, .int (z4 o2.2.2.1), .ref a_t_stateOfKind, .ref a_t_stateAt, .ref a_t_stepTo, .int (z4 o2.2.2.2.1), .ref a_t_far, .ref a_t_ways, .ref a_t_nextWays, .ref a_t_table])), (a_t_now, .inl (E 0, 98, .inl (A4 t_now))), (a_t_metAt, .inl (E 0, 40, .inl (A4 o2.2.2.2.2.1))), (a_t_memoryAt, .inl (E 0, 40, .inl (A4 o2.2.2.2.2.2.1))), (a_t_isSignal, .inl (E 1, 40, .inl (A4 o2.2.2.2.2.2.2.1))), (a_t_upAt, .inl (E 0, 40, .inl (A4 o2.2.2.2.2.2.2.2.1))), (a_t_downAt, .inl (E 0, 40, .inl (A4 o2.2.2.2.2.2.2.2.2.1))), (a_t_placeOf, .inl (E 0, 64, .inl (A4 o2.2.2.2.2.2.2.2.2.2.1))), (a_t_memories, .inl (E 0, 64, .inl (A4 o2.2.2.2.2.2.2.2.2.2.2.1))), (a_t_nextPlace, .inl (E 0, 320, .inl (A4 o2.2.2.2.2.2.2.2.2.2.2.2.1))), (a_t_kindOf, .inl (E 0, 64, .inl (A4 o2.2.2.2.2.2.2.2.2.2.2.2.2.1))), (a_t_newKind, .inl (E 0, 64, .inl (A4 o2.2.2.2.2.2.2.2.2.2.2.2.2.2.1))), (a_t_stateOfKind, .inl (E 0, 64, .inl (A4 o2.2.2.2.2.2.2.2.2.2.2.2.2.2.2.1))), (a_t_stateAt, .inl (E 0, 64, .inl (A4 o2.2.2.2.2.2.2.2.2.2.2.2.2.2.2.2.1))), (a_t_stepTo, .inl (E 0, 320, .inl (A4 o2.2.2.2.2.2.2.2.2.2.2.2.2.2.2.2.2))), (a_t_far, .inl (E 0, 64, .inl (A4 t_far)))] rfl rfl rfl rfl (by decide) rfl rfl rfl cl_X12 lk_X12_224 co_X12_stateNow dy_X12_stateNow rfl rfl ⟨Nat.le_of_ble_eq_true rfl, Nat.le_of_ble_eq_true rfl⟩ hl.1 rfl (Nat.le_of_ble_eq_true rfl) dX12_soonest_8 (Nat.zero_le _) (Nat.zero_le _) (fun H locs hP hD hS => ?_)
    refine lv_istore_n (lv' := [(2, .int (z4 o2.1)), (0, .ref a_t), (1, .int (z4 x1))]) hx hb dX12_soonest_11 rfl hl (by decide) rfl (fun ls hl => ?_)
    refine lv_aload_n hx hb dX12_soonest_12 rfl (lv_at hl 1 rfl) ?_
    obtain ⟨o3, ho, hf⟩ := bd_some hf
    refine m_cVW X hK hP hD hS hA (wr := [(a_t_now, .inl (E 0, 98, .inl (A4 t_now))), (a_t_metAt, .inl (E 0, 40, .inl (A4 o2.2.2.2.2.1))), (a_t_memoryAt, .inl (E 0, 40, .inl (A4 o2.2.2.2.2.2.1))), (a_t_isSignal, .inl (E 1, 40, .inl (A4 o2.2.2.2.2.2.2.1))), (a_t_upAt, .inl (E 0, 40, .inl (A4 o2.2.2.2.2.2.2.2.1))), (a_t_downAt, .inl (E 0, 40, .inl (A4 o2.2.2.2.2.2.2.2.2.1))), (a_t_placeOf, .inl (E 0, 64, .inl (A4 o2.2.2.2.2.2.2.2.2.2.1))), (a_t_memories, .inl (E 0, 64, .inl (A4 o2.2.2.2.2.2.2.2.2.2.2.1))), (a_t_nextPlace, .inl (E 0, 320, .inl (A4 o2.2.2.2.2.2.2.2.2.2.2.2.1))), (a_t_kindOf, .inl (E 0, 64, .inl (A4 o2.2.2.2.2.2.2.2.2.2.2.2.2.1))), (a_t_newKind, .inl (E 0, 64, .inl (A4 o2.2.2.2.2.2.2.2.2.2.2.2.2.2.1))), (a_t_stateOfKind, .inl (E 0, 64, .inl (A4 o2.2.2.2.2.2.2.2.2.2.2.2.2.2.2.1))), (a_t_stateAt, .inl (E 0, 64, .inl (A4 o2.2.2.2.2.2.2.2.2.2.2.2.2.2.2.2.1)))]) (k_X12_findFar n a_t a_t_now a_t_read a_t_past a_t_images a_t_isKept a_t_text a_t_metAt a_t_memoryAt a_t_upAt a_t_downAt a_t_isSignal a_t_memories a_t_placeOf a_t_nextPlace a_t_kindOf a_t_newKind a_t_stateOfKind a_t_stateAt a_t_stepTo a_t_far a_t_ways a_t_nextWays a_t_table t_deeds t_letters t_at t_tokenAt t_tokenSort t_tokenValue t_items t_isChanceTold t_areSumsTold o2.2.1 o2.2.2.1 o2.2.2.2.1 t_far o2.2.2.2.2.2.2.2.2.2.2.2.2.2.2.2.2 o3 ho) [0, 15, 14] [1, 2, 3, 4, 5, 6, 7, 8, 9, 10, 11, 12, 13] [13, 0, 1, 2, 3, 4, 5, 6, 7, 8, 9, 10, 11, 12, 15, 14] [(a_t, .inr (12, [.ref a_t_now, .ref a_t_read, .ref a_t_past, .int (z4 t_deeds), .ref a_t_images, .ref a_t_isKept, .ref a_t_text, .int (z4 t_letters), .int (z4 t_at), .int (z4 t_tokenAt), .int (z4 t_tokenSort), .int (z4 t_tokenValue), .int (z4 t_items), .int (z4 t_isChanceTold), .int (z4 t_areSumsTold), .ref a_t_metAt, .ref a_t_memoryAt, .ref a_t_upAt, .ref a_t_downAt, .ref a_t_isSignal, .ref a_t_memories, .ref a_t_placeOf, .ref a_t_nextPlace, .int (z4 o2.2.1), .ref a_t_kindOf, .ref a_t_newKind, .int (z4 o2.2.2.1), .ref a_t_stateOfKind, .ref a_t_stateAt, .ref a_t_stepTo, .int (z4 o2.2.2.2.1), .ref a_t_far, .ref a_t_ways, .ref a_t_nextWays, .ref a_t_table])), (a_t_now, .inl (E 0, 98, .inl (A4 t_now))), (a_t_metAt, .inl (E 0, 40, .inl (A4 o2.2.2.2.2.1))), (a_t_memoryAt, .inl (E 0, 40, .inl (A4 o2.2.2.2.2.2.1))), (a_t_isSignal, .inl (E 1, 40, .inl (A4 o2.2.2.2.2.2.2.1))), (a_t_upAt, .inl (E 0, 40, .inl (A4 o2.2.2.2.2.2.2.2.1))), (a_t_downAt, .inl (E 0, 40, .inl (A4 o2.2.2.2.2.2.2.2.2.1))), (a_t_placeOf, .inl (E 0, 64, .inl (A4 o2.2.2.2.2.2.2.2.2.2.1))), (a_t_memories, .inl (E 0, 64, .inl (A4 o2.2.2.2.2.2.2.2.2.2.2.1))), (a_t_nextPlace, .inl (E 0, 320, .inl (A4 o2.2.2.2.2.2.2.2.2.2.2.2.1))), (a_t_kindOf, .inl (E 0, 64, .inl (A4 o2.2.2.2.2.2.2.2.2.2.2.2.2.1))), (a_t_newKind, .inl (E 0, 64, .inl (A4 o2.2.2.2.2.2.2.2.2.2.2.2.2.2.1))), (a_t_stateOfKind, .inl (E 0, 64, .inl (A4 o2.2.2.2.2.2.2.2.2.2.2.2.2.2.2.1))), (a_t_stateAt, .inl (E 0, 64, .inl (A4 o2.2.2.2.2.2.2.2.2.2.2.2.2.2.2.2.1))), (a_t_stepTo, .inl (E 0, 320, .inl (A4 o2.2.2.2.2.2.2.2.2.2.2.2.2.2.2.2.2))), (a_t_far, .inl (E 0, 64, .inl (A4 o3)))] rfl rfl rfl rfl (by decide) rfl rfl rfl cl_X12 lk_X12_227 co_X12_findFar dy_X12_findFar rfl rfl ⟨Nat.le_of_ble_eq_true rfl, Nat.le_of_ble_eq_true rfl⟩ hl.1 rfl (Nat.le_of_ble_eq_true rfl) dX12_soonest_13 (Nat.zero_le _) (Nat.zero_le _) (fun H locs hP hD hS => ?_)
    refine lv_aload_n hx hb dX12_soonest_16 rfl (lv_at hl 1 rfl) ?_
    refine m_get X hK hP cl_X12 iT_X12 31 (by decide) fl_X12_68 0 rfl rfl dX12_soonest_17 ?_
    refine lv_iload_n hx hb dX12_soonest_20 rfl (lv_at hl 0 rfl) ?_
    obtain ⟨h4, hf⟩ := ck_some hf
    refine m_iald X hK hP 15 rfl (by decide) h4 dX12_soonest_21 ?_
    refine lv_istore_n (lv' := [(3, .int (z4 (o3 (o2.1).toNat))), (2, .int (z4 o2.1)), (0, .ref a_t), (1, .int (z4 x1))]) hx hb dX12_soonest_22 rfl hl (by decide) rfl (fun ls hl => ?_)
    refine lv_iload_n hx hb dX12_soonest_23 rfl (lv_at hl 0 rfl) ?_
    refine m_bipush X dX12_soonest_24 (by decide) ?_
    obtain ⟨h5, hf⟩ := ck_some hf
    refine m_icmp_eq X ⟨h5, ⟨by decide, by decide⟩⟩ dX12_soonest_26 (tgt := 34) (by decide) (fun (hc_ : o3 (o2.1).toNat = 100) => ?_) (fun (hc_ : ¬ (o3 (o2.1).toNat = 100)) => ?_)
    · rw [if_pos hc_] at hf
      refine m_bipush X dX12_soonest_34 (by decide) ?_
      obtain rfl := Option.some.inj hf
      exact ret _ _ _ _ hP hD hS dX12_soonest_36
    · rw [if_neg hc_] at hf
      refine lv_iload_n hx hb dX12_soonest_29 rfl (lv_at hl 3 rfl) ?_
      refine lv_iload_n hx hb dX12_soonest_30 rfl (lv_at hl 0 rfl) ?_
      obtain ⟨h6, hf⟩ := ck_some hf
      refine m_icmp_lt X h6 dX12_soonest_31 (tgt := 37) (by decide) (fun (hc_ : x1 < o3 (o2.1).toNat) => ?_) (fun (hc_ : ¬ (x1 < o3 (o2.1).toNat)) => ?_)
      · rw [if_pos hc_] at hf
        refine lv_iload_n hx hb dX12_soonest_37 rfl (lv_at hl 3 rfl) ?_
        refine m_iconst X dX12_soonest_38 ?_
        obtain ⟨h7, hf⟩ := ck_some hf
        refine m_icmp_ne X ⟨h7, ⟨by decide, by decide⟩⟩ dX12_soonest_39 (tgt := 44) (by decide) (fun (hc_ : ¬ (x1 = (-1))) => ?_) (fun (hc_ : x1 = (-1)) => ?_)
        · rw [if_neg hc_] at hf
          refine m_iconst X dX12_soonest_44 ?_
          refine lv_istore (lv' := [(4, .int (z4 0)), (3, .int (z4 (o3 (o2.1).toNat))), (2, .int (z4 o2.1)), (0, .ref a_t), (1, .int (z4 x1))]) hx hb dX12_soonest_45 hl (by decide) rfl (fun ls hl => ?_)
          refine m_iconst X dX12_soonest_47 ?_
          refine lv_istore (lv' := [(5, .int (z4 0)), (4, .int (z4 0)), (3, .int (z4 (o3 (o2.1).toNat))), (2, .int (z4 o2.1)), (0, .ref a_t), (1, .int (z4 x1))]) hx hb dX12_soonest_48 hl (by decide) rfl (fun ls hl => ?_)
          obtain ⟨o8, hj8, hr8⟩ := bd_some hf
          have E8_0 : ∀ (o_ : Int), o8 = o_ → ∀ (H : Heap) (locs : List Loc) (ls : Array Slot), lv_has ls 6 [(4, .int (z4 o_))] → va_P D vwCl [(a_t, .inr (12, [.ref a_t_now, .ref a_t_read, .ref a_t_past, .int (z4 t_deeds), .ref a_t_images, .ref a_t_isKept, .ref a_t_text, .int (z4 t_letters), .int (z4 t_at), .int (z4 t_tokenAt), .int (z4 t_tokenSort), .int (z4 t_tokenValue), .int (z4 t_items), .int (z4 t_isChanceTold), .int (z4 t_areSumsTold), .ref a_t_metAt, .ref a_t_memoryAt, .ref a_t_upAt, .ref a_t_downAt, .ref a_t_isSignal, .ref a_t_memories, .ref a_t_placeOf, .ref a_t_nextPlace, .int (z4 o2.2.1), .ref a_t_kindOf, .ref a_t_newKind, .int (z4 o2.2.2.1), .ref a_t_stateOfKind, .ref a_t_stateAt, .ref a_t_stepTo, .int (z4 o2.2.2.2.1), .ref a_t_far, .ref a_t_ways, .ref a_t_nextWays, .ref a_t_table])), (a_t_now, .inl (E 0, 98, .inl (A4 t_now))), (a_t_metAt, .inl (E 0, 40, .inl (A4 o2.2.2.2.2.1))), (a_t_memoryAt, .inl (E 0, 40, .inl (A4 o2.2.2.2.2.2.1))), (a_t_isSignal, .inl (E 1, 40, .inl (A4 o2.2.2.2.2.2.2.1))), (a_t_upAt, .inl (E 0, 40, .inl (A4 o2.2.2.2.2.2.2.2.1))), (a_t_downAt, .inl (E 0, 40, .inl (A4 o2.2.2.2.2.2.2.2.2.1))), (a_t_placeOf, .inl (E 0, 64, .inl (A4 o2.2.2.2.2.2.2.2.2.2.1))), (a_t_memories, .inl (E 0, 64, .inl (A4 o2.2.2.2.2.2.2.2.2.2.2.1))), (a_t_nextPlace, .inl (E 0, 320, .inl (A4 o2.2.2.2.2.2.2.2.2.2.2.2.1))), (a_t_kindOf, .inl (E 0, 64, .inl (A4 o2.2.2.2.2.2.2.2.2.2.2.2.2.1))), (a_t_newKind, .inl (E 0, 64, .inl (A4 o2.2.2.2.2.2.2.2.2.2.2.2.2.2.1))), (a_t_stateOfKind, .inl (E 0, 64, .inl (A4 o2.2.2.2.2.2.2.2.2.2.2.2.2.2.2.1))), (a_t_stateAt, .inl (E 0, 64, .inl (A4 o2.2.2.2.2.2.2.2.2.2.2.2.2.2.2.2.1))), (a_t_stepTo, .inl (E 0, 320, .inl (A4 o2.2.2.2.2.2.2.2.2.2.2.2.2.2.2.2.2))), (a_t_far, .inl (E 0, 64, .inl (A4 o3)))] H → va_D A [(a_t, .inr (12, [.ref a_t_now, .ref a_t_read, .ref a_t_past, .int (z4 t_deeds), .ref a_t_images, .ref a_t_isKept, .ref a_t_text, .int (z4 t_letters), .int (z4 t_at), .int (z4 t_tokenAt), .int (z4 t_tokenSort), .int (z4 t_tokenValue), .int (z4 t_items), .int (z4 t_isChanceTold), .int (z4 t_areSumsTold), .ref a_t_metAt, .ref a_t_memoryAt, .ref a_t_upAt, .ref a_t_downAt, .ref a_t_isSignal, .ref a_t_memories, .ref a_t_placeOf, .ref a_t_nextPlace, .int (z4 o2.2.1), .ref a_t_kindOf, .ref a_t_newKind, .int (z4 o2.2.2.1), .ref a_t_stateOfKind, .ref a_t_stateAt, .ref a_t_stepTo, .int (z4 o2.2.2.2.1), .ref a_t_far, .ref a_t_ways, .ref a_t_nextWays, .ref a_t_table])), (a_t_now, .inl (E 0, 98, .inl (A4 t_now))), (a_t_metAt, .inl (E 0, 40, .inl (A4 o2.2.2.2.2.1))), (a_t_memoryAt, .inl (E 0, 40, .inl (A4 o2.2.2.2.2.2.1))), (a_t_isSignal, .inl (E 1, 40, .inl (A4 o2.2.2.2.2.2.2.1))), (a_t_upAt, .inl (E 0, 40, .inl (A4 o2.2.2.2.2.2.2.2.1))), (a_t_downAt, .inl (E 0, 40, .inl (A4 o2.2.2.2.2.2.2.2.2.1))), (a_t_placeOf, .inl (E 0, 64, .inl (A4 o2.2.2.2.2.2.2.2.2.2.1))), (a_t_memories, .inl (E 0, 64, .inl (A4 o2.2.2.2.2.2.2.2.2.2.2.1))), (a_t_nextPlace, .inl (E 0, 320, .inl (A4 o2.2.2.2.2.2.2.2.2.2.2.2.1))), (a_t_kindOf, .inl (E 0, 64, .inl (A4 o2.2.2.2.2.2.2.2.2.2.2.2.2.1))), (a_t_newKind, .inl (E 0, 64, .inl (A4 o2.2.2.2.2.2.2.2.2.2.2.2.2.2.1))), (a_t_stateOfKind, .inl (E 0, 64, .inl (A4 o2.2.2.2.2.2.2.2.2.2.2.2.2.2.2.1))), (a_t_stateAt, .inl (E 0, 64, .inl (A4 o2.2.2.2.2.2.2.2.2.2.2.2.2.2.2.2.1))), (a_t_stepTo, .inl (E 0, 320, .inl (A4 o2.2.2.2.2.2.2.2.2.2.2.2.2.2.2.2.2))), (a_t_far, .inl (E 0, 64, .inl (A4 o3)))] → va_S A s.heap H locs → W p l e rm_X12_soonest s m args below meth c H locs 0 0 Q (F0 m 109 ls []) := by
            intro o_ ho_ H locs ls hl hP hD hS
            subst ho_
            refine lv_iload hx hb dX12_soonest_109 (lv_at hl 0 rfl) ?_
            obtain rfl := Option.some.inj hr8
            exact ret _ _ _ _ hP hD hS dX12_soonest_111
          have L8 : ∀ (k_ : Nat) (v50_2 : Int) (v50_4 : Int) (v50_5 : Int), ∀ (H : Heap) (locs : List Loc) (ls : Array Slot), lv_has ls 6 [(0, .ref a_t), (1, .int (z4 x1)), (2, .int (z4 v50_2)), (3, .int (z4 (o3 (o2.1).toNat))), (4, .int (z4 v50_4)), (5, .int (z4 v50_5))] → va_P D vwCl [(a_t, .inr (12, [.ref a_t_now, .ref a_t_read, .ref a_t_past, .int (z4 t_deeds), .ref a_t_images, .ref a_t_isKept, .ref a_t_text, .int (z4 t_letters), .int (z4 t_at), .int (z4 t_tokenAt), .int (z4 t_tokenSort), .int (z4 t_tokenValue), .int (z4 t_items), .int (z4 t_isChanceTold), .int (z4 t_areSumsTold), .ref a_t_metAt, .ref a_t_memoryAt, .ref a_t_upAt, .ref a_t_downAt, .ref a_t_isSignal, .ref a_t_memories, .ref a_t_placeOf, .ref a_t_nextPlace, .int (z4 o2.2.1), .ref a_t_kindOf, .ref a_t_newKind, .int (z4 o2.2.2.1), .ref a_t_stateOfKind, .ref a_t_stateAt, .ref a_t_stepTo, .int (z4 o2.2.2.2.1), .ref a_t_far, .ref a_t_ways, .ref a_t_nextWays, .ref a_t_table])), (a_t_now, .inl (E 0, 98, .inl (A4 t_now))), (a_t_metAt, .inl (E 0, 40, .inl (A4 o2.2.2.2.2.1))), (a_t_memoryAt, .inl (E 0, 40, .inl (A4 o2.2.2.2.2.2.1))), (a_t_isSignal, .inl (E 1, 40, .inl (A4 o2.2.2.2.2.2.2.1))), (a_t_upAt, .inl (E 0, 40, .inl (A4 o2.2.2.2.2.2.2.2.1))), (a_t_downAt, .inl (E 0, 40, .inl (A4 o2.2.2.2.2.2.2.2.2.1))), (a_t_placeOf, .inl (E 0, 64, .inl (A4 o2.2.2.2.2.2.2.2.2.2.1))), (a_t_memories, .inl (E 0, 64, .inl (A4 o2.2.2.2.2.2.2.2.2.2.2.1))), (a_t_nextPlace, .inl (E 0, 320, .inl (A4 o2.2.2.2.2.2.2.2.2.2.2.2.1))), (a_t_kindOf, .inl (E 0, 64, .inl (A4 o2.2.2.2.2.2.2.2.2.2.2.2.2.1))), (a_t_newKind, .inl (E 0, 64, .inl (A4 o2.2.2.2.2.2.2.2.2.2.2.2.2.2.1))), (a_t_stateOfKind, .inl (E 0, 64, .inl (A4 o2.2.2.2.2.2.2.2.2.2.2.2.2.2.2.1))), (a_t_stateAt, .inl (E 0, 64, .inl (A4 o2.2.2.2.2.2.2.2.2.2.2.2.2.2.2.2.1))), (a_t_stepTo, .inl (E 0, 320, .inl (A4 o2.2.2.2.2.2.2.2.2.2.2.2.2.2.2.2.2))), (a_t_far, .inl (E 0, 64, .inl (A4 o3)))] H → va_D A [(a_t, .inr (12, [.ref a_t_now, .ref a_t_read, .ref a_t_past, .int (z4 t_deeds), .ref a_t_images, .ref a_t_isKept, .ref a_t_text, .int (z4 t_letters), .int (z4 t_at), .int (z4 t_tokenAt), .int (z4 t_tokenSort), .int (z4 t_tokenValue), .int (z4 t_items), .int (z4 t_isChanceTold), .int (z4 t_areSumsTold), .ref a_t_metAt, .ref a_t_memoryAt, .ref a_t_upAt, .ref a_t_downAt, .ref a_t_isSignal, .ref a_t_memories, .ref a_t_placeOf, .ref a_t_nextPlace, .int (z4 o2.2.1), .ref a_t_kindOf, .ref a_t_newKind, .int (z4 o2.2.2.1), .ref a_t_stateOfKind, .ref a_t_stateAt, .ref a_t_stepTo, .int (z4 o2.2.2.2.1), .ref a_t_far, .ref a_t_ways, .ref a_t_nextWays, .ref a_t_table])), (a_t_now, .inl (E 0, 98, .inl (A4 t_now))), (a_t_metAt, .inl (E 0, 40, .inl (A4 o2.2.2.2.2.1))), (a_t_memoryAt, .inl (E 0, 40, .inl (A4 o2.2.2.2.2.2.1))), (a_t_isSignal, .inl (E 1, 40, .inl (A4 o2.2.2.2.2.2.2.1))), (a_t_upAt, .inl (E 0, 40, .inl (A4 o2.2.2.2.2.2.2.2.1))), (a_t_downAt, .inl (E 0, 40, .inl (A4 o2.2.2.2.2.2.2.2.2.1))), (a_t_placeOf, .inl (E 0, 64, .inl (A4 o2.2.2.2.2.2.2.2.2.2.1))), (a_t_memories, .inl (E 0, 64, .inl (A4 o2.2.2.2.2.2.2.2.2.2.2.1))), (a_t_nextPlace, .inl (E 0, 320, .inl (A4 o2.2.2.2.2.2.2.2.2.2.2.2.1))), (a_t_kindOf, .inl (E 0, 64, .inl (A4 o2.2.2.2.2.2.2.2.2.2.2.2.2.1))), (a_t_newKind, .inl (E 0, 64, .inl (A4 o2.2.2.2.2.2.2.2.2.2.2.2.2.2.1))), (a_t_stateOfKind, .inl (E 0, 64, .inl (A4 o2.2.2.2.2.2.2.2.2.2.2.2.2.2.2.1))), (a_t_stateAt, .inl (E 0, 64, .inl (A4 o2.2.2.2.2.2.2.2.2.2.2.2.2.2.2.2.1))), (a_t_stepTo, .inl (E 0, 320, .inl (A4 o2.2.2.2.2.2.2.2.2.2.2.2.2.2.2.2.2))), (a_t_far, .inl (E 0, 64, .inl (A4 o3)))] → va_S A s.heap H locs → lp_ (fun (q : Int × Int × Int) => F_X12_soonest_L50 n x1 o2 o3 q.1 q.2.1 q.2.2) k_ (v50_2, v50_4, v50_5) = some o8 → W p l e rm_X12_soonest s m args below meth c H locs 0 0 Q (F0 m 50 ls []) := by
            intro k_
            induction k_ with
            | zero =>
              intro v50_2 v50_4 v50_5 H locs ls hl hP hD hS hq_; exact (lp_zero hq_).elim
            | succ k_ ih8 =>
              intro v50_2 v50_4 v50_5 H locs ls hl hP hD hS hq_
              obtain ⟨t_8, hb8, hq8⟩ := lp_some hq_
              replace hb8 : F_X12_soonest_L50 n x1 o2 o3 v50_2 v50_4 v50_5 = some t_8 := hb8
              unfold F_X12_soonest_L50 at hb8
              refine lv_iload hx hb dX12_soonest_50 (lv_at hl 5 rfl) ?_
              refine lv_iload_n hx hb dX12_soonest_52 rfl (lv_at hl 1 rfl) ?_
              obtain ⟨h9, hb8⟩ := ck_some hb8
              refine m_icmp_gt X h9 dX12_soonest_53 (tgt := 109) (by decide) (fun (hc_ : x1 < v50_5) => ?_) (fun (hc_ : ¬ (x1 < v50_5)) => ?_)
              · rw [if_pos hc_] at hb8
                obtain rfl := Option.some.inj hb8
                exact E8_0 _ (Option.some.inj hq8).symm _ _ _ (lv_sub hl [4] rfl) hP hD hS
              · rw [if_neg hc_] at hb8
                refine m_iconst X dX12_soonest_56 ?_
                refine lv_istore (lv' := [(4, .int (z4 0)), (0, .ref a_t), (1, .int (z4 x1)), (2, .int (z4 v50_2)), (3, .int (z4 (o3 (o2.1).toNat))), (5, .int (z4 v50_5))]) hx hb dX12_soonest_57 hl (by decide) rfl (fun ls hl => ?_)
                obtain ⟨o10, hj10, hr10⟩ := bd_some hb8
                have E10_0 : ∀ (o_ : Int), o10 = o_ → ∀ (H : Heap) (locs : List Loc) (ls : Array Slot), lv_has ls 6 [(0, .ref a_t), (1, .int (z4 x1)), (2, .int (z4 v50_2)), (3, .int (z4 (o3 (o2.1).toNat))), (4, .int (z4 o_)), (5, .int (z4 v50_5))] → va_P D vwCl [(a_t, .inr (12, [.ref a_t_now, .ref a_t_read, .ref a_t_past, .int (z4 t_deeds), .ref a_t_images, .ref a_t_isKept, .ref a_t_text, .int (z4 t_letters), .int (z4 t_at), .int (z4 t_tokenAt), .int (z4 t_tokenSort), .int (z4 t_tokenValue), .int (z4 t_items), .int (z4 t_isChanceTold), .int (z4 t_areSumsTold), .ref a_t_metAt, .ref a_t_memoryAt, .ref a_t_upAt, .ref a_t_downAt, .ref a_t_isSignal, .ref a_t_memories, .ref a_t_placeOf, .ref a_t_nextPlace, .int (z4 o2.2.1), .ref a_t_kindOf, .ref a_t_newKind, .int (z4 o2.2.2.1), .ref a_t_stateOfKind, .ref a_t_stateAt, .ref a_t_stepTo, .int (z4 o2.2.2.2.1), .ref a_t_far, .ref a_t_ways, .ref a_t_nextWays, .ref a_t_table])), (a_t_now, .inl (E 0, 98, .inl (A4 t_now))), (a_t_metAt, .inl (E 0, 40, .inl (A4 o2.2.2.2.2.1))), (a_t_memoryAt, .inl (E 0, 40, .inl (A4 o2.2.2.2.2.2.1))), (a_t_isSignal, .inl (E 1, 40, .inl (A4 o2.2.2.2.2.2.2.1))), (a_t_upAt, .inl (E 0, 40, .inl (A4 o2.2.2.2.2.2.2.2.1))), (a_t_downAt, .inl (E 0, 40, .inl (A4 o2.2.2.2.2.2.2.2.2.1))), (a_t_placeOf, .inl (E 0, 64, .inl (A4 o2.2.2.2.2.2.2.2.2.2.1))), (a_t_memories, .inl (E 0, 64, .inl (A4 o2.2.2.2.2.2.2.2.2.2.2.1))), (a_t_nextPlace, .inl (E 0, 320, .inl (A4 o2.2.2.2.2.2.2.2.2.2.2.2.1))), (a_t_kindOf, .inl (E 0, 64, .inl (A4 o2.2.2.2.2.2.2.2.2.2.2.2.2.1))), (a_t_newKind, .inl (E 0, 64, .inl (A4 o2.2.2.2.2.2.2.2.2.2.2.2.2.2.1))), (a_t_stateOfKind, .inl (E 0, 64, .inl (A4 o2.2.2.2.2.2.2.2.2.2.2.2.2.2.2.1))), (a_t_stateAt, .inl (E 0, 64, .inl (A4 o2.2.2.2.2.2.2.2.2.2.2.2.2.2.2.2.1))), (a_t_stepTo, .inl (E 0, 320, .inl (A4 o2.2.2.2.2.2.2.2.2.2.2.2.2.2.2.2.2))), (a_t_far, .inl (E 0, 64, .inl (A4 o3)))] H → va_D A [(a_t, .inr (12, [.ref a_t_now, .ref a_t_read, .ref a_t_past, .int (z4 t_deeds), .ref a_t_images, .ref a_t_isKept, .ref a_t_text, .int (z4 t_letters), .int (z4 t_at), .int (z4 t_tokenAt), .int (z4 t_tokenSort), .int (z4 t_tokenValue), .int (z4 t_items), .int (z4 t_isChanceTold), .int (z4 t_areSumsTold), .ref a_t_metAt, .ref a_t_memoryAt, .ref a_t_upAt, .ref a_t_downAt, .ref a_t_isSignal, .ref a_t_memories, .ref a_t_placeOf, .ref a_t_nextPlace, .int (z4 o2.2.1), .ref a_t_kindOf, .ref a_t_newKind, .int (z4 o2.2.2.1), .ref a_t_stateOfKind, .ref a_t_stateAt, .ref a_t_stepTo, .int (z4 o2.2.2.2.1), .ref a_t_far, .ref a_t_ways, .ref a_t_nextWays, .ref a_t_table])), (a_t_now, .inl (E 0, 98, .inl (A4 t_now))), (a_t_metAt, .inl (E 0, 40, .inl (A4 o2.2.2.2.2.1))), (a_t_memoryAt, .inl (E 0, 40, .inl (A4 o2.2.2.2.2.2.1))), (a_t_isSignal, .inl (E 1, 40, .inl (A4 o2.2.2.2.2.2.2.1))), (a_t_upAt, .inl (E 0, 40, .inl (A4 o2.2.2.2.2.2.2.2.1))), (a_t_downAt, .inl (E 0, 40, .inl (A4 o2.2.2.2.2.2.2.2.2.1))), (a_t_placeOf, .inl (E 0, 64, .inl (A4 o2.2.2.2.2.2.2.2.2.2.1))), (a_t_memories, .inl (E 0, 64, .inl (A4 o2.2.2.2.2.2.2.2.2.2.2.1))), (a_t_nextPlace, .inl (E 0, 320, .inl (A4 o2.2.2.2.2.2.2.2.2.2.2.2.1))), (a_t_kindOf, .inl (E 0, 64, .inl (A4 o2.2.2.2.2.2.2.2.2.2.2.2.2.1))), (a_t_newKind, .inl (E 0, 64, .inl (A4 o2.2.2.2.2.2.2.2.2.2.2.2.2.2.1))), (a_t_stateOfKind, .inl (E 0, 64, .inl (A4 o2.2.2.2.2.2.2.2.2.2.2.2.2.2.2.1))), (a_t_stateAt, .inl (E 0, 64, .inl (A4 o2.2.2.2.2.2.2.2.2.2.2.2.2.2.2.2.1))), (a_t_stepTo, .inl (E 0, 320, .inl (A4 o2.2.2.2.2.2.2.2.2.2.2.2.2.2.2.2.2))), (a_t_far, .inl (E 0, 64, .inl (A4 o3)))] → va_S A s.heap H locs → W p l e rm_X12_soonest s m args below meth c H locs 0 0 Q (F0 m 81 ls []) := by
                  intro o_ ho_ H locs ls hl hP hD hS
                  subst ho_
                  refine lv_iload hx hb dX12_soonest_81 (lv_at hl 5 rfl) ?_
                  refine lv_iload_n hx hb dX12_soonest_83 rfl (lv_at hl 1 rfl) ?_
                  obtain ⟨o13, hj13, hr13⟩ := bd_some hr10
                  have J13 : ∀ (o_ : Int), o13 = o_ → ∀ (H : Heap) (locs : List Loc) (ls : Array Slot), lv_has ls 6 [(0, .ref a_t), (1, .int (z4 x1)), (3, .int (z4 (o3 (o2.1).toNat))), (4, .int (z4 o10)), (5, .int (z4 v50_5))] → va_P D vwCl [(a_t, .inr (12, [.ref a_t_now, .ref a_t_read, .ref a_t_past, .int (z4 t_deeds), .ref a_t_images, .ref a_t_isKept, .ref a_t_text, .int (z4 t_letters), .int (z4 t_at), .int (z4 t_tokenAt), .int (z4 t_tokenSort), .int (z4 t_tokenValue), .int (z4 t_items), .int (z4 t_isChanceTold), .int (z4 t_areSumsTold), .ref a_t_metAt, .ref a_t_memoryAt, .ref a_t_upAt, .ref a_t_downAt, .ref a_t_isSignal, .ref a_t_memories, .ref a_t_placeOf, .ref a_t_nextPlace, .int (z4 o2.2.1), .ref a_t_kindOf, .ref a_t_newKind, .int (z4 o2.2.2.1), .ref a_t_stateOfKind, .ref a_t_stateAt, .ref a_t_stepTo, .int (z4 o2.2.2.2.1), .ref a_t_far, .ref a_t_ways, .ref a_t_nextWays, .ref a_t_table])), (a_t_now, .inl (E 0, 98, .inl (A4 t_now))), (a_t_metAt, .inl (E 0, 40, .inl (A4 o2.2.2.2.2.1))), (a_t_memoryAt, .inl (E 0, 40, .inl (A4 o2.2.2.2.2.2.1))), (a_t_isSignal, .inl (E 1, 40, .inl (A4 o2.2.2.2.2.2.2.1))), (a_t_upAt, .inl (E 0, 40, .inl (A4 o2.2.2.2.2.2.2.2.1))), (a_t_downAt, .inl (E 0, 40, .inl (A4 o2.2.2.2.2.2.2.2.2.1))), (a_t_placeOf, .inl (E 0, 64, .inl (A4 o2.2.2.2.2.2.2.2.2.2.1))), (a_t_memories, .inl (E 0, 64, .inl (A4 o2.2.2.2.2.2.2.2.2.2.2.1))), (a_t_nextPlace, .inl (E 0, 320, .inl (A4 o2.2.2.2.2.2.2.2.2.2.2.2.1))), (a_t_kindOf, .inl (E 0, 64, .inl (A4 o2.2.2.2.2.2.2.2.2.2.2.2.2.1))), (a_t_newKind, .inl (E 0, 64, .inl (A4 o2.2.2.2.2.2.2.2.2.2.2.2.2.2.1))), (a_t_stateOfKind, .inl (E 0, 64, .inl (A4 o2.2.2.2.2.2.2.2.2.2.2.2.2.2.2.1))), (a_t_stateAt, .inl (E 0, 64, .inl (A4 o2.2.2.2.2.2.2.2.2.2.2.2.2.2.2.2.1))), (a_t_stepTo, .inl (E 0, 320, .inl (A4 o2.2.2.2.2.2.2.2.2.2.2.2.2.2.2.2.2))), (a_t_far, .inl (E 0, 64, .inl (A4 o3)))] H → va_D A [(a_t, .inr (12, [.ref a_t_now, .ref a_t_read, .ref a_t_past, .int (z4 t_deeds), .ref a_t_images, .ref a_t_isKept, .ref a_t_text, .int (z4 t_letters), .int (z4 t_at), .int (z4 t_tokenAt), .int (z4 t_tokenSort), .int (z4 t_tokenValue), .int (z4 t_items), .int (z4 t_isChanceTold), .int (z4 t_areSumsTold), .ref a_t_metAt, .ref a_t_memoryAt, .ref a_t_upAt, .ref a_t_downAt, .ref a_t_isSignal, .ref a_t_memories, .ref a_t_placeOf, .ref a_t_nextPlace, .int (z4 o2.2.1), .ref a_t_kindOf, .ref a_t_newKind, .int (z4 o2.2.2.1), .ref a_t_stateOfKind, .ref a_t_stateAt, .ref a_t_stepTo, .int (z4 o2.2.2.2.1), .ref a_t_far, .ref a_t_ways, .ref a_t_nextWays, .ref a_t_table])), (a_t_now, .inl (E 0, 98, .inl (A4 t_now))), (a_t_metAt, .inl (E 0, 40, .inl (A4 o2.2.2.2.2.1))), (a_t_memoryAt, .inl (E 0, 40, .inl (A4 o2.2.2.2.2.2.1))), (a_t_isSignal, .inl (E 1, 40, .inl (A4 o2.2.2.2.2.2.2.1))), (a_t_upAt, .inl (E 0, 40, .inl (A4 o2.2.2.2.2.2.2.2.1))), (a_t_downAt, .inl (E 0, 40, .inl (A4 o2.2.2.2.2.2.2.2.2.1))), (a_t_placeOf, .inl (E 0, 64, .inl (A4 o2.2.2.2.2.2.2.2.2.2.1))), (a_t_memories, .inl (E 0, 64, .inl (A4 o2.2.2.2.2.2.2.2.2.2.2.1))), (a_t_nextPlace, .inl (E 0, 320, .inl (A4 o2.2.2.2.2.2.2.2.2.2.2.2.1))), (a_t_kindOf, .inl (E 0, 64, .inl (A4 o2.2.2.2.2.2.2.2.2.2.2.2.2.1))), (a_t_newKind, .inl (E 0, 64, .inl (A4 o2.2.2.2.2.2.2.2.2.2.2.2.2.2.1))), (a_t_stateOfKind, .inl (E 0, 64, .inl (A4 o2.2.2.2.2.2.2.2.2.2.2.2.2.2.2.1))), (a_t_stateAt, .inl (E 0, 64, .inl (A4 o2.2.2.2.2.2.2.2.2.2.2.2.2.2.2.2.1))), (a_t_stepTo, .inl (E 0, 320, .inl (A4 o2.2.2.2.2.2.2.2.2.2.2.2.2.2.2.2.2))), (a_t_far, .inl (E 0, 64, .inl (A4 o3)))] → va_S A s.heap H locs → W p l e rm_X12_soonest s m args below meth c H locs 0 0 Q (F0 m 102 ls [.int (z4 o_)]) := by
                    intro o_ ho_ H locs ls hl hP hD hS
                    subst ho_
                    refine lv_istore_n (lv' := [(2, .int (z4 o13)), (0, .ref a_t), (1, .int (z4 x1)), (3, .int (z4 (o3 (o2.1).toNat))), (4, .int (z4 o10)), (5, .int (z4 v50_5))]) hx hb dX12_soonest_102 rfl hl (by decide) rfl (fun ls hl => ?_)
                    refine m_iinc X 5 [(5, .int (z4 (v50_5 + 1))), (2, .int (z4 o13)), (0, .ref a_t), (1, .int (z4 x1)), (3, .int (z4 (o3 (o2.1).toNat))), (4, .int (z4 o10))] dX12_soonest_103 hl rfl (by decide) rfl (fun ls hl => ?_)
                    refine lv_goto (tgt := 50) hx hb dX12_soonest_106 (by decide) ?_
                    obtain rfl := Option.some.inj hr13
                    exact ih8 _ _ _ _ _ _ (lv_sub hl [2, 3, 1, 4, 5, 0] rfl) hP hD hS hq8
                  obtain ⟨h14, hj13⟩ := ck_some hj13
                  refine m_icmp_ge X h14 dX12_soonest_84 (tgt := 101) (by decide) (fun (hc_ : ¬ (v50_5 < x1)) => ?_) (fun (hc_ : v50_5 < x1) => ?_)
                  · rw [if_neg hc_] at hj13
                    refine lv_iload_n hx hb dX12_soonest_101 rfl (lv_at hl 2 rfl) ?_
                    exact J13 _ (Option.some.inj hj13).symm _ _ _ (lv_sub hl [0, 1, 3, 4, 5] rfl) hP hD hS
                  · rw [if_pos hc_] at hj13
                    refine lv_aload_n hx hb dX12_soonest_87 rfl (lv_at hl 0 rfl) ?_
                    refine m_get X hK hP cl_X12 iT_X12 29 (by decide) fl_X12_65 0 rfl rfl dX12_soonest_88 ?_
                    refine m_iconst X dX12_soonest_91 ?_
                    refine lv_iload_n hx hb dX12_soonest_92 rfl (lv_at hl 2 rfl) ?_
                    refine m_imul X dX12_soonest_93 ?_
                    refine lv_iload hx hb dX12_soonest_94 (lv_at hl 4 rfl) ?_
                    refine m_iadd X dX12_soonest_96 ?_
                    obtain ⟨h15, hj13⟩ := ck_some hj13
                    refine m_iald X hK hP 14 rfl (by decide) h15 dX12_soonest_97 ?_
                    refine lv_goto (tgt := 102) hx hb dX12_soonest_98 (by decide) ?_
                    exact J13 _ (Option.some.inj hj13).symm _ _ _ (lv_sub hl [0, 1, 3, 4, 5] rfl) hP hD hS
                have L10 : ∀ (k_ : Nat) (v59_4 : Int), ∀ (H : Heap) (locs : List Loc) (ls : Array Slot), lv_has ls 6 [(0, .ref a_t), (1, .int (z4 x1)), (2, .int (z4 v50_2)), (3, .int (z4 (o3 (o2.1).toNat))), (4, .int (z4 v59_4)), (5, .int (z4 v50_5))] → va_P D vwCl [(a_t, .inr (12, [.ref a_t_now, .ref a_t_read, .ref a_t_past, .int (z4 t_deeds), .ref a_t_images, .ref a_t_isKept, .ref a_t_text, .int (z4 t_letters), .int (z4 t_at), .int (z4 t_tokenAt), .int (z4 t_tokenSort), .int (z4 t_tokenValue), .int (z4 t_items), .int (z4 t_isChanceTold), .int (z4 t_areSumsTold), .ref a_t_metAt, .ref a_t_memoryAt, .ref a_t_upAt, .ref a_t_downAt, .ref a_t_isSignal, .ref a_t_memories, .ref a_t_placeOf, .ref a_t_nextPlace, .int (z4 o2.2.1), .ref a_t_kindOf, .ref a_t_newKind, .int (z4 o2.2.2.1), .ref a_t_stateOfKind, .ref a_t_stateAt, .ref a_t_stepTo, .int (z4 o2.2.2.2.1), .ref a_t_far, .ref a_t_ways, .ref a_t_nextWays, .ref a_t_table])), (a_t_now, .inl (E 0, 98, .inl (A4 t_now))), (a_t_metAt, .inl (E 0, 40, .inl (A4 o2.2.2.2.2.1))), (a_t_memoryAt, .inl (E 0, 40, .inl (A4 o2.2.2.2.2.2.1))), (a_t_isSignal, .inl (E 1, 40, .inl (A4 o2.2.2.2.2.2.2.1))), (a_t_upAt, .inl (E 0, 40, .inl (A4 o2.2.2.2.2.2.2.2.1))), (a_t_downAt, .inl (E 0, 40, .inl (A4 o2.2.2.2.2.2.2.2.2.1))), (a_t_placeOf, .inl (E 0, 64, .inl (A4 o2.2.2.2.2.2.2.2.2.2.1))), (a_t_memories, .inl (E 0, 64, .inl (A4 o2.2.2.2.2.2.2.2.2.2.2.1))), (a_t_nextPlace, .inl (E 0, 320, .inl (A4 o2.2.2.2.2.2.2.2.2.2.2.2.1))), (a_t_kindOf, .inl (E 0, 64, .inl (A4 o2.2.2.2.2.2.2.2.2.2.2.2.2.1))), (a_t_newKind, .inl (E 0, 64, .inl (A4 o2.2.2.2.2.2.2.2.2.2.2.2.2.2.1))), (a_t_stateOfKind, .inl (E 0, 64, .inl (A4 o2.2.2.2.2.2.2.2.2.2.2.2.2.2.2.1))), (a_t_stateAt, .inl (E 0, 64, .inl (A4 o2.2.2.2.2.2.2.2.2.2.2.2.2.2.2.2.1))), (a_t_stepTo, .inl (E 0, 320, .inl (A4 o2.2.2.2.2.2.2.2.2.2.2.2.2.2.2.2.2))), (a_t_far, .inl (E 0, 64, .inl (A4 o3)))] H → va_D A [(a_t, .inr (12, [.ref a_t_now, .ref a_t_read, .ref a_t_past, .int (z4 t_deeds), .ref a_t_images, .ref a_t_isKept, .ref a_t_text, .int (z4 t_letters), .int (z4 t_at), .int (z4 t_tokenAt), .int (z4 t_tokenSort), .int (z4 t_tokenValue), .int (z4 t_items), .int (z4 t_isChanceTold), .int (z4 t_areSumsTold), .ref a_t_metAt, .ref a_t_memoryAt, .ref a_t_upAt, .ref a_t_downAt, .ref a_t_isSignal, .ref a_t_memories, .ref a_t_placeOf, .ref a_t_nextPlace, .int (z4 o2.2.1), .ref a_t_kindOf, .ref a_t_newKind, .int (z4 o2.2.2.1), .ref a_t_stateOfKind, .ref a_t_stateAt, .ref a_t_stepTo, .int (z4 o2.2.2.2.1), .ref a_t_far, .ref a_t_ways, .ref a_t_nextWays, .ref a_t_table])), (a_t_now, .inl (E 0, 98, .inl (A4 t_now))), (a_t_metAt, .inl (E 0, 40, .inl (A4 o2.2.2.2.2.1))), (a_t_memoryAt, .inl (E 0, 40, .inl (A4 o2.2.2.2.2.2.1))), (a_t_isSignal, .inl (E 1, 40, .inl (A4 o2.2.2.2.2.2.2.1))), (a_t_upAt, .inl (E 0, 40, .inl (A4 o2.2.2.2.2.2.2.2.1))), (a_t_downAt, .inl (E 0, 40, .inl (A4 o2.2.2.2.2.2.2.2.2.1))), (a_t_placeOf, .inl (E 0, 64, .inl (A4 o2.2.2.2.2.2.2.2.2.2.1))), (a_t_memories, .inl (E 0, 64, .inl (A4 o2.2.2.2.2.2.2.2.2.2.2.1))), (a_t_nextPlace, .inl (E 0, 320, .inl (A4 o2.2.2.2.2.2.2.2.2.2.2.2.1))), (a_t_kindOf, .inl (E 0, 64, .inl (A4 o2.2.2.2.2.2.2.2.2.2.2.2.2.1))), (a_t_newKind, .inl (E 0, 64, .inl (A4 o2.2.2.2.2.2.2.2.2.2.2.2.2.2.1))), (a_t_stateOfKind, .inl (E 0, 64, .inl (A4 o2.2.2.2.2.2.2.2.2.2.2.2.2.2.2.1))), (a_t_stateAt, .inl (E 0, 64, .inl (A4 o2.2.2.2.2.2.2.2.2.2.2.2.2.2.2.2.1))), (a_t_stepTo, .inl (E 0, 320, .inl (A4 o2.2.2.2.2.2.2.2.2.2.2.2.2.2.2.2.2))), (a_t_far, .inl (E 0, 64, .inl (A4 o3)))] → va_S A s.heap H locs → lp_ (fun (q : Int) => F_X12_soonest_L59 n o2 o3 v50_2 v50_5 q) k_ v59_4 = some o10 → W p l e rm_X12_soonest s m args below meth c H locs 0 0 Q (F0 m 59 ls []) := by
                  intro k_
                  induction k_ with
                  | zero =>
                    intro v59_4 H locs ls hl hP hD hS hq_; exact (lp_zero hq_).elim
                  | succ k_ ih10 =>
                    intro v59_4 H locs ls hl hP hD hS hq_
                    obtain ⟨t_10, hb10, hq10⟩ := lp_some hq_
                    replace hb10 : F_X12_soonest_L59 n o2 o3 v50_2 v50_5 v59_4 = some t_10 := hb10
                    unfold F_X12_soonest_L59 at hb10
                    refine lv_aload_n hx hb dX12_soonest_59 rfl (lv_at hl 0 rfl) ?_
                    refine lv_iload_n hx hb dX12_soonest_60 rfl (lv_at hl 2 rfl) ?_
                    refine lv_iload hx hb dX12_soonest_61 (lv_at hl 4 rfl) ?_
                    obtain ⟨o11, ho, hb10⟩ := bd_some hb10
                    refine m_cVR X hK (k_X12_farBehind n a_t a_t_now a_t_read a_t_past a_t_images a_t_isKept a_t_text a_t_metAt a_t_memoryAt a_t_upAt a_t_downAt a_t_isSignal a_t_memories a_t_placeOf a_t_nextPlace a_t_kindOf a_t_newKind a_t_stateOfKind a_t_stateAt a_t_stepTo a_t_far a_t_ways a_t_nextWays a_t_table t_deeds t_letters t_at t_tokenAt t_tokenSort t_tokenValue t_items t_isChanceTold t_areSumsTold o2.2.1 o2.2.2.1 o2.2.2.2.1 o2.2.2.2.2.2.2.2.2.2.2.2.2.2.2.2.2 o3 v50_2 v59_4 o11 ho) (hP.sub [0, 14, 15] rfl) rfl cl_X12 lk_X12_221 co_X12_farBehind dy_X12_farBehind rfl rfl ⟨Nat.le_of_ble_eq_true rfl, Nat.le_of_ble_eq_true rfl⟩ hl.1 rfl (Nat.le_of_ble_eq_true rfl) dX12_soonest_63 (Nat.zero_le _) (Nat.zero_le _) ?_
                    refine m_iconst X dX12_soonest_66 ?_
                    refine m_iadd X dX12_soonest_67 ?_
                    refine lv_iload_n hx hb dX12_soonest_68 rfl (lv_at hl 3 rfl) ?_
                    refine lv_iload hx hb dX12_soonest_69 (lv_at hl 5 rfl) ?_
                    refine m_isub X dX12_soonest_71 ?_
                    obtain ⟨h12, hb10⟩ := ck_some hb10
                    refine m_icmp_eq X h12 dX12_soonest_72 (tgt := 81) (by decide) (fun (hc_ : o11 + 1 = (o3 (o2.1).toNat) - v50_5) => ?_) (fun (hc_ : ¬ (o11 + 1 = (o3 (o2.1).toNat) - v50_5)) => ?_)
                    · rw [if_pos hc_] at hb10
                      obtain rfl := Option.some.inj hb10
                      exact E10_0 _ (Option.some.inj hq10).symm _ _ _ (lv_sub hl [0, 1, 2, 3, 4, 5] rfl) hP hD hS
                    · rw [if_neg hc_] at hb10
                      refine m_iinc X 4 [(4, .int (z4 (v59_4 + 1))), (0, .ref a_t), (1, .int (z4 x1)), (2, .int (z4 v50_2)), (3, .int (z4 (o3 (o2.1).toNat))), (5, .int (z4 v50_5))] dX12_soonest_75 hl rfl (by decide) rfl (fun ls hl => ?_)
                      refine lv_goto (tgt := 59) hx hb dX12_soonest_78 (by decide) ?_
                      obtain rfl := Option.some.inj hb10
                      exact ih10 _ _ _ _ (lv_sub hl [1, 2, 3, 4, 0, 5] rfl) hP hD hS hq10
                exact L10 n _ _ _ _ (lv_sub hl [1, 2, 3, 4, 0, 5] rfl) hP hD hS hj10
          exact L8 n _ _ _ _ _ _ (lv_sub hl [4, 5, 3, 2, 1, 0] rfl) hP hD hS hj8
        · rw [if_pos hc_] at hf
          refine lv_iload_n hx hb dX12_soonest_42 rfl (lv_at hl 0 rfl) ?_
          obtain rfl := Option.some.inj hf
          exact ret _ _ _ _ hP hD hS dX12_soonest_43
      · rw [if_neg hc_] at hf
        refine m_bipush X dX12_soonest_34 (by decide) ?_
        obtain rfl := Option.some.inj hf
        exact ret _ _ _ _ hP hD hS dX12_soonest_36
  · rw [if_pos hc_] at hf
    refine m_iconst X dX12_soonest_5 ?_
    obtain rfl := Option.some.inj hf
    exact ret _ _ _ _ hP hD hS dX12_soonest_6
def F_X12_isSame_L9 (n : Nat) (t_now : Nat → Int) (x3 : Int) (x2 : Int) (x1 : Int) (t_metAt : Nat → Int) (v9_4 : Int) (v9_5 : Int) (v9_6 : Int) : Option ((Int × Int × Int) ⊕ (Int)) :=
  ck (r4 v9_6 ∧ r4 (t_now 17)) <|
  if v9_6 < t_now 17 then
    ck (r4 v9_5) <|
    if v9_5 = 0 then
      some (.inr v9_5)
    else
      ck (ix_ (58 + v9_6) 98) <|
      ck (hR_ x3 (t_now (58 + v9_6).toNat)) <|
      ck (nn (sr_ x3 (t_now (58 + v9_6).toNat)) ∧ nn 1) <|
      ck (hS_ 1 x2) <|
      ck (nn ((2 * v9_4) + (an_ (sr_ x3 (t_now (58 + v9_6).toNat)) 1)) ∧ nn ((sl_ 1 x2) - 1)) <|
      (F_X12_ones n (an_ ((2 * v9_4) + (an_ (sr_ x3 (t_now (58 + v9_6).toNat)) 1)) ((sl_ 1 x2) - 1))).bind fun o9 =>
      Option.bind (α := Int) (
        ck (r4 o9 ∧ r4 x1) <|
        if o9 < x1 then
          some 0
        else
          some 1) fun o10 =>
      ck (ix_ v9_6 40) <|
      Option.bind (α := Int) (
        ck (r4 (t_metAt (v9_6).toNat)) <|
        if t_metAt (v9_6).toNat = 0 then
          some 0
        else
          some 1) fun o13 =>
      Option.bind (α := Int) (
        ck (r4 o10 ∧ r4 o13) <|
        if o10 = o13 then
          some 1
        else
          some 0) fun o15 =>
      Option.bind (α := Int) (
        ck (r4 o10) <|
        if o10 = 0 then
          some (an_ ((2 * v9_4) + (an_ (sr_ x3 (t_now (58 + v9_6).toNat)) 1)) ((sl_ 1 x2) - 1))
        else
          some 0) fun o17 =>
      some (.inl (o17, o15, v9_6 + 1))
  else
    some (.inr v9_5)
def F_X12_isSame (n : Nat)  (t_now : Nat → Int) (t_metAt : Nat → Int) (x1 : Int) (x2 : Int) (x3 : Int) : Option (Int) :=
  (lp_ (fun (q : Int × Int × Int) => F_X12_isSame_L9 n t_now x3 x2 x1 t_metAt q.1 q.2.1 q.2.2) n (0, 1, 0)).bind fun o1 =>
  ck (o1 = 0 ∨ o1 = 1) <|
  some o1
def rm_X12_isSame : Room := { frames := 1, cells := 0, slots := 0, locals := 22 }
set_option maxHeartbeats 4000000 in
set_option maxRecDepth 100000 in
theorem k_X12_isSame {l : Launch} {D : va_G} {E : Nat → ClassId} (n : Nat) (a_t a_t_now a_t_read a_t_past a_t_images a_t_isKept a_t_text a_t_metAt a_t_memoryAt a_t_upAt a_t_downAt a_t_isSignal a_t_memories a_t_placeOf a_t_nextPlace a_t_kindOf a_t_newKind a_t_stateOfKind a_t_stateAt a_t_stepTo a_t_far a_t_ways a_t_nextWays a_t_table : Nat) (t_deeds : Int) (t_letters : Int) (t_at : Int) (t_tokenAt : Int) (t_tokenSort : Int) (t_tokenValue : Int) (t_items : Int) (t_isChanceTold : Int) (t_areSumsTold : Int) (t_places : Int) (t_kinds : Int) (t_states : Int) (t_now : Nat → Int) (t_metAt : Nat → Int) (x1 : Int) (x2 : Int) (x3 : Int) (res : Int) (hf : F_X12_isSame n t_now t_metAt x1 x2 x3 = some res) : MR l yX12_isSame (.code yX12_isSame cX12_isSame 9 (some .boolean)) rm_X12_isSame D E [.ref a_t, .int (z4 x1), .int (z4 x2), .int (z4 x3)] [(a_t, .inr (12, [.ref a_t_now, .ref a_t_read, .ref a_t_past, .int (z4 t_deeds), .ref a_t_images, .ref a_t_isKept, .ref a_t_text, .int (z4 t_letters), .int (z4 t_at), .int (z4 t_tokenAt), .int (z4 t_tokenSort), .int (z4 t_tokenValue), .int (z4 t_items), .int (z4 t_isChanceTold), .int (z4 t_areSumsTold), .ref a_t_metAt, .ref a_t_memoryAt, .ref a_t_upAt, .ref a_t_downAt, .ref a_t_isSignal, .ref a_t_memories, .ref a_t_placeOf, .ref a_t_nextPlace, .int (z4 t_places), .ref a_t_kindOf, .ref a_t_newKind, .int (z4 t_kinds), .ref a_t_stateOfKind, .ref a_t_stateAt, .ref a_t_stepTo, .int (z4 t_states), .ref a_t_far, .ref a_t_ways, .ref a_t_nextWays, .ref a_t_table])), (a_t_now, .inl (E 0, 98, .inl (A4 t_now))), (a_t_metAt, .inl (E 0, 40, .inl (A4 t_metAt)))] (some (.int (z4 res))) := by
  refine MRz (by decide) (Nat.le_of_ble_eq_true rfl) ?_
  intro p e s m args below meth c Q X hK hP ret ls hl
  have hx := X.1
  have hb := X.2.1
  have hl : lv_has ls 9 [(0, .ref a_t), (1, .int (z4 x1)), (2, .int (z4 x2)), (3, .int (z4 x3))] := hl
  unfold F_X12_isSame at hf
  refine m_iconst X dX12_isSame_0 ?_
  refine lv_istore (lv' := [(4, .int (z4 0)), (0, .ref a_t), (1, .int (z4 x1)), (2, .int (z4 x2)), (3, .int (z4 x3))]) hx hb dX12_isSame_1 hl (by decide) rfl (fun ls hl => ?_)
  refine m_iconst X dX12_isSame_3 ?_
  refine lv_istore (lv' := [(5, .int (z4 1)), (4, .int (z4 0)), (0, .ref a_t), (1, .int (z4 x1)), (2, .int (z4 x2)), (3, .int (z4 x3))]) hx hb dX12_isSame_4 hl (by decide) rfl (fun ls hl => ?_)
  refine m_iconst X dX12_isSame_6 ?_
  refine lv_istore (lv' := [(6, .int (z4 0)), (5, .int (z4 1)), (4, .int (z4 0)), (0, .ref a_t), (1, .int (z4 x1)), (2, .int (z4 x2)), (3, .int (z4 x3))]) hx hb dX12_isSame_7 hl (by decide) rfl (fun ls hl => ?_)
  obtain ⟨o1, hj1, hr1⟩ := bd_some hf
  have E1_0 : ∀ (o_ : Int), o1 = o_ → ∀ (ls : Array Slot), lv_has ls 9 [(5, .int (z4 o_))] → W p l e rm_X12_isSame s m args below meth c s.heap [] 0 0 Q (F0 m 115 ls []) := by
    intro o_ ho_ ls hl 
    subst ho_
    refine lv_iload hx hb dX12_isSame_115 (lv_at hl 0 rfl) ?_
    obtain ⟨h19, hr1⟩ := ck_some hr1
    obtain rfl := Option.some.inj hr1
    exact ret _ _ h19 dX12_isSame_117
  have L1 : ∀ (k_ : Nat) (v9_4 : Int) (v9_5 : Int) (v9_6 : Int), ∀ (ls : Array Slot), lv_has ls 9 [(0, .ref a_t), (1, .int (z4 x1)), (2, .int (z4 x2)), (3, .int (z4 x3)), (4, .int (z4 v9_4)), (5, .int (z4 v9_5)), (6, .int (z4 v9_6))] → lp_ (fun (q : Int × Int × Int) => F_X12_isSame_L9 n t_now x3 x2 x1 t_metAt q.1 q.2.1 q.2.2) k_ (v9_4, v9_5, v9_6) = some o1 → W p l e rm_X12_isSame s m args below meth c s.heap [] 0 0 Q (F0 m 9 ls []) := by
    intro k_
    induction k_ with
    | zero =>
      intro v9_4 v9_5 v9_6 ls hl  hq_; exact (lp_zero hq_).elim
    | succ k_ ih1 =>
      intro v9_4 v9_5 v9_6 ls hl  hq_
      obtain ⟨t_1, hb1, hq1⟩ := lp_some hq_
      replace hb1 : F_X12_isSame_L9 n t_now x3 x2 x1 t_metAt v9_4 v9_5 v9_6 = some t_1 := hb1
      unfold F_X12_isSame_L9 at hb1
      refine lv_iload hx hb dX12_isSame_9 (lv_at hl 6 rfl) ?_
      refine lv_aload_n hx hb dX12_isSame_11 rfl (lv_at hl 0 rfl) ?_
      refine m_get X hK hP cl_X12 iT_X12 0 (by decide) fl_X12_7 0 rfl rfl dX12_isSame_12 ?_
      refine m_bipush X dX12_isSame_15 (by decide) ?_
      refine m_iald X hK hP 1 rfl (by decide) (by decide) dX12_isSame_17 ?_
      obtain ⟨h2, hb1⟩ := ck_some hb1
      refine m_icmp_ge X h2 dX12_isSame_18 (tgt := 115) (by decide) (fun (hc_ : ¬ (v9_6 < t_now 17)) => ?_) (fun (hc_ : v9_6 < t_now 17) => ?_)
      · rw [if_neg hc_] at hb1
        obtain rfl := Option.some.inj hb1
        exact E1_0 _ (Option.some.inj hq1).symm _ (lv_sub hl [5] rfl) 
      · rw [if_pos hc_] at hb1
        refine lv_iload hx hb dX12_isSame_21 (lv_at hl 5 rfl) ?_
        obtain ⟨h3, hb1⟩ := ck_some hb1
        refine m_if_eq X h3 dX12_isSame_23 (tgt := 115) (by decide) (fun (hc_ : v9_5 = 0) => ?_) (fun (hc_ : ¬ (v9_5 = 0)) => ?_)
        · rw [if_pos hc_] at hb1
          obtain rfl := Option.some.inj hb1
          exact E1_0 _ (Option.some.inj hq1).symm _ (lv_sub hl [5] rfl) 
        · rw [if_neg hc_] at hb1
          refine m_iconst X dX12_isSame_26 ?_
          refine lv_iload hx hb dX12_isSame_27 (lv_at hl 4 rfl) ?_
          refine m_imul X dX12_isSame_29 ?_
          refine lv_iload_n hx hb dX12_isSame_30 rfl (lv_at hl 3 rfl) ?_
          refine lv_aload_n hx hb dX12_isSame_31 rfl (lv_at hl 0 rfl) ?_
          refine m_get X hK hP cl_X12 iT_X12 0 (by decide) fl_X12_7 0 rfl rfl dX12_isSame_32 ?_
          refine m_bipush X dX12_isSame_35 (by decide) ?_
          refine lv_iload hx hb dX12_isSame_37 (lv_at hl 6 rfl) ?_
          refine m_iadd X dX12_isSame_39 ?_
          obtain ⟨h4, hb1⟩ := ck_some hb1
          refine m_iald X hK hP 1 rfl (by decide) h4 dX12_isSame_40 ?_
          obtain ⟨h5, hb1⟩ := ck_some hb1
          refine m_ishr X h5 dX12_isSame_41 ?_
          refine m_iconst X dX12_isSame_42 ?_
          obtain ⟨h6, hb1⟩ := ck_some hb1
          refine m_iand X h6 dX12_isSame_43 ?_
          refine m_iadd X dX12_isSame_44 ?_
          refine m_iconst X dX12_isSame_45 ?_
          refine lv_iload_n hx hb dX12_isSame_46 rfl (lv_at hl 2 rfl) ?_
          obtain ⟨h7, hb1⟩ := ck_some hb1
          refine m_ishl X h7 dX12_isSame_47 ?_
          refine m_iconst X dX12_isSame_48 ?_
          refine m_isub X dX12_isSame_49 ?_
          obtain ⟨h8, hb1⟩ := ck_some hb1
          refine m_iand X h8 dX12_isSame_50 ?_
          refine lv_istore (lv' := [(7, .int (z4 (an_ ((2 * v9_4) + (an_ (sr_ x3 (t_now (58 + v9_6).toNat)) 1)) ((sl_ 1 x2) - 1)))), (0, .ref a_t), (1, .int (z4 x1)), (2, .int (z4 x2)), (3, .int (z4 x3)), (4, .int (z4 v9_4)), (5, .int (z4 v9_5)), (6, .int (z4 v9_6))]) hx hb dX12_isSame_51 hl (by decide) rfl (fun ls hl => ?_)
          refine lv_iload hx hb dX12_isSame_53 (lv_at hl 0 rfl) ?_
          obtain ⟨o9, ho, hb1⟩ := bd_some hb1
          refine m_cSR X hK (k_X12_ones n (an_ ((2 * v9_4) + (an_ (sr_ x3 (t_now (58 + v9_6).toNat)) 1)) ((sl_ 1 x2) - 1)) o9 ho) (hP.sub (ws' := []) [] rfl) lk_X12_175 co_X12_ones dy_X12_ones rfl rfl ⟨Nat.le_of_ble_eq_true rfl, Nat.le_of_ble_eq_true rfl⟩ hl.1 rfl (Nat.le_of_ble_eq_true rfl) dX12_isSame_55 (Nat.zero_le _) (Nat.zero_le _) ?_
          refine lv_iload_n hx hb dX12_isSame_58 rfl (lv_at hl 2 rfl) ?_
          obtain ⟨o10, hj10, hr10⟩ := bd_some hb1
          have J10 : ∀ (o_ : Int), o10 = o_ → ∀ (ls : Array Slot), lv_has ls 9 [(0, .ref a_t), (1, .int (z4 x1)), (2, .int (z4 x2)), (3, .int (z4 x3)), (6, .int (z4 v9_6)), (7, .int (z4 (an_ ((2 * v9_4) + (an_ (sr_ x3 (t_now (58 + v9_6).toNat)) 1)) ((sl_ 1 x2) - 1))))] → W p l e rm_X12_isSame s m args below meth c s.heap [] 0 0 Q (F0 m 67 ls [.int (z4 o_)]) := by
            intro o_ ho_ ls hl 
            subst ho_
            refine lv_istore (lv' := [(8, .int (z4 o10)), (0, .ref a_t), (1, .int (z4 x1)), (2, .int (z4 x2)), (3, .int (z4 x3)), (6, .int (z4 v9_6)), (7, .int (z4 (an_ ((2 * v9_4) + (an_ (sr_ x3 (t_now (58 + v9_6).toNat)) 1)) ((sl_ 1 x2) - 1))))]) hx hb dX12_isSame_67 hl (by decide) rfl (fun ls hl => ?_)
            refine lv_iload hx hb dX12_isSame_69 (lv_at hl 0 rfl) ?_
            refine lv_aload_n hx hb dX12_isSame_71 rfl (lv_at hl 1 rfl) ?_
            refine m_get X hK hP cl_X12 iT_X12 15 (by decide) fl_X12_29 0 rfl rfl dX12_isSame_72 ?_
            refine lv_iload hx hb dX12_isSame_75 (lv_at hl 5 rfl) ?_
            obtain ⟨h12, hr10⟩ := ck_some hr10
            refine m_iald X hK hP 2 rfl (by decide) h12 dX12_isSame_77 ?_
            obtain ⟨o13, hj13, hr13⟩ := bd_some hr10
            have J13 : ∀ (o_ : Int), o13 = o_ → ∀ (ls : Array Slot), lv_has ls 9 [(0, .ref a_t), (1, .int (z4 x1)), (2, .int (z4 x2)), (3, .int (z4 x3)), (6, .int (z4 v9_6)), (7, .int (z4 (an_ ((2 * v9_4) + (an_ (sr_ x3 (t_now (58 + v9_6).toNat)) 1)) ((sl_ 1 x2) - 1)))), (8, .int (z4 o10))] → W p l e rm_X12_isSame s m args below meth c s.heap [] 0 0 Q (F0 m 86 ls [.int (z4 o_), .int (z4 o10)]) := by
              intro o_ ho_ ls hl 
              subst ho_
              obtain ⟨o15, hj15, hr15⟩ := bd_some hr13
              have J15 : ∀ (o_ : Int), o15 = o_ → ∀ (ls : Array Slot), lv_has ls 9 [(0, .ref a_t), (1, .int (z4 x1)), (2, .int (z4 x2)), (3, .int (z4 x3)), (6, .int (z4 v9_6)), (7, .int (z4 (an_ ((2 * v9_4) + (an_ (sr_ x3 (t_now (58 + v9_6).toNat)) 1)) ((sl_ 1 x2) - 1)))), (8, .int (z4 o10))] → W p l e rm_X12_isSame s m args below meth c s.heap [] 0 0 Q (F0 m 94 ls [.int (z4 o_)]) := by
                intro o_ ho_ ls hl 
                subst ho_
                refine lv_istore (lv' := [(5, .int (z4 o15)), (0, .ref a_t), (1, .int (z4 x1)), (2, .int (z4 x2)), (3, .int (z4 x3)), (6, .int (z4 v9_6)), (7, .int (z4 (an_ ((2 * v9_4) + (an_ (sr_ x3 (t_now (58 + v9_6).toNat)) 1)) ((sl_ 1 x2) - 1)))), (8, .int (z4 o10))]) hx hb dX12_isSame_94 hl (by decide) rfl (fun ls hl => ?_)
                refine lv_iload hx hb dX12_isSame_96 (lv_at hl 7 rfl) ?_
                obtain ⟨o17, hj17, hr17⟩ := bd_some hr15
                have J17 : ∀ (o_ : Int), o17 = o_ → ∀ (ls : Array Slot), lv_has ls 9 [(0, .ref a_t), (1, .int (z4 x1)), (2, .int (z4 x2)), (3, .int (z4 x3)), (5, .int (z4 o15)), (6, .int (z4 v9_6))] → W p l e rm_X12_isSame s m args below meth c s.heap [] 0 0 Q (F0 m 107 ls [.int (z4 o_)]) := by
                  intro o_ ho_ ls hl 
                  subst ho_
                  refine lv_istore (lv' := [(4, .int (z4 o17)), (0, .ref a_t), (1, .int (z4 x1)), (2, .int (z4 x2)), (3, .int (z4 x3)), (5, .int (z4 o15)), (6, .int (z4 v9_6))]) hx hb dX12_isSame_107 hl (by decide) rfl (fun ls hl => ?_)
                  refine m_iinc X 6 [(6, .int (z4 (v9_6 + 1))), (4, .int (z4 o17)), (0, .ref a_t), (1, .int (z4 x1)), (2, .int (z4 x2)), (3, .int (z4 x3)), (5, .int (z4 o15))] dX12_isSame_109 hl rfl (by decide) rfl (fun ls hl => ?_)
                  refine lv_goto (tgt := 9) hx hb dX12_isSame_112 (by decide) ?_
                  obtain rfl := Option.some.inj hr17
                  exact ih1 _ _ _ _ (lv_sub hl [2, 3, 4, 5, 1, 6, 0] rfl)  hq1
                obtain ⟨h18, hj17⟩ := ck_some hj17
                refine m_if_eq X h18 dX12_isSame_98 (tgt := 105) (by decide) (fun (hc_ : o10 = 0) => ?_) (fun (hc_ : ¬ (o10 = 0)) => ?_)
                · rw [if_pos hc_] at hj17
                  refine lv_iload hx hb dX12_isSame_105 (lv_at hl 6 rfl) ?_
                  exact J17 _ (Option.some.inj hj17).symm _ (lv_sub hl [1, 2, 3, 4, 0, 5] rfl) 
                · rw [if_neg hc_] at hj17
                  refine m_iconst X dX12_isSame_101 ?_
                  refine lv_goto (tgt := 107) hx hb dX12_isSame_102 (by decide) ?_
                  exact J17 _ (Option.some.inj hj17).symm _ (lv_sub hl [1, 2, 3, 4, 0, 5] rfl) 
              obtain ⟨h16, hj15⟩ := ck_some hj15
              refine m_icmp_ne X h16 dX12_isSame_86 (tgt := 93) (by decide) (fun (hc_ : ¬ (o10 = o13)) => ?_) (fun (hc_ : o10 = o13) => ?_)
              · rw [if_neg hc_] at hj15
                refine m_iconst X dX12_isSame_93 ?_
                exact J15 _ (Option.some.inj hj15).symm _ (lv_sub hl [0, 1, 2, 3, 4, 5, 6] rfl) 
              · rw [if_pos hc_] at hj15
                refine m_iconst X dX12_isSame_89 ?_
                refine lv_goto (tgt := 94) hx hb dX12_isSame_90 (by decide) ?_
                exact J15 _ (Option.some.inj hj15).symm _ (lv_sub hl [0, 1, 2, 3, 4, 5, 6] rfl) 
            obtain ⟨h14, hj13⟩ := ck_some hj13
            refine m_if_eq X h14 dX12_isSame_78 (tgt := 85) (by decide) (fun (hc_ : t_metAt (v9_6).toNat = 0) => ?_) (fun (hc_ : ¬ (t_metAt (v9_6).toNat = 0)) => ?_)
            · rw [if_pos hc_] at hj13
              refine m_iconst X dX12_isSame_85 ?_
              exact J13 _ (Option.some.inj hj13).symm _ (lv_sub hl [1, 2, 3, 4, 5, 6, 0] rfl) 
            · rw [if_neg hc_] at hj13
              refine m_iconst X dX12_isSame_81 ?_
              refine lv_goto (tgt := 86) hx hb dX12_isSame_82 (by decide) ?_
              exact J13 _ (Option.some.inj hj13).symm _ (lv_sub hl [1, 2, 3, 4, 5, 6, 0] rfl) 
          obtain ⟨h11, hj10⟩ := ck_some hj10
          refine m_icmp_lt X h11 dX12_isSame_59 (tgt := 66) (by decide) (fun (hc_ : o9 < x1) => ?_) (fun (hc_ : ¬ (o9 < x1)) => ?_)
          · rw [if_pos hc_] at hj10
            refine m_iconst X dX12_isSame_66 ?_
            exact J10 _ (Option.some.inj hj10).symm _ (lv_sub hl [1, 2, 3, 4, 7, 0] rfl) 
          · rw [if_neg hc_] at hj10
            refine m_iconst X dX12_isSame_62 ?_
            refine lv_goto (tgt := 67) hx hb dX12_isSame_63 (by decide) ?_
            exact J10 _ (Option.some.inj hj10).symm _ (lv_sub hl [1, 2, 3, 4, 7, 0] rfl) 
  exact L1 n _ _ _ _ (lv_sub hl [3, 4, 5, 6, 2, 1, 0] rfl)  hj1
def F_X12_same_L42 (n : Nat) (t_now : Nat → Int) (o3 : (Nat → Int) × (Nat → Int) × (Nat → Int) × (Nat → Int) × (Nat → Int)) (v32_5 : Int) (v23_4 : Int) (v42_2 : Int) (v42_3 : Int) (v42_6 : Int) : Option ((Int × Int × Int) ⊕ (Int × Int)) :=
  ck (r4 v42_6) <|
  if v42_6 < 32 then
    (F_X12_isSame n t_now o3.1 v32_5 v23_4 v42_6).bind fun o10 =>
    Option.bind (α := Int) (
      ck (r4 o10) <|
      if o10 = 0 then
        some 0
      else
        some 1) fun o11 =>
    Option.bind (α := Int) (
      ck (r4 o10) <|
      if o10 = 0 then
        some v42_3
      else
        ck (r4 v42_3) <|
        if v42_3 = (-9) then
          some (((1000 * v23_4) + (100 * v32_5)) + v42_6)
        else
          some v42_3) fun o13 =>
    some (.inl (v42_2 + o11, o13, v42_6 + 1))
  else
    some (.inr (v42_2, v42_3))
def F_X12_same_L32 (n : Nat) (v23_4 : Int) (t_now : Nat → Int) (o3 : (Nat → Int) × (Nat → Int) × (Nat → Int) × (Nat → Int) × (Nat → Int)) (v32_2 : Int) (v32_3 : Int) (v32_5 : Int) : Option ((Int × Int × Int) ⊕ (Int × Int)) :=
  ck (r4 v32_5 ∧ r4 v23_4) <|
  if v23_4 < v32_5 then
    some (.inr (v32_2, v32_3))
  else
    (lp_ (fun (q : Int × Int × Int) => F_X12_same_L42 n t_now o3 v32_5 v23_4 q.1 q.2.1 q.2.2) n (v32_2, v32_3, 1)).bind fun o8 =>
    some (.inl (o8.1, o8.2, v32_5 + 1))
def F_X12_same_L23 (n : Nat) (t_now : Nat → Int) (o3 : (Nat → Int) × (Nat → Int) × (Nat → Int) × (Nat → Int) × (Nat → Int)) (v23_2 : Int) (v23_3 : Int) (v23_4 : Int) : Option ((Int × Int × Int) ⊕ (Int × Int)) :=
  ck (r4 v23_4) <|
  if 4 < v23_4 then
    some (.inr (v23_2, v23_3))
  else
    (lp_ (fun (q : Int × Int × Int) => F_X12_same_L32 n v23_4 t_now o3 q.1 q.2.1 q.2.2) n (v23_2, v23_3, 1)).bind fun o6 =>
    some (.inl (o6.1, o6.2, v23_4 + 1))
def F_X12_same (n : Nat)  (t_now : Nat → Int) (t_metAt : Nat → Int) (t_memoryAt : Nat → Int) (t_isSignal : Nat → Int) (t_upAt : Nat → Int) (t_downAt : Nat → Int) (x1 : Int) : Option (Int × (Nat → Int) × (Nat → Int) × (Nat → Int) × (Nat → Int) × (Nat → Int)) :=
  (F_X12_in n x1 0 1).bind fun o1 =>
  ck (r4 o1) <|
  if o1 = 0 then
    some ((-1), t_metAt, t_memoryAt, t_isSignal, t_upAt, t_downAt)
  else
    (F_X12_goThrough n t_now t_metAt t_memoryAt t_isSignal t_upAt t_downAt).bind fun o3 =>
    (lp_ (fun (q : Int × Int × Int) => F_X12_same_L23 n t_now o3 q.1 q.2.1 q.2.2) n (0, (-9), 1)).bind fun o4 =>
    Option.bind (α := Int) (
      ck (r4 x1) <|
      if x1 = 0 then
        some o4.1
      else
        some o4.2) fun o16 =>
    some (o16, o3.1, o3.2.1, o3.2.2.1, o3.2.2.2.1, o3.2.2.2.2)
def rm_X12_same : Room := { frames := 3, cells := 0, slots := 0, locals := 75 }
set_option maxHeartbeats 4000000 in
set_option maxRecDepth 100000 in
theorem k_X12_same {l : Launch} {D : va_G} {E : Nat → ClassId} (n : Nat) (a_t a_t_now a_t_read a_t_past a_t_images a_t_isKept a_t_text a_t_metAt a_t_memoryAt a_t_upAt a_t_downAt a_t_isSignal a_t_memories a_t_placeOf a_t_nextPlace a_t_kindOf a_t_newKind a_t_stateOfKind a_t_stateAt a_t_stepTo a_t_far a_t_ways a_t_nextWays a_t_table : Nat) (t_deeds : Int) (t_letters : Int) (t_at : Int) (t_tokenAt : Int) (t_tokenSort : Int) (t_tokenValue : Int) (t_items : Int) (t_isChanceTold : Int) (t_areSumsTold : Int) (t_places : Int) (t_kinds : Int) (t_states : Int) (t_now : Nat → Int) (t_metAt : Nat → Int) (t_memoryAt : Nat → Int) (t_isSignal : Nat → Int) (t_upAt : Nat → Int) (t_downAt : Nat → Int) (x1 : Int) (res : Int × (Nat → Int) × (Nat → Int) × (Nat → Int) × (Nat → Int) × (Nat → Int)) (hf : F_X12_same n t_now t_metAt t_memoryAt t_isSignal t_upAt t_downAt x1 = some res) : MW l yX12_same (.code yX12_same cX12_same 8 (some .int)) rm_X12_same D E [.ref a_t, .int (z4 x1)] [(a_t, .inr (12, [.ref a_t_now, .ref a_t_read, .ref a_t_past, .int (z4 t_deeds), .ref a_t_images, .ref a_t_isKept, .ref a_t_text, .int (z4 t_letters), .int (z4 t_at), .int (z4 t_tokenAt), .int (z4 t_tokenSort), .int (z4 t_tokenValue), .int (z4 t_items), .int (z4 t_isChanceTold), .int (z4 t_areSumsTold), .ref a_t_metAt, .ref a_t_memoryAt, .ref a_t_upAt, .ref a_t_downAt, .ref a_t_isSignal, .ref a_t_memories, .ref a_t_placeOf, .ref a_t_nextPlace, .int (z4 t_places), .ref a_t_kindOf, .ref a_t_newKind, .int (z4 t_kinds), .ref a_t_stateOfKind, .ref a_t_stateAt, .ref a_t_stepTo, .int (z4 t_states), .ref a_t_far, .ref a_t_ways, .ref a_t_nextWays, .ref a_t_table])), (a_t_now, .inl (E 0, 98, .inl (A4 t_now))), (a_t_metAt, .inl (E 0, 40, .inl (A4 t_metAt))), (a_t_memoryAt, .inl (E 0, 40, .inl (A4 t_memoryAt))), (a_t_isSignal, .inl (E 1, 40, .inl (A4 t_isSignal))), (a_t_upAt, .inl (E 0, 40, .inl (A4 t_upAt))), (a_t_downAt, .inl (E 0, 40, .inl (A4 t_downAt)))] (some (.int (z4 res.1))) [(a_t, .inr (12, [.ref a_t_now, .ref a_t_read, .ref a_t_past, .int (z4 t_deeds), .ref a_t_images, .ref a_t_isKept, .ref a_t_text, .int (z4 t_letters), .int (z4 t_at), .int (z4 t_tokenAt), .int (z4 t_tokenSort), .int (z4 t_tokenValue), .int (z4 t_items), .int (z4 t_isChanceTold), .int (z4 t_areSumsTold), .ref a_t_metAt, .ref a_t_memoryAt, .ref a_t_upAt, .ref a_t_downAt, .ref a_t_isSignal, .ref a_t_memories, .ref a_t_placeOf, .ref a_t_nextPlace, .int (z4 t_places), .ref a_t_kindOf, .ref a_t_newKind, .int (z4 t_kinds), .ref a_t_stateOfKind, .ref a_t_stateAt, .ref a_t_stepTo, .int (z4 t_states), .ref a_t_far, .ref a_t_ways, .ref a_t_nextWays, .ref a_t_table])), (a_t_now, .inl (E 0, 98, .inl (A4 t_now))), (a_t_metAt, .inl (E 0, 40, .inl (A4 res.2.1))), (a_t_memoryAt, .inl (E 0, 40, .inl (A4 res.2.2.1))), (a_t_isSignal, .inl (E 1, 40, .inl (A4 res.2.2.2.1))), (a_t_upAt, .inl (E 0, 40, .inl (A4 res.2.2.2.2.1))), (a_t_downAt, .inl (E 0, 40, .inl (A4 res.2.2.2.2.2)))] := by
  refine MWi (by decide) (Nat.le_of_ble_eq_true rfl) ?_
  intro p e s m args below meth c A Q X hK hP hD hA ret ls hl
  have hS : va_S A s.heap s.heap [] := va_S.rf
  have hx := X.1
  have hb := X.2.1
  have hl : lv_has ls 8 [(0, .ref a_t), (1, .int (z4 x1))] := hl
  unfold F_X12_same at hf
  refine lv_iload_n hx hb dX12_same_0 rfl (lv_at hl 1 rfl) ?_
  refine m_iconst X dX12_same_1 ?_
  refine m_iconst X dX12_same_2 ?_
  obtain ⟨o1, ho, hf⟩ := bd_some hf
  refine m_cSR X hK (k_X12_in n x1 0 1 o1 ho) (hP.sub (ws' := []) [] rfl) lk_X12_87 co_X12_in dy_X12_in rfl rfl ⟨Nat.le_of_ble_eq_true rfl, Nat.le_of_ble_eq_true rfl⟩ hl.1 rfl (Nat.le_of_ble_eq_true rfl) dX12_same_3 (Nat.zero_le _) (Nat.zero_le _) ?_
  obtain ⟨h2, hf⟩ := ck_some hf
  refine m_if_ne X h2 dX12_same_6 (tgt := 11) (by decide) (fun (hc_ : ¬ (o1 = 0)) => ?_) (fun (hc_ : o1 = 0) => ?_)
  · rw [if_neg hc_] at hf
    refine lv_aload_n hx hb dX12_same_11 rfl (lv_at hl 0 rfl) ?_
    obtain ⟨o3, ho, hf⟩ := bd_some hf
    refine m_cVW X hK hP hD hS hA (wr := []) (k_X12_goThrough n a_t a_t_now a_t_read a_t_past a_t_images a_t_isKept a_t_text a_t_metAt a_t_memoryAt a_t_upAt a_t_downAt a_t_isSignal a_t_memories a_t_placeOf a_t_nextPlace a_t_kindOf a_t_newKind a_t_stateOfKind a_t_stateAt a_t_stepTo a_t_far a_t_ways a_t_nextWays a_t_table t_deeds t_letters t_at t_tokenAt t_tokenSort t_tokenValue t_items t_isChanceTold t_areSumsTold t_places t_kinds t_states t_now t_metAt t_memoryAt t_isSignal t_upAt t_downAt o3 ho) [0, 1, 2, 3, 4, 5, 6] [] [0, 1, 2, 3, 4, 5, 6] [(a_t, .inr (12, [.ref a_t_now, .ref a_t_read, .ref a_t_past, .int (z4 t_deeds), .ref a_t_images, .ref a_t_isKept, .ref a_t_text, .int (z4 t_letters), .int (z4 t_at), .int (z4 t_tokenAt), .int (z4 t_tokenSort), .int (z4 t_tokenValue), .int (z4 t_items), .int (z4 t_isChanceTold), .int (z4 t_areSumsTold), .ref a_t_metAt, .ref a_t_memoryAt, .ref a_t_upAt, .ref a_t_downAt, .ref a_t_isSignal, .ref a_t_memories, .ref a_t_placeOf, .ref a_t_nextPlace, .int (z4 t_places), .ref a_t_kindOf, .ref a_t_newKind, .int (z4 t_kinds), .ref a_t_stateOfKind, .ref a_t_stateAt, .ref a_t_stepTo, .int (z4 t_states), .ref a_t_far, .ref a_t_ways, .ref a_t_nextWays, .ref a_t_table])), (a_t_now, .inl (E 0, 98, .inl (A4 t_now))), (a_t_metAt, .inl (E 0, 40, .inl (A4 o3.1))), (a_t_memoryAt, .inl (E 0, 40, .inl (A4 o3.2.1))), (a_t_isSignal, .inl (E 1, 40, .inl (A4 o3.2.2.1))), (a_t_upAt, .inl (E 0, 40, .inl (A4 o3.2.2.2.1))), (a_t_downAt, .inl (E 0, 40, .inl (A4 o3.2.2.2.2)))] rfl rfl rfl rfl (by decide) rfl rfl rfl cl_X12 lk_X12_212 co_X12_goThrough dy_X12_goThrough rfl rfl ⟨Nat.le_of_ble_eq_true rfl, Nat.le_of_ble_eq_true rfl⟩ hl.1 rfl (Nat.le_of_ble_eq_true rfl) dX12_same_12 (Nat.zero_le _) (Nat.zero_le _) (fun H locs hP hD hS => ?_)
    refine m_iconst X dX12_same_15 ?_
    refine lv_istore_n (lv' := [(2, .int (z4 0)), (0, .ref a_t), (1, .int (z4 x1))]) hx hb dX12_same_16 rfl hl (by decide) rfl (fun ls hl => ?_)
    refine m_bipush X dX12_same_17 (by decide) ?_
    refine lv_istore_n (lv' := [(3, .int (z4 (-9))), (2, .int (z4 0)), (0, .ref a_t), (1, .int (z4 x1))]) hx hb dX12_same_19 rfl hl (by decide) rfl (fun ls hl => ?_)
    refine m_iconst X dX12_same_20 ?_
    refine lv_istore (lv' := [(4, .int (z4 1)), (3, .int (z4 (-9))), (2, .int (z4 0)), (0, .ref a_t), (1, .int (z4 x1))]) hx hb dX12_same_21 hl (by decide) rfl (fun ls hl => ?_)
    obtain ⟨o4, hj4, hr4⟩ := bd_some hf
    have E4_0 : ∀ (o_ : Int × Int), o4 = o_ → ∀ (H : Heap) (locs : List Loc) (ls : Array Slot), lv_has ls 8 [(1, .int (z4 x1)), (2, .int (z4 o_.1)), (3, .int (z4 o_.2))] → va_P D vwCl [(a_t, .inr (12, [.ref a_t_now, .ref a_t_read, .ref a_t_past, .int (z4 t_deeds), .ref a_t_images, .ref a_t_isKept, .ref a_t_text, .int (z4 t_letters), .int (z4 t_at), .int (z4 t_tokenAt), .int (z4 t_tokenSort), .int (z4 t_tokenValue), .int (z4 t_items), .int (z4 t_isChanceTold), .int (z4 t_areSumsTold), .ref a_t_metAt, .ref a_t_memoryAt, .ref a_t_upAt, .ref a_t_downAt, .ref a_t_isSignal, .ref a_t_memories, .ref a_t_placeOf, .ref a_t_nextPlace, .int (z4 t_places), .ref a_t_kindOf, .ref a_t_newKind, .int (z4 t_kinds), .ref a_t_stateOfKind, .ref a_t_stateAt, .ref a_t_stepTo, .int (z4 t_states), .ref a_t_far, .ref a_t_ways, .ref a_t_nextWays, .ref a_t_table])), (a_t_now, .inl (E 0, 98, .inl (A4 t_now))), (a_t_metAt, .inl (E 0, 40, .inl (A4 o3.1))), (a_t_memoryAt, .inl (E 0, 40, .inl (A4 o3.2.1))), (a_t_isSignal, .inl (E 1, 40, .inl (A4 o3.2.2.1))), (a_t_upAt, .inl (E 0, 40, .inl (A4 o3.2.2.2.1))), (a_t_downAt, .inl (E 0, 40, .inl (A4 o3.2.2.2.2)))] H → va_D A [(a_t, .inr (12, [.ref a_t_now, .ref a_t_read, .ref a_t_past, .int (z4 t_deeds), .ref a_t_images, .ref a_t_isKept, .ref a_t_text, .int (z4 t_letters), .int (z4 t_at), .int (z4 t_tokenAt), .int (z4 t_tokenSort), .int (z4 t_tokenValue), .int (z4 t_items), .int (z4 t_isChanceTold), .int (z4 t_areSumsTold), .ref a_t_metAt, .ref a_t_memoryAt, .ref a_t_upAt, .ref a_t_downAt, .ref a_t_isSignal, .ref a_t_memories, .ref a_t_placeOf, .ref a_t_nextPlace, .int (z4 t_places), .ref a_t_kindOf, .ref a_t_newKind, .int (z4 t_kinds), .ref a_t_stateOfKind, .ref a_t_stateAt, .ref a_t_stepTo, .int (z4 t_states), .ref a_t_far, .ref a_t_ways, .ref a_t_nextWays, .ref a_t_table])), (a_t_now, .inl (E 0, 98, .inl (A4 t_now))), (a_t_metAt, .inl (E 0, 40, .inl (A4 o3.1))), (a_t_memoryAt, .inl (E 0, 40, .inl (A4 o3.2.1))), (a_t_isSignal, .inl (E 1, 40, .inl (A4 o3.2.2.1))), (a_t_upAt, .inl (E 0, 40, .inl (A4 o3.2.2.2.1))), (a_t_downAt, .inl (E 0, 40, .inl (A4 o3.2.2.2.2)))] → va_S A s.heap H locs → W p l e rm_X12_same s m args below meth c H locs 0 0 Q (F0 m 123 ls []) := by
      intro o_ ho_ H locs ls hl hP hD hS
      subst ho_
      refine lv_iload_n hx hb dX12_same_123 rfl (lv_at hl 0 rfl) ?_
      obtain ⟨o16, hj16, hr16⟩ := bd_some hr4
      have J16 : ∀ (o_ : Int), o16 = o_ → ∀ (H : Heap) (locs : List Loc) (ls : Array Slot), lv_has ls 8 [] → va_P D vwCl [(a_t, .inr (12, [.ref a_t_now, .ref a_t_read, .ref a_t_past, .int (z4 t_deeds), .ref a_t_images, .ref a_t_isKept, .ref a_t_text, .int (z4 t_letters), .int (z4 t_at), .int (z4 t_tokenAt), .int (z4 t_tokenSort), .int (z4 t_tokenValue), .int (z4 t_items), .int (z4 t_isChanceTold), .int (z4 t_areSumsTold), .ref a_t_metAt, .ref a_t_memoryAt, .ref a_t_upAt, .ref a_t_downAt, .ref a_t_isSignal, .ref a_t_memories, .ref a_t_placeOf, .ref a_t_nextPlace, .int (z4 t_places), .ref a_t_kindOf, .ref a_t_newKind, .int (z4 t_kinds), .ref a_t_stateOfKind, .ref a_t_stateAt, .ref a_t_stepTo, .int (z4 t_states), .ref a_t_far, .ref a_t_ways, .ref a_t_nextWays, .ref a_t_table])), (a_t_now, .inl (E 0, 98, .inl (A4 t_now))), (a_t_metAt, .inl (E 0, 40, .inl (A4 o3.1))), (a_t_memoryAt, .inl (E 0, 40, .inl (A4 o3.2.1))), (a_t_isSignal, .inl (E 1, 40, .inl (A4 o3.2.2.1))), (a_t_upAt, .inl (E 0, 40, .inl (A4 o3.2.2.2.1))), (a_t_downAt, .inl (E 0, 40, .inl (A4 o3.2.2.2.2)))] H → va_D A [(a_t, .inr (12, [.ref a_t_now, .ref a_t_read, .ref a_t_past, .int (z4 t_deeds), .ref a_t_images, .ref a_t_isKept, .ref a_t_text, .int (z4 t_letters), .int (z4 t_at), .int (z4 t_tokenAt), .int (z4 t_tokenSort), .int (z4 t_tokenValue), .int (z4 t_items), .int (z4 t_isChanceTold), .int (z4 t_areSumsTold), .ref a_t_metAt, .ref a_t_memoryAt, .ref a_t_upAt, .ref a_t_downAt, .ref a_t_isSignal, .ref a_t_memories, .ref a_t_placeOf, .ref a_t_nextPlace, .int (z4 t_places), .ref a_t_kindOf, .ref a_t_newKind, .int (z4 t_kinds), .ref a_t_stateOfKind, .ref a_t_stateAt, .ref a_t_stepTo, .int (z4 t_states), .ref a_t_far, .ref a_t_ways, .ref a_t_nextWays, .ref a_t_table])), (a_t_now, .inl (E 0, 98, .inl (A4 t_now))), (a_t_metAt, .inl (E 0, 40, .inl (A4 o3.1))), (a_t_memoryAt, .inl (E 0, 40, .inl (A4 o3.2.1))), (a_t_isSignal, .inl (E 1, 40, .inl (A4 o3.2.2.1))), (a_t_upAt, .inl (E 0, 40, .inl (A4 o3.2.2.2.1))), (a_t_downAt, .inl (E 0, 40, .inl (A4 o3.2.2.2.2)))] → va_S A s.heap H locs → W p l e rm_X12_same s m args below meth c H locs 0 0 Q (F0 m 132 ls [.int (z4 o_)]) := by
        intro o_ ho_ H locs ls hl hP hD hS
        subst ho_
        obtain rfl := Option.some.inj hr16
        exact ret _ _ _ _ hP hD hS dX12_same_132
      obtain ⟨h17, hj16⟩ := ck_some hj16
      refine m_if_ne X h17 dX12_same_124 (tgt := 131) (by decide) (fun (hc_ : ¬ (x1 = 0)) => ?_) (fun (hc_ : x1 = 0) => ?_)
      · rw [if_neg hc_] at hj16
        refine lv_iload_n hx hb dX12_same_131 rfl (lv_at hl 2 rfl) ?_
        exact J16 _ (Option.some.inj hj16).symm _ _ _ (lv_sub hl [] rfl) hP hD hS
      · rw [if_pos hc_] at hj16
        refine lv_iload_n hx hb dX12_same_127 rfl (lv_at hl 1 rfl) ?_
        refine lv_goto (tgt := 132) hx hb dX12_same_128 (by decide) ?_
        exact J16 _ (Option.some.inj hj16).symm _ _ _ (lv_sub hl [] rfl) hP hD hS
    have L4 : ∀ (k_ : Nat) (v23_2 : Int) (v23_3 : Int) (v23_4 : Int), ∀ (H : Heap) (locs : List Loc) (ls : Array Slot), lv_has ls 8 [(0, .ref a_t), (1, .int (z4 x1)), (2, .int (z4 v23_2)), (3, .int (z4 v23_3)), (4, .int (z4 v23_4))] → va_P D vwCl [(a_t, .inr (12, [.ref a_t_now, .ref a_t_read, .ref a_t_past, .int (z4 t_deeds), .ref a_t_images, .ref a_t_isKept, .ref a_t_text, .int (z4 t_letters), .int (z4 t_at), .int (z4 t_tokenAt), .int (z4 t_tokenSort), .int (z4 t_tokenValue), .int (z4 t_items), .int (z4 t_isChanceTold), .int (z4 t_areSumsTold), .ref a_t_metAt, .ref a_t_memoryAt, .ref a_t_upAt, .ref a_t_downAt, .ref a_t_isSignal, .ref a_t_memories, .ref a_t_placeOf, .ref a_t_nextPlace, .int (z4 t_places), .ref a_t_kindOf, .ref a_t_newKind, .int (z4 t_kinds), .ref a_t_stateOfKind, .ref a_t_stateAt, .ref a_t_stepTo, .int (z4 t_states), .ref a_t_far, .ref a_t_ways, .ref a_t_nextWays, .ref a_t_table])), (a_t_now, .inl (E 0, 98, .inl (A4 t_now))), (a_t_metAt, .inl (E 0, 40, .inl (A4 o3.1))), (a_t_memoryAt, .inl (E 0, 40, .inl (A4 o3.2.1))), (a_t_isSignal, .inl (E 1, 40, .inl (A4 o3.2.2.1))), (a_t_upAt, .inl (E 0, 40, .inl (A4 o3.2.2.2.1))), (a_t_downAt, .inl (E 0, 40, .inl (A4 o3.2.2.2.2)))] H → va_D A [(a_t, .inr (12, [.ref a_t_now, .ref a_t_read, .ref a_t_past, .int (z4 t_deeds), .ref a_t_images, .ref a_t_isKept, .ref a_t_text, .int (z4 t_letters), .int (z4 t_at), .int (z4 t_tokenAt), .int (z4 t_tokenSort), .int (z4 t_tokenValue), .int (z4 t_items), .int (z4 t_isChanceTold), .int (z4 t_areSumsTold), .ref a_t_metAt, .ref a_t_memoryAt, .ref a_t_upAt, .ref a_t_downAt, .ref a_t_isSignal, .ref a_t_memories, .ref a_t_placeOf, .ref a_t_nextPlace, .int (z4 t_places), .ref a_t_kindOf, .ref a_t_newKind, .int (z4 t_kinds), .ref a_t_stateOfKind, .ref a_t_stateAt, .ref a_t_stepTo, .int (z4 t_states), .ref a_t_far, .ref a_t_ways, .ref a_t_nextWays, .ref a_t_table])), (a_t_now, .inl (E 0, 98, .inl (A4 t_now))), (a_t_metAt, .inl (E 0, 40, .inl (A4 o3.1))), (a_t_memoryAt, .inl (E 0, 40, .inl (A4 o3.2.1))), (a_t_isSignal, .inl (E 1, 40, .inl (A4 o3.2.2.1))), (a_t_upAt, .inl (E 0, 40, .inl (A4 o3.2.2.2.1))), (a_t_downAt, .inl (E 0, 40, .inl (A4 o3.2.2.2.2)))] → va_S A s.heap H locs → lp_ (fun (q : Int × Int × Int) => F_X12_same_L23 n t_now o3 q.1 q.2.1 q.2.2) k_ (v23_2, v23_3, v23_4) = some o4 → W p l e rm_X12_same s m args below meth c H locs 0 0 Q (F0 m 23 ls []) := by
      intro k_
      induction k_ with
      | zero =>
        intro v23_2 v23_3 v23_4 H locs ls hl hP hD hS hq_; exact (lp_zero hq_).elim
      | succ k_ ih4 =>
        intro v23_2 v23_3 v23_4 H locs ls hl hP hD hS hq_
        obtain ⟨t_4, hb4, hq4⟩ := lp_some hq_
        replace hb4 : F_X12_same_L23 n t_now o3 v23_2 v23_3 v23_4 = some t_4 := hb4
        unfold F_X12_same_L23 at hb4
        refine lv_iload hx hb dX12_same_23 (lv_at hl 4 rfl) ?_
        refine m_iconst X dX12_same_25 ?_
        obtain ⟨h5, hb4⟩ := ck_some hb4
        refine m_icmp_gt X ⟨h5, ⟨by decide, by decide⟩⟩ dX12_same_26 (tgt := 123) (by decide) (fun (hc_ : 4 < v23_4) => ?_) (fun (hc_ : ¬ (4 < v23_4)) => ?_)
        · rw [if_pos hc_] at hb4
          obtain rfl := Option.some.inj hb4
          exact E4_0 _ (Option.some.inj hq4).symm _ _ _ (lv_sub hl [1, 2, 3] rfl) hP hD hS
        · rw [if_neg hc_] at hb4
          refine m_iconst X dX12_same_29 ?_
          refine lv_istore (lv' := [(5, .int (z4 1)), (0, .ref a_t), (1, .int (z4 x1)), (2, .int (z4 v23_2)), (3, .int (z4 v23_3)), (4, .int (z4 v23_4))]) hx hb dX12_same_30 hl (by decide) rfl (fun ls hl => ?_)
          obtain ⟨o6, hj6, hr6⟩ := bd_some hb4
          have E6_0 : ∀ (o_ : Int × Int), o6 = o_ → ∀ (H : Heap) (locs : List Loc) (ls : Array Slot), lv_has ls 8 [(0, .ref a_t), (1, .int (z4 x1)), (2, .int (z4 o_.1)), (3, .int (z4 o_.2)), (4, .int (z4 v23_4))] → va_P D vwCl [(a_t, .inr (12, [.ref a_t_now, .ref a_t_read, .ref a_t_past, .int (z4 t_deeds), .ref a_t_images, .ref a_t_isKept, .ref a_t_text, .int (z4 t_letters), .int (z4 t_at), .int (z4 t_tokenAt), .int (z4 t_tokenSort), .int (z4 t_tokenValue), .int (z4 t_items), .int (z4 t_isChanceTold), .int (z4 t_areSumsTold), .ref a_t_metAt, .ref a_t_memoryAt, .ref a_t_upAt, .ref a_t_downAt, .ref a_t_isSignal, .ref a_t_memories, .ref a_t_placeOf, .ref a_t_nextPlace, .int (z4 t_places), .ref a_t_kindOf, .ref a_t_newKind, .int (z4 t_kinds), .ref a_t_stateOfKind, .ref a_t_stateAt, .ref a_t_stepTo, .int (z4 t_states), .ref a_t_far, .ref a_t_ways, .ref a_t_nextWays, .ref a_t_table])), (a_t_now, .inl (E 0, 98, .inl (A4 t_now))), (a_t_metAt, .inl (E 0, 40, .inl (A4 o3.1))), (a_t_memoryAt, .inl (E 0, 40, .inl (A4 o3.2.1))), (a_t_isSignal, .inl (E 1, 40, .inl (A4 o3.2.2.1))), (a_t_upAt, .inl (E 0, 40, .inl (A4 o3.2.2.2.1))), (a_t_downAt, .inl (E 0, 40, .inl (A4 o3.2.2.2.2)))] H → va_D A [(a_t, .inr (12, [.ref a_t_now, .ref a_t_read, .ref a_t_past, .int (z4 t_deeds), .ref a_t_images, .ref a_t_isKept, .ref a_t_text, .int (z4 t_letters), .int (z4 t_at), .int (z4 t_tokenAt), .int (z4 t_tokenSort), .int (z4 t_tokenValue), .int (z4 t_items), .int (z4 t_isChanceTold), .int (z4 t_areSumsTold), .ref a_t_metAt, .ref a_t_memoryAt, .ref a_t_upAt, .ref a_t_downAt, .ref a_t_isSignal, .ref a_t_memories, .ref a_t_placeOf, .ref a_t_nextPlace, .int (z4 t_places), .ref a_t_kindOf, .ref a_t_newKind, .int (z4 t_kinds), .ref a_t_stateOfKind, .ref a_t_stateAt, .ref a_t_stepTo, .int (z4 t_states), .ref a_t_far, .ref a_t_ways, .ref a_t_nextWays, .ref a_t_table])), (a_t_now, .inl (E 0, 98, .inl (A4 t_now))), (a_t_metAt, .inl (E 0, 40, .inl (A4 o3.1))), (a_t_memoryAt, .inl (E 0, 40, .inl (A4 o3.2.1))), (a_t_isSignal, .inl (E 1, 40, .inl (A4 o3.2.2.1))), (a_t_upAt, .inl (E 0, 40, .inl (A4 o3.2.2.2.1))), (a_t_downAt, .inl (E 0, 40, .inl (A4 o3.2.2.2.2)))] → va_S A s.heap H locs → W p l e rm_X12_same s m args below meth c H locs 0 0 Q (F0 m 117 ls []) := by
            intro o_ ho_ H locs ls hl hP hD hS
            subst ho_
            refine m_iinc X 4 [(4, .int (z4 (v23_4 + 1))), (0, .ref a_t), (1, .int (z4 x1)), (2, .int (z4 o6.1)), (3, .int (z4 o6.2))] dX12_same_117 hl rfl (by decide) rfl (fun ls hl => ?_)
            refine lv_goto (tgt := 23) hx hb dX12_same_120 (by decide) ?_
            obtain rfl := Option.some.inj hr6
            exact ih4 _ _ _ _ _ _ (lv_sub hl [1, 2, 3, 4, 0] rfl) hP hD hS hq4
          have L6 : ∀ (k_ : Nat) (v32_2 : Int) (v32_3 : Int) (v32_5 : Int), ∀ (H : Heap) (locs : List Loc) (ls : Array Slot), lv_has ls 8 [(0, .ref a_t), (1, .int (z4 x1)), (2, .int (z4 v32_2)), (3, .int (z4 v32_3)), (4, .int (z4 v23_4)), (5, .int (z4 v32_5))] → va_P D vwCl [(a_t, .inr (12, [.ref a_t_now, .ref a_t_read, .ref a_t_past, .int (z4 t_deeds), .ref a_t_images, .ref a_t_isKept, .ref a_t_text, .int (z4 t_letters), .int (z4 t_at), .int (z4 t_tokenAt), .int (z4 t_tokenSort), .int (z4 t_tokenValue), .int (z4 t_items), .int (z4 t_isChanceTold), .int (z4 t_areSumsTold), .ref a_t_metAt, .ref a_t_memoryAt, .ref a_t_upAt, .ref a_t_downAt, .ref a_t_isSignal, .ref a_t_memories, .ref a_t_placeOf, .ref a_t_nextPlace, .int (z4 t_places), .ref a_t_kindOf, .ref a_t_newKind, .int (z4 t_kinds), .ref a_t_stateOfKind, .ref a_t_stateAt, .ref a_t_stepTo, .int (z4 t_states), .ref a_t_far, .ref a_t_ways, .ref a_t_nextWays, .ref a_t_table])), (a_t_now, .inl (E 0, 98, .inl (A4 t_now))), (a_t_metAt, .inl (E 0, 40, .inl (A4 o3.1))), (a_t_memoryAt, .inl (E 0, 40, .inl (A4 o3.2.1))), (a_t_isSignal, .inl (E 1, 40, .inl (A4 o3.2.2.1))), (a_t_upAt, .inl (E 0, 40, .inl (A4 o3.2.2.2.1))), (a_t_downAt, .inl (E 0, 40, .inl (A4 o3.2.2.2.2)))] H → va_D A [(a_t, .inr (12, [.ref a_t_now, .ref a_t_read, .ref a_t_past, .int (z4 t_deeds), .ref a_t_images, .ref a_t_isKept, .ref a_t_text, .int (z4 t_letters), .int (z4 t_at), .int (z4 t_tokenAt), .int (z4 t_tokenSort), .int (z4 t_tokenValue), .int (z4 t_items), .int (z4 t_isChanceTold), .int (z4 t_areSumsTold), .ref a_t_metAt, .ref a_t_memoryAt, .ref a_t_upAt, .ref a_t_downAt, .ref a_t_isSignal, .ref a_t_memories, .ref a_t_placeOf, .ref a_t_nextPlace, .int (z4 t_places), .ref a_t_kindOf, .ref a_t_newKind, .int (z4 t_kinds), .ref a_t_stateOfKind, .ref a_t_stateAt, .ref a_t_stepTo, .int (z4 t_states), .ref a_t_far, .ref a_t_ways, .ref a_t_nextWays, .ref a_t_table])), (a_t_now, .inl (E 0, 98, .inl (A4 t_now))), (a_t_metAt, .inl (E 0, 40, .inl (A4 o3.1))), (a_t_memoryAt, .inl (E 0, 40, .inl (A4 o3.2.1))), (a_t_isSignal, .inl (E 1, 40, .inl (A4 o3.2.2.1))), (a_t_upAt, .inl (E 0, 40, .inl (A4 o3.2.2.2.1))), (a_t_downAt, .inl (E 0, 40, .inl (A4 o3.2.2.2.2)))] → va_S A s.heap H locs → lp_ (fun (q : Int × Int × Int) => F_X12_same_L32 n v23_4 t_now o3 q.1 q.2.1 q.2.2) k_ (v32_2, v32_3, v32_5) = some o6 → W p l e rm_X12_same s m args below meth c H locs 0 0 Q (F0 m 32 ls []) := by
            intro k_
            induction k_ with
            | zero =>
              intro v32_2 v32_3 v32_5 H locs ls hl hP hD hS hq_; exact (lp_zero hq_).elim
            | succ k_ ih6 =>
              intro v32_2 v32_3 v32_5 H locs ls hl hP hD hS hq_
              obtain ⟨t_6, hb6, hq6⟩ := lp_some hq_
              replace hb6 : F_X12_same_L32 n v23_4 t_now o3 v32_2 v32_3 v32_5 = some t_6 := hb6
              unfold F_X12_same_L32 at hb6
              refine lv_iload hx hb dX12_same_32 (lv_at hl 5 rfl) ?_
              refine lv_iload hx hb dX12_same_34 (lv_at hl 4 rfl) ?_
              obtain ⟨h7, hb6⟩ := ck_some hb6
              refine m_icmp_gt X h7 dX12_same_36 (tgt := 117) (by decide) (fun (hc_ : v23_4 < v32_5) => ?_) (fun (hc_ : ¬ (v23_4 < v32_5)) => ?_)
              · rw [if_pos hc_] at hb6
                obtain rfl := Option.some.inj hb6
                exact E6_0 _ (Option.some.inj hq6).symm _ _ _ (lv_sub hl [0, 1, 2, 3, 4] rfl) hP hD hS
              · rw [if_neg hc_] at hb6
                refine m_iconst X dX12_same_39 ?_
                refine lv_istore (lv' := [(6, .int (z4 1)), (0, .ref a_t), (1, .int (z4 x1)), (2, .int (z4 v32_2)), (3, .int (z4 v32_3)), (4, .int (z4 v23_4)), (5, .int (z4 v32_5))]) hx hb dX12_same_40 hl (by decide) rfl (fun ls hl => ?_)
                obtain ⟨o8, hj8, hr8⟩ := bd_some hb6
                have E8_0 : ∀ (o_ : Int × Int), o8 = o_ → ∀ (H : Heap) (locs : List Loc) (ls : Array Slot), lv_has ls 8 [(0, .ref a_t), (1, .int (z4 x1)), (2, .int (z4 o_.1)), (3, .int (z4 o_.2)), (4, .int (z4 v23_4)), (5, .int (z4 v32_5))] → va_P D vwCl [(a_t, .inr (12, [.ref a_t_now, .ref a_t_read, .ref a_t_past, .int (z4 t_deeds), .ref a_t_images, .ref a_t_isKept, .ref a_t_text, .int (z4 t_letters), .int (z4 t_at), .int (z4 t_tokenAt), .int (z4 t_tokenSort), .int (z4 t_tokenValue), .int (z4 t_items), .int (z4 t_isChanceTold), .int (z4 t_areSumsTold), .ref a_t_metAt, .ref a_t_memoryAt, .ref a_t_upAt, .ref a_t_downAt, .ref a_t_isSignal, .ref a_t_memories, .ref a_t_placeOf, .ref a_t_nextPlace, .int (z4 t_places), .ref a_t_kindOf, .ref a_t_newKind, .int (z4 t_kinds), .ref a_t_stateOfKind, .ref a_t_stateAt, .ref a_t_stepTo, .int (z4 t_states), .ref a_t_far, .ref a_t_ways, .ref a_t_nextWays, .ref a_t_table])), (a_t_now, .inl (E 0, 98, .inl (A4 t_now))), (a_t_metAt, .inl (E 0, 40, .inl (A4 o3.1))), (a_t_memoryAt, .inl (E 0, 40, .inl (A4 o3.2.1))), (a_t_isSignal, .inl (E 1, 40, .inl (A4 o3.2.2.1))), (a_t_upAt, .inl (E 0, 40, .inl (A4 o3.2.2.2.1))), (a_t_downAt, .inl (E 0, 40, .inl (A4 o3.2.2.2.2)))] H → va_D A [(a_t, .inr (12, [.ref a_t_now, .ref a_t_read, .ref a_t_past, .int (z4 t_deeds), .ref a_t_images, .ref a_t_isKept, .ref a_t_text, .int (z4 t_letters), .int (z4 t_at), .int (z4 t_tokenAt), .int (z4 t_tokenSort), .int (z4 t_tokenValue), .int (z4 t_items), .int (z4 t_isChanceTold), .int (z4 t_areSumsTold), .ref a_t_metAt, .ref a_t_memoryAt, .ref a_t_upAt, .ref a_t_downAt, .ref a_t_isSignal, .ref a_t_memories, .ref a_t_placeOf, .ref a_t_nextPlace, .int (z4 t_places), .ref a_t_kindOf, .ref a_t_newKind, .int (z4 t_kinds), .ref a_t_stateOfKind, .ref a_t_stateAt, .ref a_t_stepTo, .int (z4 t_states), .ref a_t_far, .ref a_t_ways, .ref a_t_nextWays, .ref a_t_table])), (a_t_now, .inl (E 0, 98, .inl (A4 t_now))), (a_t_metAt, .inl (E 0, 40, .inl (A4 o3.1))), (a_t_memoryAt, .inl (E 0, 40, .inl (A4 o3.2.1))), (a_t_isSignal, .inl (E 1, 40, .inl (A4 o3.2.2.1))), (a_t_upAt, .inl (E 0, 40, .inl (A4 o3.2.2.2.1))), (a_t_downAt, .inl (E 0, 40, .inl (A4 o3.2.2.2.2)))] → va_S A s.heap H locs → W p l e rm_X12_same s m args below meth c H locs 0 0 Q (F0 m 111 ls []) := by
                  intro o_ ho_ H locs ls hl hP hD hS
                  subst ho_
                  refine m_iinc X 5 [(5, .int (z4 (v32_5 + 1))), (0, .ref a_t), (1, .int (z4 x1)), (2, .int (z4 o8.1)), (3, .int (z4 o8.2)), (4, .int (z4 v23_4))] dX12_same_111 hl rfl (by decide) rfl (fun ls hl => ?_)
                  refine lv_goto (tgt := 32) hx hb dX12_same_114 (by decide) ?_
                  obtain rfl := Option.some.inj hr8
                  exact ih6 _ _ _ _ _ _ (lv_sub hl [1, 2, 3, 4, 5, 0] rfl) hP hD hS hq6
                have L8 : ∀ (k_ : Nat) (v42_2 : Int) (v42_3 : Int) (v42_6 : Int), ∀ (H : Heap) (locs : List Loc) (ls : Array Slot), lv_has ls 8 [(0, .ref a_t), (1, .int (z4 x1)), (2, .int (z4 v42_2)), (3, .int (z4 v42_3)), (4, .int (z4 v23_4)), (5, .int (z4 v32_5)), (6, .int (z4 v42_6))] → va_P D vwCl [(a_t, .inr (12, [.ref a_t_now, .ref a_t_read, .ref a_t_past, .int (z4 t_deeds), .ref a_t_images, .ref a_t_isKept, .ref a_t_text, .int (z4 t_letters), .int (z4 t_at), .int (z4 t_tokenAt), .int (z4 t_tokenSort), .int (z4 t_tokenValue), .int (z4 t_items), .int (z4 t_isChanceTold), .int (z4 t_areSumsTold), .ref a_t_metAt, .ref a_t_memoryAt, .ref a_t_upAt, .ref a_t_downAt, .ref a_t_isSignal, .ref a_t_memories, .ref a_t_placeOf, .ref a_t_nextPlace, .int (z4 t_places), .ref a_t_kindOf, .ref a_t_newKind, .int (z4 t_kinds), .ref a_t_stateOfKind, .ref a_t_stateAt, .ref a_t_stepTo, .int (z4 t_states), .ref a_t_far, .ref a_t_ways, .ref a_t_nextWays, .ref a_t_table])), (a_t_now, .inl (E 0, 98, .inl (A4 t_now))), (a_t_metAt, .inl (E 0, 40, .inl (A4 o3.1))), (a_t_memoryAt, .inl (E 0, 40, .inl (A4 o3.2.1))), (a_t_isSignal, .inl (E 1, 40, .inl (A4 o3.2.2.1))), (a_t_upAt, .inl (E 0, 40, .inl (A4 o3.2.2.2.1))), (a_t_downAt, .inl (E 0, 40, .inl (A4 o3.2.2.2.2)))] H → va_D A [(a_t, .inr (12, [.ref a_t_now, .ref a_t_read, .ref a_t_past, .int (z4 t_deeds), .ref a_t_images, .ref a_t_isKept, .ref a_t_text, .int (z4 t_letters), .int (z4 t_at), .int (z4 t_tokenAt), .int (z4 t_tokenSort), .int (z4 t_tokenValue), .int (z4 t_items), .int (z4 t_isChanceTold), .int (z4 t_areSumsTold), .ref a_t_metAt, .ref a_t_memoryAt, .ref a_t_upAt, .ref a_t_downAt, .ref a_t_isSignal, .ref a_t_memories, .ref a_t_placeOf, .ref a_t_nextPlace, .int (z4 t_places), .ref a_t_kindOf, .ref a_t_newKind, .int (z4 t_kinds), .ref a_t_stateOfKind, .ref a_t_stateAt, .ref a_t_stepTo, .int (z4 t_states), .ref a_t_far, .ref a_t_ways, .ref a_t_nextWays, .ref a_t_table])), (a_t_now, .inl (E 0, 98, .inl (A4 t_now))), (a_t_metAt, .inl (E 0, 40, .inl (A4 o3.1))), (a_t_memoryAt, .inl (E 0, 40, .inl (A4 o3.2.1))), (a_t_isSignal, .inl (E 1, 40, .inl (A4 o3.2.2.1))), (a_t_upAt, .inl (E 0, 40, .inl (A4 o3.2.2.2.1))), (a_t_downAt, .inl (E 0, 40, .inl (A4 o3.2.2.2.2)))] → va_S A s.heap H locs → lp_ (fun (q : Int × Int × Int) => F_X12_same_L42 n t_now o3 v32_5 v23_4 q.1 q.2.1 q.2.2) k_ (v42_2, v42_3, v42_6) = some o8 → W p l e rm_X12_same s m args below meth c H locs 0 0 Q (F0 m 42 ls []) := by
                  intro k_
                  induction k_ with
                  | zero =>
                    intro v42_2 v42_3 v42_6 H locs ls hl hP hD hS hq_; exact (lp_zero hq_).elim
                  | succ k_ ih8 =>
                    intro v42_2 v42_3 v42_6 H locs ls hl hP hD hS hq_
                    obtain ⟨t_8, hb8, hq8⟩ := lp_some hq_
                    replace hb8 : F_X12_same_L42 n t_now o3 v32_5 v23_4 v42_2 v42_3 v42_6 = some t_8 := hb8
                    unfold F_X12_same_L42 at hb8
                    refine lv_iload hx hb dX12_same_42 (lv_at hl 6 rfl) ?_
                    refine m_bipush X dX12_same_44 (by decide) ?_
                    obtain ⟨h9, hb8⟩ := ck_some hb8
                    refine m_icmp_ge X ⟨h9, ⟨by decide, by decide⟩⟩ dX12_same_46 (tgt := 111) (by decide) (fun (hc_ : ¬ (v42_6 < 32)) => ?_) (fun (hc_ : v42_6 < 32) => ?_)
                    · rw [if_neg hc_] at hb8
                      obtain rfl := Option.some.inj hb8
                      exact E8_0 _ (Option.some.inj hq8).symm _ _ _ (lv_sub hl [0, 1, 2, 3, 4, 5] rfl) hP hD hS
                    · rw [if_pos hc_] at hb8
                      refine lv_aload_n hx hb dX12_same_49 rfl (lv_at hl 0 rfl) ?_
                      refine lv_iload hx hb dX12_same_50 (lv_at hl 5 rfl) ?_
                      refine lv_iload hx hb dX12_same_52 (lv_at hl 4 rfl) ?_
                      refine lv_iload hx hb dX12_same_54 (lv_at hl 6 rfl) ?_
                      obtain ⟨o10, ho, hb8⟩ := bd_some hb8
                      refine m_cVR X hK (k_X12_isSame n a_t a_t_now a_t_read a_t_past a_t_images a_t_isKept a_t_text a_t_metAt a_t_memoryAt a_t_upAt a_t_downAt a_t_isSignal a_t_memories a_t_placeOf a_t_nextPlace a_t_kindOf a_t_newKind a_t_stateOfKind a_t_stateAt a_t_stepTo a_t_far a_t_ways a_t_nextWays a_t_table t_deeds t_letters t_at t_tokenAt t_tokenSort t_tokenValue t_items t_isChanceTold t_areSumsTold t_places t_kinds t_states t_now o3.1 v32_5 v23_4 v42_6 o10 ho) (hP.sub [0, 1, 2] rfl) rfl cl_X12 lk_X12_253 co_X12_isSame dy_X12_isSame rfl rfl ⟨Nat.le_of_ble_eq_true rfl, Nat.le_of_ble_eq_true rfl⟩ hl.1 rfl (Nat.le_of_ble_eq_true rfl) dX12_same_56 (Nat.zero_le _) (Nat.zero_le _) ?_
                      refine lv_istore (lv' := [(7, .int (z4 o10)), (0, .ref a_t), (1, .int (z4 x1)), (2, .int (z4 v42_2)), (3, .int (z4 v42_3)), (4, .int (z4 v23_4)), (5, .int (z4 v32_5)), (6, .int (z4 v42_6))]) hx hb dX12_same_59 hl (by decide) rfl (fun ls hl => ?_)
                      refine lv_iload_n hx hb dX12_same_61 rfl (lv_at hl 3 rfl) ?_
                      refine lv_iload hx hb dX12_same_62 (lv_at hl 0 rfl) ?_
                      obtain ⟨o11, hj11, hr11⟩ := bd_some hb8
                      have J11 : ∀ (o_ : Int), o11 = o_ → ∀ (H : Heap) (locs : List Loc) (ls : Array Slot), lv_has ls 8 [(0, .ref a_t), (1, .int (z4 x1)), (3, .int (z4 v42_3)), (4, .int (z4 v23_4)), (5, .int (z4 v32_5)), (6, .int (z4 v42_6)), (7, .int (z4 o10))] → va_P D vwCl [(a_t, .inr (12, [.ref a_t_now, .ref a_t_read, .ref a_t_past, .int (z4 t_deeds), .ref a_t_images, .ref a_t_isKept, .ref a_t_text, .int (z4 t_letters), .int (z4 t_at), .int (z4 t_tokenAt), .int (z4 t_tokenSort), .int (z4 t_tokenValue), .int (z4 t_items), .int (z4 t_isChanceTold), .int (z4 t_areSumsTold), .ref a_t_metAt, .ref a_t_memoryAt, .ref a_t_upAt, .ref a_t_downAt, .ref a_t_isSignal, .ref a_t_memories, .ref a_t_placeOf, .ref a_t_nextPlace, .int (z4 t_places), .ref a_t_kindOf, .ref a_t_newKind, .int (z4 t_kinds), .ref a_t_stateOfKind, .ref a_t_stateAt, .ref a_t_stepTo, .int (z4 t_states), .ref a_t_far, .ref a_t_ways, .ref a_t_nextWays, .ref a_t_table])), (a_t_now, .inl (E 0, 98, .inl (A4 t_now))), (a_t_metAt, .inl (E 0, 40, .inl (A4 o3.1))), (a_t_memoryAt, .inl (E 0, 40, .inl (A4 o3.2.1))), (a_t_isSignal, .inl (E 1, 40, .inl (A4 o3.2.2.1))), (a_t_upAt, .inl (E 0, 40, .inl (A4 o3.2.2.2.1))), (a_t_downAt, .inl (E 0, 40, .inl (A4 o3.2.2.2.2)))] H → va_D A [(a_t, .inr (12, [.ref a_t_now, .ref a_t_read, .ref a_t_past, .int (z4 t_deeds), .ref a_t_images, .ref a_t_isKept, .ref a_t_text, .int (z4 t_letters), .int (z4 t_at), .int (z4 t_tokenAt), .int (z4 t_tokenSort), .int (z4 t_tokenValue), .int (z4 t_items), .int (z4 t_isChanceTold), .int (z4 t_areSumsTold), .ref a_t_metAt, .ref a_t_memoryAt, .ref a_t_upAt, .ref a_t_downAt, .ref a_t_isSignal, .ref a_t_memories, .ref a_t_placeOf, .ref a_t_nextPlace, .int (z4 t_places), .ref a_t_kindOf, .ref a_t_newKind, .int (z4 t_kinds), .ref a_t_stateOfKind, .ref a_t_stateAt, .ref a_t_stepTo, .int (z4 t_states), .ref a_t_far, .ref a_t_ways, .ref a_t_nextWays, .ref a_t_table])), (a_t_now, .inl (E 0, 98, .inl (A4 t_now))), (a_t_metAt, .inl (E 0, 40, .inl (A4 o3.1))), (a_t_memoryAt, .inl (E 0, 40, .inl (A4 o3.2.1))), (a_t_isSignal, .inl (E 1, 40, .inl (A4 o3.2.2.1))), (a_t_upAt, .inl (E 0, 40, .inl (A4 o3.2.2.2.1))), (a_t_downAt, .inl (E 0, 40, .inl (A4 o3.2.2.2.2)))] → va_S A s.heap H locs → W p l e rm_X12_same s m args below meth c H locs 0 0 Q (F0 m 72 ls [.int (z4 o_), .int (z4 v42_2)]) := by
                        intro o_ ho_ H locs ls hl hP hD hS
                        subst ho_
                        refine m_iadd X dX12_same_72 ?_
                        refine lv_istore_n (lv' := [(2, .int (z4 (v42_2 + o11))), (0, .ref a_t), (1, .int (z4 x1)), (3, .int (z4 v42_3)), (4, .int (z4 v23_4)), (5, .int (z4 v32_5)), (6, .int (z4 v42_6)), (7, .int (z4 o10))]) hx hb dX12_same_73 rfl hl (by decide) rfl (fun ls hl => ?_)
                        refine lv_iload hx hb dX12_same_74 (lv_at hl 7 rfl) ?_
                        obtain ⟨o13, hj13, hr13⟩ := bd_some hr11
                        have J13 : ∀ (o_ : Int), o13 = o_ → ∀ (H : Heap) (locs : List Loc) (ls : Array Slot), lv_has ls 8 [(0, .ref a_t), (1, .int (z4 x1)), (2, .int (z4 (v42_2 + o11))), (4, .int (z4 v23_4)), (5, .int (z4 v32_5)), (6, .int (z4 v42_6))] → va_P D vwCl [(a_t, .inr (12, [.ref a_t_now, .ref a_t_read, .ref a_t_past, .int (z4 t_deeds), .ref a_t_images, .ref a_t_isKept, .ref a_t_text, .int (z4 t_letters), .int (z4 t_at), .int (z4 t_tokenAt), .int (z4 t_tokenSort), .int (z4 t_tokenValue), .int (z4 t_items), .int (z4 t_isChanceTold), .int (z4 t_areSumsTold), .ref a_t_metAt, .ref a_t_memoryAt, .ref a_t_upAt, .ref a_t_downAt, .ref a_t_isSignal, .ref a_t_memories, .ref a_t_placeOf, .ref a_t_nextPlace, .int (z4 t_places), .ref a_t_kindOf, .ref a_t_newKind, .int (z4 t_kinds), .ref a_t_stateOfKind, .ref a_t_stateAt, .ref a_t_stepTo, .int (z4 t_states), .ref a_t_far, .ref a_t_ways, .ref a_t_nextWays, .ref a_t_table])), (a_t_now, .inl (E 0, 98, .inl (A4 t_now))), (a_t_metAt, .inl (E 0, 40, .inl (A4 o3.1))), (a_t_memoryAt, .inl (E 0, 40, .inl (A4 o3.2.1))), (a_t_isSignal, .inl (E 1, 40, .inl (A4 o3.2.2.1))), (a_t_upAt, .inl (E 0, 40, .inl (A4 o3.2.2.2.1))), (a_t_downAt, .inl (E 0, 40, .inl (A4 o3.2.2.2.2)))] H → va_D A [(a_t, .inr (12, [.ref a_t_now, .ref a_t_read, .ref a_t_past, .int (z4 t_deeds), .ref a_t_images, .ref a_t_isKept, .ref a_t_text, .int (z4 t_letters), .int (z4 t_at), .int (z4 t_tokenAt), .int (z4 t_tokenSort), .int (z4 t_tokenValue), .int (z4 t_items), .int (z4 t_isChanceTold), .int (z4 t_areSumsTold), .ref a_t_metAt, .ref a_t_memoryAt, .ref a_t_upAt, .ref a_t_downAt, .ref a_t_isSignal, .ref a_t_memories, .ref a_t_placeOf, .ref a_t_nextPlace, .int (z4 t_places), .ref a_t_kindOf, .ref a_t_newKind, .int (z4 t_kinds), .ref a_t_stateOfKind, .ref a_t_stateAt, .ref a_t_stepTo, .int (z4 t_states), .ref a_t_far, .ref a_t_ways, .ref a_t_nextWays, .ref a_t_table])), (a_t_now, .inl (E 0, 98, .inl (A4 t_now))), (a_t_metAt, .inl (E 0, 40, .inl (A4 o3.1))), (a_t_memoryAt, .inl (E 0, 40, .inl (A4 o3.2.1))), (a_t_isSignal, .inl (E 1, 40, .inl (A4 o3.2.2.1))), (a_t_upAt, .inl (E 0, 40, .inl (A4 o3.2.2.2.1))), (a_t_downAt, .inl (E 0, 40, .inl (A4 o3.2.2.2.2)))] → va_S A s.heap H locs → W p l e rm_X12_same s m args below meth c H locs 0 0 Q (F0 m 104 ls [.int (z4 o_)]) := by
                          intro o_ ho_ H locs ls hl hP hD hS
                          subst ho_
                          refine lv_istore_n (lv' := [(3, .int (z4 o13)), (0, .ref a_t), (1, .int (z4 x1)), (2, .int (z4 (v42_2 + o11))), (4, .int (z4 v23_4)), (5, .int (z4 v32_5)), (6, .int (z4 v42_6))]) hx hb dX12_same_104 rfl hl (by decide) rfl (fun ls hl => ?_)
                          refine m_iinc X 6 [(6, .int (z4 (v42_6 + 1))), (3, .int (z4 o13)), (0, .ref a_t), (1, .int (z4 x1)), (2, .int (z4 (v42_2 + o11))), (4, .int (z4 v23_4)), (5, .int (z4 v32_5))] dX12_same_105 hl rfl (by decide) rfl (fun ls hl => ?_)
                          refine lv_goto (tgt := 42) hx hb dX12_same_108 (by decide) ?_
                          obtain rfl := Option.some.inj hr13
                          exact ih8 _ _ _ _ _ _ (lv_sub hl [2, 3, 4, 1, 5, 6, 0] rfl) hP hD hS hq8
                        obtain ⟨h14, hj13⟩ := ck_some hj13
                        refine m_if_eq X h14 dX12_same_76 (tgt := 103) (by decide) (fun (hc_ : o10 = 0) => ?_) (fun (hc_ : ¬ (o10 = 0)) => ?_)
                        · rw [if_pos hc_] at hj13
                          refine lv_iload_n hx hb dX12_same_103 rfl (lv_at hl 3 rfl) ?_
                          exact J13 _ (Option.some.inj hj13).symm _ _ _ (lv_sub hl [1, 2, 0, 4, 5, 6] rfl) hP hD hS
                        · rw [if_neg hc_] at hj13
                          refine lv_iload_n hx hb dX12_same_79 rfl (lv_at hl 3 rfl) ?_
                          refine m_bipush X dX12_same_80 (by decide) ?_
                          obtain ⟨h15, hj13⟩ := ck_some hj13
                          refine m_icmp_ne X ⟨h15, ⟨by decide, by decide⟩⟩ dX12_same_82 (tgt := 103) (by decide) (fun (hc_ : ¬ (v42_3 = (-9))) => ?_) (fun (hc_ : v42_3 = (-9)) => ?_)
                          · rw [if_neg hc_] at hj13
                            refine lv_iload_n hx hb dX12_same_103 rfl (lv_at hl 3 rfl) ?_
                            exact J13 _ (Option.some.inj hj13).symm _ _ _ (lv_sub hl [1, 2, 0, 4, 5, 6] rfl) hP hD hS
                          · rw [if_pos hc_] at hj13
                            refine m_sipush X dX12_same_85 (by decide) ?_
                            refine lv_iload hx hb dX12_same_88 (lv_at hl 4 rfl) ?_
                            refine m_imul X dX12_same_90 ?_
                            refine m_bipush X dX12_same_91 (by decide) ?_
                            refine lv_iload hx hb dX12_same_93 (lv_at hl 5 rfl) ?_
                            refine m_imul X dX12_same_95 ?_
                            refine m_iadd X dX12_same_96 ?_
                            refine lv_iload hx hb dX12_same_97 (lv_at hl 6 rfl) ?_
                            refine m_iadd X dX12_same_99 ?_
                            refine lv_goto (tgt := 104) hx hb dX12_same_100 (by decide) ?_
                            exact J13 _ (Option.some.inj hj13).symm _ _ _ (lv_sub hl [1, 2, 0, 4, 5, 6] rfl) hP hD hS
                      obtain ⟨h12, hj11⟩ := ck_some hj11
                      refine m_if_eq X h12 dX12_same_64 (tgt := 71) (by decide) (fun (hc_ : o10 = 0) => ?_) (fun (hc_ : ¬ (o10 = 0)) => ?_)
                      · rw [if_pos hc_] at hj11
                        refine m_iconst X dX12_same_71 ?_
                        exact J11 _ (Option.some.inj hj11).symm _ _ _ (lv_sub hl [1, 2, 4, 5, 6, 7, 0] rfl) hP hD hS
                      · rw [if_neg hc_] at hj11
                        refine m_iconst X dX12_same_67 ?_
                        refine lv_goto (tgt := 72) hx hb dX12_same_68 (by decide) ?_
                        exact J11 _ (Option.some.inj hj11).symm _ _ _ (lv_sub hl [1, 2, 4, 5, 6, 7, 0] rfl) hP hD hS
                exact L8 n _ _ _ _ _ _ (lv_sub hl [1, 2, 3, 4, 5, 6, 0] rfl) hP hD hS hj8
          exact L6 n _ _ _ _ _ _ (lv_sub hl [1, 2, 3, 4, 5, 0] rfl) hP hD hS hj6
    exact L4 n _ _ _ _ _ _ (lv_sub hl [3, 4, 2, 1, 0] rfl) hP hD hS hj4
  · rw [if_pos hc_] at hf
    refine m_iconst X dX12_same_9 ?_
    obtain rfl := Option.some.inj hf
    exact ret _ _ _ _ hP hD hS dX12_same_10
def F_X12_count (n : Nat)  (t_deeds : Int) (t_letters : Int) (t_places : Int) (t_kinds : Int) (t_states : Int) (t_now : Nat → Int) (t_placeOf : Nat → Int) (t_memories : Nat → Int) (t_nextPlace : Nat → Int) (t_kindOf : Nat → Int) (t_newKind : Nat → Int) (t_stateOfKind : Nat → Int) (t_stateAt : Nat → Int) (t_stepTo : Nat → Int) (t_metAt : Nat → Int) (t_memoryAt : Nat → Int) (t_isSignal : Nat → Int) (t_upAt : Nat → Int) (t_downAt : Nat → Int) (x1 : Int) : Option (Int × Int × Int × Int × (Nat → Int) × (Nat → Int) × (Nat → Int) × (Nat → Int) × (Nat → Int) × (Nat → Int) × (Nat → Int) × (Nat → Int) × (Nat → Int) × (Nat → Int) × (Nat → Int) × (Nat → Int) × (Nat → Int)) :=
  ck (r4 x1) <|
  if x1 = 0 then
    some (t_now 0, t_places, t_kinds, t_states, t_placeOf, t_memories, t_nextPlace, t_kindOf, t_newKind, t_stateOfKind, t_stateAt, t_stepTo, t_metAt, t_memoryAt, t_isSignal, t_upAt, t_downAt)
  else
    if x1 = 1 then
      some (t_now 17, t_places, t_kinds, t_states, t_placeOf, t_memories, t_nextPlace, t_kindOf, t_newKind, t_stateOfKind, t_stateAt, t_stepTo, t_metAt, t_memoryAt, t_isSignal, t_upAt, t_downAt)
    else
      if x1 = 2 then
        (F_X12_build n t_placeOf t_memories t_now t_nextPlace t_kindOf t_newKind t_stateOfKind t_stateAt t_stepTo).bind fun o2 =>
        some (o2.2.2.1, o2.1, o2.2.1, o2.2.2.1, o2.2.2.2.1, o2.2.2.2.2.1, o2.2.2.2.2.2.1, o2.2.2.2.2.2.2.1, o2.2.2.2.2.2.2.2.1, o2.2.2.2.2.2.2.2.2.1, o2.2.2.2.2.2.2.2.2.2.1, o2.2.2.2.2.2.2.2.2.2.2, t_metAt, t_memoryAt, t_isSignal, t_upAt, t_downAt)
      else
        if x1 = 3 then
          (F_X12_stateNow n t_now t_metAt t_memoryAt t_isSignal t_upAt t_downAt t_placeOf t_memories t_nextPlace t_kindOf t_newKind t_stateOfKind t_stateAt t_stepTo).bind fun o3 =>
          some (o3.1, o3.2.1, o3.2.2.1, o3.2.2.2.1, o3.2.2.2.2.2.2.2.2.2.1, o3.2.2.2.2.2.2.2.2.2.2.1, o3.2.2.2.2.2.2.2.2.2.2.2.1, o3.2.2.2.2.2.2.2.2.2.2.2.2.1, o3.2.2.2.2.2.2.2.2.2.2.2.2.2.1, o3.2.2.2.2.2.2.2.2.2.2.2.2.2.2.1, o3.2.2.2.2.2.2.2.2.2.2.2.2.2.2.2.1, o3.2.2.2.2.2.2.2.2.2.2.2.2.2.2.2.2, o3.2.2.2.2.1, o3.2.2.2.2.2.1, o3.2.2.2.2.2.2.1, o3.2.2.2.2.2.2.2.1, o3.2.2.2.2.2.2.2.2.1)
        else
          if x1 = 4 then
            some (t_now 15, t_places, t_kinds, t_states, t_placeOf, t_memories, t_nextPlace, t_kindOf, t_newKind, t_stateOfKind, t_stateAt, t_stepTo, t_metAt, t_memoryAt, t_isSignal, t_upAt, t_downAt)
          else
            if x1 = 5 then
              some (t_now 16, t_places, t_kinds, t_states, t_placeOf, t_memories, t_nextPlace, t_kindOf, t_newKind, t_stateOfKind, t_stateAt, t_stepTo, t_metAt, t_memoryAt, t_isSignal, t_upAt, t_downAt)
            else
              if x1 = 6 then
                (F_X12_goThrough n t_now t_metAt t_memoryAt t_isSignal t_upAt t_downAt).bind fun o4 =>
                Option.bind (α := Int) (
                  ck (r4 (t_now 17)) <|
                  if t_now 17 = 0 then
                    some 0
                  else
                    ck (ix_ ((t_now 17) - 1) 40) <|
                    some (o4.2.2.2.1 ((t_now 17) - 1).toNat)) fun o5 =>
                some (o5, t_places, t_kinds, t_states, t_placeOf, t_memories, t_nextPlace, t_kindOf, t_newKind, t_stateOfKind, t_stateAt, t_stepTo, o4.1, o4.2.1, o4.2.2.1, o4.2.2.2.1, o4.2.2.2.2)
              else
                if x1 = 7 then
                  (F_X12_goThrough n t_now t_metAt t_memoryAt t_isSignal t_upAt t_downAt).bind fun o8 =>
                  Option.bind (α := Int) (
                    ck (r4 (t_now 17)) <|
                    if t_now 17 = 0 then
                      some 0
                    else
                      ck (ix_ ((t_now 17) - 1) 40) <|
                      some (o8.2.2.2.2 ((t_now 17) - 1).toNat)) fun o9 =>
                  some (o9, t_places, t_kinds, t_states, t_placeOf, t_memories, t_nextPlace, t_kindOf, t_newKind, t_stateOfKind, t_stateAt, t_stepTo, o8.1, o8.2.1, o8.2.2.1, o8.2.2.2.1, o8.2.2.2.2)
                else
                  if x1 = 8 then
                    some (t_letters, t_places, t_kinds, t_states, t_placeOf, t_memories, t_nextPlace, t_kindOf, t_newKind, t_stateOfKind, t_stateAt, t_stepTo, t_metAt, t_memoryAt, t_isSignal, t_upAt, t_downAt)
                  else
                    if x1 = 9 then
                      some (t_deeds, t_places, t_kinds, t_states, t_placeOf, t_memories, t_nextPlace, t_kindOf, t_newKind, t_stateOfKind, t_stateAt, t_stepTo, t_metAt, t_memoryAt, t_isSignal, t_upAt, t_downAt)
                    else
                      some ((-1), t_places, t_kinds, t_states, t_placeOf, t_memories, t_nextPlace, t_kindOf, t_newKind, t_stateOfKind, t_stateAt, t_stepTo, t_metAt, t_memoryAt, t_isSignal, t_upAt, t_downAt)
def rm_X12_count : Room := { frames := 5, cells := 0, slots := 0, locals := 118 }
set_option maxHeartbeats 4000000 in
set_option maxRecDepth 100000 in
theorem k_X12_count {l : Launch} {D : va_G} {E : Nat → ClassId} (n : Nat) (a_t a_t_now a_t_read a_t_past a_t_images a_t_isKept a_t_text a_t_metAt a_t_memoryAt a_t_upAt a_t_downAt a_t_isSignal a_t_memories a_t_placeOf a_t_nextPlace a_t_kindOf a_t_newKind a_t_stateOfKind a_t_stateAt a_t_stepTo a_t_far a_t_ways a_t_nextWays a_t_table : Nat) (t_deeds : Int) (t_letters : Int) (t_at : Int) (t_tokenAt : Int) (t_tokenSort : Int) (t_tokenValue : Int) (t_items : Int) (t_isChanceTold : Int) (t_areSumsTold : Int) (t_places : Int) (t_kinds : Int) (t_states : Int) (t_now : Nat → Int) (t_placeOf : Nat → Int) (t_memories : Nat → Int) (t_nextPlace : Nat → Int) (t_kindOf : Nat → Int) (t_newKind : Nat → Int) (t_stateOfKind : Nat → Int) (t_stateAt : Nat → Int) (t_stepTo : Nat → Int) (t_metAt : Nat → Int) (t_memoryAt : Nat → Int) (t_isSignal : Nat → Int) (t_upAt : Nat → Int) (t_downAt : Nat → Int) (x1 : Int) (res : Int × Int × Int × Int × (Nat → Int) × (Nat → Int) × (Nat → Int) × (Nat → Int) × (Nat → Int) × (Nat → Int) × (Nat → Int) × (Nat → Int) × (Nat → Int) × (Nat → Int) × (Nat → Int) × (Nat → Int) × (Nat → Int)) (hf : F_X12_count n t_deeds t_letters t_places t_kinds t_states t_now t_placeOf t_memories t_nextPlace t_kindOf t_newKind t_stateOfKind t_stateAt t_stepTo t_metAt t_memoryAt t_isSignal t_upAt t_downAt x1 = some res) : MW l yX12_count (.code yX12_count cX12_count 2 (some .int)) rm_X12_count D E [.ref a_t, .int (z4 x1)] [(a_t, .inr (12, [.ref a_t_now, .ref a_t_read, .ref a_t_past, .int (z4 t_deeds), .ref a_t_images, .ref a_t_isKept, .ref a_t_text, .int (z4 t_letters), .int (z4 t_at), .int (z4 t_tokenAt), .int (z4 t_tokenSort), .int (z4 t_tokenValue), .int (z4 t_items), .int (z4 t_isChanceTold), .int (z4 t_areSumsTold), .ref a_t_metAt, .ref a_t_memoryAt, .ref a_t_upAt, .ref a_t_downAt, .ref a_t_isSignal, .ref a_t_memories, .ref a_t_placeOf, .ref a_t_nextPlace, .int (z4 t_places), .ref a_t_kindOf, .ref a_t_newKind, .int (z4 t_kinds), .ref a_t_stateOfKind, .ref a_t_stateAt, .ref a_t_stepTo, .int (z4 t_states), .ref a_t_far, .ref a_t_ways, .ref a_t_nextWays, .ref a_t_table])), (a_t_now, .inl (E 0, 98, .inl (A4 t_now))), (a_t_placeOf, .inl (E 0, 64, .inl (A4 t_placeOf))), (a_t_memories, .inl (E 0, 64, .inl (A4 t_memories))), (a_t_nextPlace, .inl (E 0, 320, .inl (A4 t_nextPlace))), (a_t_kindOf, .inl (E 0, 64, .inl (A4 t_kindOf))), (a_t_newKind, .inl (E 0, 64, .inl (A4 t_newKind))), (a_t_stateOfKind, .inl (E 0, 64, .inl (A4 t_stateOfKind))), (a_t_stateAt, .inl (E 0, 64, .inl (A4 t_stateAt))), (a_t_stepTo, .inl (E 0, 320, .inl (A4 t_stepTo))), (a_t_metAt, .inl (E 0, 40, .inl (A4 t_metAt))), (a_t_memoryAt, .inl (E 0, 40, .inl (A4 t_memoryAt))), (a_t_isSignal, .inl (E 1, 40, .inl (A4 t_isSignal))), (a_t_upAt, .inl (E 0, 40, .inl (A4 t_upAt))), (a_t_downAt, .inl (E 0, 40, .inl (A4 t_downAt)))] (some (.int (z4 res.1))) [(a_t, .inr (12, [.ref a_t_now, .ref a_t_read, .ref a_t_past, .int (z4 t_deeds), .ref a_t_images, .ref a_t_isKept, .ref a_t_text, .int (z4 t_letters), .int (z4 t_at), .int (z4 t_tokenAt), .int (z4 t_tokenSort), .int (z4 t_tokenValue), .int (z4 t_items), .int (z4 t_isChanceTold), .int (z4 t_areSumsTold), .ref a_t_metAt, .ref a_t_memoryAt, .ref a_t_upAt, .ref a_t_downAt, .ref a_t_isSignal, .ref a_t_memories, .ref a_t_placeOf, .ref a_t_nextPlace, .int (z4 res.2.1), .ref a_t_kindOf, .ref a_t_newKind, .int (z4 res.2.2.1), .ref a_t_stateOfKind, .ref a_t_stateAt, .ref a_t_stepTo, .int (z4 res.2.2.2.1), .ref a_t_far, .ref a_t_ways, .ref a_t_nextWays, .ref a_t_table])), (a_t_now, .inl (E 0, 98, .inl (A4 t_now))), (a_t_placeOf, .inl (E 0, 64, .inl (A4 res.2.2.2.2.1))), (a_t_memories, .inl (E 0, 64, .inl (A4 res.2.2.2.2.2.1))), (a_t_nextPlace, .inl (E 0, 320, .inl (A4 res.2.2.2.2.2.2.1))), (a_t_kindOf, .inl (E 0, 64, .inl (A4 res.2.2.2.2.2.2.2.1))), (a_t_newKind, .inl (E 0, 64, .inl (A4 res.2.2.2.2.2.2.2.2.1))), (a_t_stateOfKind, .inl (E 0, 64, .inl (A4 res.2.2.2.2.2.2.2.2.2.1))), (a_t_stateAt, .inl (E 0, 64, .inl (A4 res.2.2.2.2.2.2.2.2.2.2.1))), (a_t_stepTo, .inl (E 0, 320, .inl (A4 res.2.2.2.2.2.2.2.2.2.2.2.1))), (a_t_metAt, .inl (E 0, 40, .inl (A4 res.2.2.2.2.2.2.2.2.2.2.2.2.1))), (a_t_memoryAt, .inl (E 0, 40, .inl (A4 res.2.2.2.2.2.2.2.2.2.2.2.2.2.1))), (a_t_isSignal, .inl (E 1, 40, .inl (A4 res.2.2.2.2.2.2.2.2.2.2.2.2.2.2.1))), (a_t_upAt, .inl (E 0, 40, .inl (A4 res.2.2.2.2.2.2.2.2.2.2.2.2.2.2.2.1))), (a_t_downAt, .inl (E 0, 40, .inl (A4 res.2.2.2.2.2.2.2.2.2.2.2.2.2.2.2.2)))] := by
  refine MWi (by decide) (Nat.le_of_ble_eq_true rfl) ?_
  intro p e s m args below meth c A Q X hK hP hD hA ret ls hl
  have hS : va_S A s.heap s.heap [] := va_S.rf
  have hx := X.1
  have hb := X.2.1
  have hl : lv_has ls 2 [(0, .ref a_t), (1, .int (z4 x1))] := hl
  unfold F_X12_count at hf
  refine lv_iload_n hx hb dX12_count_0 rfl (lv_at hl 1 rfl) ?_
  obtain ⟨h1, hf⟩ := ck_some hf
  by_cases hc0 : x1 = 0
  · rw [if_pos hc0] at hf
    refine m_swIn X h1 0 hc0 (by decide) dX12_count_1 rfl (tgt := 56) (by decide) ?_
    refine lv_aload_n hx hb dX12_count_56 rfl (lv_at hl 0 rfl) ?_
    refine m_get X hK hP cl_X12 iT_X12 0 (by decide) fl_X12_7 0 rfl rfl dX12_count_57 ?_
    refine m_iconst X dX12_count_60 ?_
    refine m_iald X hK hP 1 rfl (by decide) (by decide) dX12_count_61 ?_
    obtain rfl := Option.some.inj hf
    exact ret _ _ _ _ hP hD hS dX12_count_62
  · rw [if_neg hc0] at hf
    by_cases hc1 : x1 = 1
    · rw [if_pos hc1] at hf
      refine m_swIn X h1 1 hc1 (by decide) dX12_count_1 rfl (tgt := 63) (by decide) ?_
      refine lv_aload_n hx hb dX12_count_63 rfl (lv_at hl 0 rfl) ?_
      refine m_get X hK hP cl_X12 iT_X12 0 (by decide) fl_X12_7 0 rfl rfl dX12_count_64 ?_
      refine m_bipush X dX12_count_67 (by decide) ?_
      refine m_iald X hK hP 1 rfl (by decide) (by decide) dX12_count_69 ?_
      obtain rfl := Option.some.inj hf
      exact ret _ _ _ _ hP hD hS dX12_count_70
    · rw [if_neg hc1] at hf
      by_cases hc2 : x1 = 2
      · rw [if_pos hc2] at hf
        refine m_swIn X h1 2 hc2 (by decide) dX12_count_1 rfl (tgt := 71) (by decide) ?_
        refine lv_aload_n hx hb dX12_count_71 rfl (lv_at hl 0 rfl) ?_
        obtain ⟨o2, ho, hf⟩ := bd_some hf
        refine m_cVW X hK hP hD hS hA (wr := [(a_t_metAt, .inl (E 0, 40, .inl (A4 t_metAt))), (a_t_memoryAt, .inl (E 0, 40, .inl (A4 t_memoryAt))), (a_t_isSignal, .inl (E 1, 40, .inl (A4 t_isSignal))), (a_t_upAt, .inl (E 0, 40, .inl (A4 t_upAt))), (a_t_downAt, .inl (E 0, 40, .inl (A4 t_downAt)))]) (k_X12_build n a_t a_t_now a_t_read a_t_past a_t_images a_t_isKept a_t_text a_t_metAt a_t_memoryAt a_t_upAt a_t_downAt a_t_isSignal a_t_memories a_t_placeOf a_t_nextPlace a_t_kindOf a_t_newKind a_t_stateOfKind a_t_stateAt a_t_stepTo a_t_far a_t_ways a_t_nextWays a_t_table t_deeds t_letters t_at t_tokenAt t_tokenSort t_tokenValue t_items t_isChanceTold t_areSumsTold t_places t_kinds t_states t_placeOf t_memories t_now t_nextPlace t_kindOf t_newKind t_stateOfKind t_stateAt t_stepTo o2 ho) [0, 2, 3, 1, 4, 5, 6, 7, 8, 9] [10, 11, 12, 13, 14] [5, 8, 6, 7, 9, 10, 11, 12, 13, 14, 0, 1, 2, 3, 4] [(a_t, .inr (12, [.ref a_t_now, .ref a_t_read, .ref a_t_past, .int (z4 t_deeds), .ref a_t_images, .ref a_t_isKept, .ref a_t_text, .int (z4 t_letters), .int (z4 t_at), .int (z4 t_tokenAt), .int (z4 t_tokenSort), .int (z4 t_tokenValue), .int (z4 t_items), .int (z4 t_isChanceTold), .int (z4 t_areSumsTold), .ref a_t_metAt, .ref a_t_memoryAt, .ref a_t_upAt, .ref a_t_downAt, .ref a_t_isSignal, .ref a_t_memories, .ref a_t_placeOf, .ref a_t_nextPlace, .int (z4 o2.1), .ref a_t_kindOf, .ref a_t_newKind, .int (z4 o2.2.1), .ref a_t_stateOfKind, .ref a_t_stateAt, .ref a_t_stepTo, .int (z4 o2.2.2.1), .ref a_t_far, .ref a_t_ways, .ref a_t_nextWays, .ref a_t_table])), (a_t_now, .inl (E 0, 98, .inl (A4 t_now))), (a_t_placeOf, .inl (E 0, 64, .inl (A4 o2.2.2.2.1))), (a_t_memories, .inl (E 0, 64, .inl (A4 o2.2.2.2.2.1))), (a_t_nextPlace, .inl (E 0, 320, .inl (A4 o2.2.2.2.2.2.1))), (a_t_kindOf, .inl (E 0, 64, .inl (A4 o2.2.2.2.2.2.2.1))), (a_t_newKind, .inl (E 0, 64, .inl (A4 o2.2.2.2.2.2.2.2.1))), (a_t_stateOfKind, .inl (E 0, 64, .inl (A4 o2.2.2.2.2.2.2.2.2.1))), (a_t_stateAt, .inl (E 0, 64, .inl (A4 o2.2.2.2.2.2.2.2.2.2.1))), (a_t_stepTo, .inl (E 0, 320, .inl (A4 o2.2.2.2.2.2.2.2.2.2.2))), (a_t_metAt, .inl (E 0, 40, .inl (A4 t_metAt))), (a_t_memoryAt, .inl (E 0, 40, .inl (A4 t_memoryAt))), (a_t_isSignal, .inl (E 1, 40, .inl (A4 t_isSignal))), (a_t_upAt, .inl (E 0, 40, .inl (A4 t_upAt))), (a_t_downAt, .inl (E 0, 40, .inl (A4 t_downAt)))] rfl rfl rfl rfl (by decide) rfl rfl rfl cl_X12 lk_X12_215 co_X12_build dy_X12_build rfl rfl ⟨Nat.le_of_ble_eq_true rfl, Nat.le_of_ble_eq_true rfl⟩ hl.1 rfl (Nat.le_of_ble_eq_true rfl) dX12_count_72 (Nat.zero_le _) (Nat.zero_le _) (fun H locs hP hD hS => ?_)
        refine lv_aload_n hx hb dX12_count_75 rfl (lv_at hl 0 rfl) ?_
        refine m_get X hK hP cl_X12 iT_X12 30 (by decide) fl_X12_200 0 rfl rfl dX12_count_76 ?_
        obtain rfl := Option.some.inj hf
        exact ret _ _ _ _ hP hD hS dX12_count_79
      · rw [if_neg hc2] at hf
        by_cases hc3 : x1 = 3
        · rw [if_pos hc3] at hf
          refine m_swIn X h1 3 hc3 (by decide) dX12_count_1 rfl (tgt := 80) (by decide) ?_
          refine lv_aload_n hx hb dX12_count_80 rfl (lv_at hl 0 rfl) ?_
          obtain ⟨o3, ho, hf⟩ := bd_some hf
          refine m_cVW X hK hP hD hS hA (wr := []) (k_X12_stateNow n a_t a_t_now a_t_read a_t_past a_t_images a_t_isKept a_t_text a_t_metAt a_t_memoryAt a_t_upAt a_t_downAt a_t_isSignal a_t_memories a_t_placeOf a_t_nextPlace a_t_kindOf a_t_newKind a_t_stateOfKind a_t_stateAt a_t_stepTo a_t_far a_t_ways a_t_nextWays a_t_table t_deeds t_letters t_at t_tokenAt t_tokenSort t_tokenValue t_items t_isChanceTold t_areSumsTold t_places t_kinds t_states t_now t_metAt t_memoryAt t_isSignal t_upAt t_downAt t_placeOf t_memories t_nextPlace t_kindOf t_newKind t_stateOfKind t_stateAt t_stepTo o3 ho) [0, 1, 10, 11, 12, 13, 14, 2, 3, 4, 5, 6, 7, 8, 9] [] [0, 1, 7, 8, 9, 10, 11, 12, 13, 14, 2, 3, 4, 5, 6] [(a_t, .inr (12, [.ref a_t_now, .ref a_t_read, .ref a_t_past, .int (z4 t_deeds), .ref a_t_images, .ref a_t_isKept, .ref a_t_text, .int (z4 t_letters), .int (z4 t_at), .int (z4 t_tokenAt), .int (z4 t_tokenSort), .int (z4 t_tokenValue), .int (z4 t_items), .int (z4 t_isChanceTold), .int (z4 t_areSumsTold), .ref a_t_metAt, .ref a_t_memoryAt, .ref a_t_upAt, .ref a_t_downAt, .ref a_t_isSignal, .ref a_t_memories, .ref a_t_placeOf, .ref a_t_nextPlace, .int (z4 o3.2.1), .ref a_t_kindOf, .ref a_t_newKind, .int (z4 o3.2.2.1), .ref a_t_stateOfKind, .ref a_t_stateAt, .ref a_t_stepTo, .int (z4 o3.2.2.2.1), .ref a_t_far, .ref a_t_ways, .ref a_t_nextWays, .ref a_t_table])), (a_t_now, .inl (E 0, 98, .inl (A4 t_now))), (a_t_placeOf, .inl (E 0, 64, .inl (A4 o3.2.2.2.2.2.2.2.2.2.1))), (a_t_memories, .inl (E 0, 64, .inl (A4 o3.2.2.2.2.2.2.2.2.2.2.1))), (a_t_nextPlace, .inl (E 0, 320, .inl (A4 o3.2.2.2.2.2.2.2.2.2.2.2.1))), (a_t_kindOf, .inl (E 0, 64, .inl (A4 o3.2.2.2.2.2.2.2.2.2.2.2.2.1))), (a_t_newKind, .inl (E 0, 64, .inl (A4 o3.2.2.2.2.2.2.2.2.2.2.2.2.2.1))), (a_t_stateOfKind, .inl (E 0, 64, .inl (A4 o3.2.2.2.2.2.2.2.2.2.2.2.2.2.2.1))), (a_t_stateAt, .inl (E 0, 64, .inl (A4 o3.2.2.2.2.2.2.2.2.2.2.2.2.2.2.2.1))), (a_t_stepTo, .inl (E 0, 320, .inl (A4 o3.2.2.2.2.2.2.2.2.2.2.2.2.2.2.2.2))), (a_t_metAt, .inl (E 0, 40, .inl (A4 o3.2.2.2.2.1))), (a_t_memoryAt, .inl (E 0, 40, .inl (A4 o3.2.2.2.2.2.1))), (a_t_isSignal, .inl (E 1, 40, .inl (A4 o3.2.2.2.2.2.2.1))), (a_t_upAt, .inl (E 0, 40, .inl (A4 o3.2.2.2.2.2.2.2.1))), (a_t_downAt, .inl (E 0, 40, .inl (A4 o3.2.2.2.2.2.2.2.2.1)))] rfl rfl rfl rfl (by decide) rfl rfl rfl cl_X12 lk_X12_224 co_X12_stateNow dy_X12_stateNow rfl rfl ⟨Nat.le_of_ble_eq_true rfl, Nat.le_of_ble_eq_true rfl⟩ hl.1 rfl (Nat.le_of_ble_eq_true rfl) dX12_count_81 (Nat.zero_le _) (Nat.zero_le _) (fun H locs hP hD hS => ?_)
          obtain rfl := Option.some.inj hf
          exact ret _ _ _ _ hP hD hS dX12_count_84
        · rw [if_neg hc3] at hf
          by_cases hc4 : x1 = 4
          · rw [if_pos hc4] at hf
            refine m_swIn X h1 4 hc4 (by decide) dX12_count_1 rfl (tgt := 85) (by decide) ?_
            refine lv_aload_n hx hb dX12_count_85 rfl (lv_at hl 0 rfl) ?_
            refine m_get X hK hP cl_X12 iT_X12 0 (by decide) fl_X12_7 0 rfl rfl dX12_count_86 ?_
            refine m_bipush X dX12_count_89 (by decide) ?_
            refine m_iald X hK hP 1 rfl (by decide) (by decide) dX12_count_91 ?_
            obtain rfl := Option.some.inj hf
            exact ret _ _ _ _ hP hD hS dX12_count_92
          · rw [if_neg hc4] at hf
            by_cases hc5 : x1 = 5
            · rw [if_pos hc5] at hf
              refine m_swIn X h1 5 hc5 (by decide) dX12_count_1 rfl (tgt := 93) (by decide) ?_
              refine lv_aload_n hx hb dX12_count_93 rfl (lv_at hl 0 rfl) ?_
              refine m_get X hK hP cl_X12 iT_X12 0 (by decide) fl_X12_7 0 rfl rfl dX12_count_94 ?_
              refine m_bipush X dX12_count_97 (by decide) ?_
              refine m_iald X hK hP 1 rfl (by decide) (by decide) dX12_count_99 ?_
              obtain rfl := Option.some.inj hf
              exact ret _ _ _ _ hP hD hS dX12_count_100
            · rw [if_neg hc5] at hf
              by_cases hc6 : x1 = 6
              · rw [if_pos hc6] at hf
                refine m_swIn X h1 6 hc6 (by decide) dX12_count_1 rfl (tgt := 101) (by decide) ?_
                refine lv_aload_n hx hb dX12_count_101 rfl (lv_at hl 0 rfl) ?_
                obtain ⟨o4, ho, hf⟩ := bd_some hf
                refine m_cVW X hK hP hD hS hA (wr := [(a_t_placeOf, .inl (E 0, 64, .inl (A4 t_placeOf))), (a_t_memories, .inl (E 0, 64, .inl (A4 t_memories))), (a_t_nextPlace, .inl (E 0, 320, .inl (A4 t_nextPlace))), (a_t_kindOf, .inl (E 0, 64, .inl (A4 t_kindOf))), (a_t_newKind, .inl (E 0, 64, .inl (A4 t_newKind))), (a_t_stateOfKind, .inl (E 0, 64, .inl (A4 t_stateOfKind))), (a_t_stateAt, .inl (E 0, 64, .inl (A4 t_stateAt))), (a_t_stepTo, .inl (E 0, 320, .inl (A4 t_stepTo)))]) (k_X12_goThrough n a_t a_t_now a_t_read a_t_past a_t_images a_t_isKept a_t_text a_t_metAt a_t_memoryAt a_t_upAt a_t_downAt a_t_isSignal a_t_memories a_t_placeOf a_t_nextPlace a_t_kindOf a_t_newKind a_t_stateOfKind a_t_stateAt a_t_stepTo a_t_far a_t_ways a_t_nextWays a_t_table t_deeds t_letters t_at t_tokenAt t_tokenSort t_tokenValue t_items t_isChanceTold t_areSumsTold t_places t_kinds t_states t_now t_metAt t_memoryAt t_isSignal t_upAt t_downAt o4 ho) [0, 1, 10, 11, 12, 13, 14] [2, 3, 4, 5, 6, 7, 8, 9] [8, 9, 0, 1, 2, 3, 4, 5, 6, 7, 10, 11, 12, 13, 14] [(a_t, .inr (12, [.ref a_t_now, .ref a_t_read, .ref a_t_past, .int (z4 t_deeds), .ref a_t_images, .ref a_t_isKept, .ref a_t_text, .int (z4 t_letters), .int (z4 t_at), .int (z4 t_tokenAt), .int (z4 t_tokenSort), .int (z4 t_tokenValue), .int (z4 t_items), .int (z4 t_isChanceTold), .int (z4 t_areSumsTold), .ref a_t_metAt, .ref a_t_memoryAt, .ref a_t_upAt, .ref a_t_downAt, .ref a_t_isSignal, .ref a_t_memories, .ref a_t_placeOf, .ref a_t_nextPlace, .int (z4 t_places), .ref a_t_kindOf, .ref a_t_newKind, .int (z4 t_kinds), .ref a_t_stateOfKind, .ref a_t_stateAt, .ref a_t_stepTo, .int (z4 t_states), .ref a_t_far, .ref a_t_ways, .ref a_t_nextWays, .ref a_t_table])), (a_t_now, .inl (E 0, 98, .inl (A4 t_now))), (a_t_placeOf, .inl (E 0, 64, .inl (A4 t_placeOf))), (a_t_memories, .inl (E 0, 64, .inl (A4 t_memories))), (a_t_nextPlace, .inl (E 0, 320, .inl (A4 t_nextPlace))), (a_t_kindOf, .inl (E 0, 64, .inl (A4 t_kindOf))), (a_t_newKind, .inl (E 0, 64, .inl (A4 t_newKind))), (a_t_stateOfKind, .inl (E 0, 64, .inl (A4 t_stateOfKind))), (a_t_stateAt, .inl (E 0, 64, .inl (A4 t_stateAt))), (a_t_stepTo, .inl (E 0, 320, .inl (A4 t_stepTo))), (a_t_metAt, .inl (E 0, 40, .inl (A4 o4.1))), (a_t_memoryAt, .inl (E 0, 40, .inl (A4 o4.2.1))), (a_t_isSignal, .inl (E 1, 40, .inl (A4 o4.2.2.1))), (a_t_upAt, .inl (E 0, 40, .inl (A4 o4.2.2.2.1))), (a_t_downAt, .inl (E 0, 40, .inl (A4 o4.2.2.2.2)))] rfl rfl rfl rfl (by decide) rfl rfl rfl cl_X12 lk_X12_212 co_X12_goThrough dy_X12_goThrough rfl rfl ⟨Nat.le_of_ble_eq_true rfl, Nat.le_of_ble_eq_true rfl⟩ hl.1 rfl (Nat.le_of_ble_eq_true rfl) dX12_count_102 (Nat.zero_le _) (Nat.zero_le _) (fun H locs hP hD hS => ?_)
                refine lv_aload_n hx hb dX12_count_105 rfl (lv_at hl 0 rfl) ?_
                refine m_get X hK hP cl_X12 iT_X12 0 (by decide) fl_X12_7 0 rfl rfl dX12_count_106 ?_
                refine m_bipush X dX12_count_109 (by decide) ?_
                refine m_iald X hK hP 1 rfl (by decide) (by decide) dX12_count_111 ?_
                obtain ⟨o5, hj5, hr5⟩ := bd_some hf
                have J5 : ∀ (o_ : Int), o5 = o_ → ∀ (H : Heap) (locs : List Loc) (ls : Array Slot), lv_has ls 2 [] → va_P D vwCl [(a_t, .inr (12, [.ref a_t_now, .ref a_t_read, .ref a_t_past, .int (z4 t_deeds), .ref a_t_images, .ref a_t_isKept, .ref a_t_text, .int (z4 t_letters), .int (z4 t_at), .int (z4 t_tokenAt), .int (z4 t_tokenSort), .int (z4 t_tokenValue), .int (z4 t_items), .int (z4 t_isChanceTold), .int (z4 t_areSumsTold), .ref a_t_metAt, .ref a_t_memoryAt, .ref a_t_upAt, .ref a_t_downAt, .ref a_t_isSignal, .ref a_t_memories, .ref a_t_placeOf, .ref a_t_nextPlace, .int (z4 t_places), .ref a_t_kindOf, .ref a_t_newKind, .int (z4 t_kinds), .ref a_t_stateOfKind, .ref a_t_stateAt, .ref a_t_stepTo, .int (z4 t_states), .ref a_t_far, .ref a_t_ways, .ref a_t_nextWays, .ref a_t_table])), (a_t_now, .inl (E 0, 98, .inl (A4 t_now))), (a_t_placeOf, .inl (E 0, 64, .inl (A4 t_placeOf))), (a_t_memories, .inl (E 0, 64, .inl (A4 t_memories))), (a_t_nextPlace, .inl (E 0, 320, .inl (A4 t_nextPlace))), (a_t_kindOf, .inl (E 0, 64, .inl (A4 t_kindOf))), (a_t_newKind, .inl (E 0, 64, .inl (A4 t_newKind))), (a_t_stateOfKind, .inl (E 0, 64, .inl (A4 t_stateOfKind))), (a_t_stateAt, .inl (E 0, 64, .inl (A4 t_stateAt))), (a_t_stepTo, .inl (E 0, 320, .inl (A4 t_stepTo))), (a_t_metAt, .inl (E 0, 40, .inl (A4 o4.1))), (a_t_memoryAt, .inl (E 0, 40, .inl (A4 o4.2.1))), (a_t_isSignal, .inl (E 1, 40, .inl (A4 o4.2.2.1))), (a_t_upAt, .inl (E 0, 40, .inl (A4 o4.2.2.2.1))), (a_t_downAt, .inl (E 0, 40, .inl (A4 o4.2.2.2.2)))] H → va_D A [(a_t, .inr (12, [.ref a_t_now, .ref a_t_read, .ref a_t_past, .int (z4 t_deeds), .ref a_t_images, .ref a_t_isKept, .ref a_t_text, .int (z4 t_letters), .int (z4 t_at), .int (z4 t_tokenAt), .int (z4 t_tokenSort), .int (z4 t_tokenValue), .int (z4 t_items), .int (z4 t_isChanceTold), .int (z4 t_areSumsTold), .ref a_t_metAt, .ref a_t_memoryAt, .ref a_t_upAt, .ref a_t_downAt, .ref a_t_isSignal, .ref a_t_memories, .ref a_t_placeOf, .ref a_t_nextPlace, .int (z4 t_places), .ref a_t_kindOf, .ref a_t_newKind, .int (z4 t_kinds), .ref a_t_stateOfKind, .ref a_t_stateAt, .ref a_t_stepTo, .int (z4 t_states), .ref a_t_far, .ref a_t_ways, .ref a_t_nextWays, .ref a_t_table])), (a_t_now, .inl (E 0, 98, .inl (A4 t_now))), (a_t_placeOf, .inl (E 0, 64, .inl (A4 t_placeOf))), (a_t_memories, .inl (E 0, 64, .inl (A4 t_memories))), (a_t_nextPlace, .inl (E 0, 320, .inl (A4 t_nextPlace))), (a_t_kindOf, .inl (E 0, 64, .inl (A4 t_kindOf))), (a_t_newKind, .inl (E 0, 64, .inl (A4 t_newKind))), (a_t_stateOfKind, .inl (E 0, 64, .inl (A4 t_stateOfKind))), (a_t_stateAt, .inl (E 0, 64, .inl (A4 t_stateAt))), (a_t_stepTo, .inl (E 0, 320, .inl (A4 t_stepTo))), (a_t_metAt, .inl (E 0, 40, .inl (A4 o4.1))), (a_t_memoryAt, .inl (E 0, 40, .inl (A4 o4.2.1))), (a_t_isSignal, .inl (E 1, 40, .inl (A4 o4.2.2.1))), (a_t_upAt, .inl (E 0, 40, .inl (A4 o4.2.2.2.1))), (a_t_downAt, .inl (E 0, 40, .inl (A4 o4.2.2.2.2)))] → va_S A s.heap H locs → W p l e rm_X12_count s m args below meth c H locs 0 0 Q (F0 m 133 ls [.int (z4 o_)]) := by
                  intro o_ ho_ H locs ls hl hP hD hS
                  subst ho_
                  obtain rfl := Option.some.inj hr5
                  exact ret _ _ _ _ hP hD hS dX12_count_133
                obtain ⟨h6, hj5⟩ := ck_some hj5
                refine m_if_ne X h6 dX12_count_112 (tgt := 119) (by decide) (fun (hc_ : ¬ (t_now 17 = 0)) => ?_) (fun (hc_ : t_now 17 = 0) => ?_)
                · rw [if_neg hc_] at hj5
                  refine lv_aload_n hx hb dX12_count_119 rfl (lv_at hl 0 rfl) ?_
                  refine m_get X hK hP cl_X12 iT_X12 17 (by decide) fl_X12_35 0 rfl rfl dX12_count_120 ?_
                  refine lv_aload_n hx hb dX12_count_123 rfl (lv_at hl 0 rfl) ?_
                  refine m_get X hK hP cl_X12 iT_X12 0 (by decide) fl_X12_7 0 rfl rfl dX12_count_124 ?_
                  refine m_bipush X dX12_count_127 (by decide) ?_
                  refine m_iald X hK hP 1 rfl (by decide) (by decide) dX12_count_129 ?_
                  refine m_iconst X dX12_count_130 ?_
                  refine m_isub X dX12_count_131 ?_
                  obtain ⟨h7, hj5⟩ := ck_some hj5
                  refine m_iald X hK hP 13 rfl (by decide) h7 dX12_count_132 ?_
                  exact J5 _ (Option.some.inj hj5).symm _ _ _ (lv_sub hl [] rfl) hP hD hS
                · rw [if_pos hc_] at hj5
                  refine m_iconst X dX12_count_115 ?_
                  refine lv_goto (tgt := 133) hx hb dX12_count_116 (by decide) ?_
                  exact J5 _ (Option.some.inj hj5).symm _ _ _ (lv_sub hl [] rfl) hP hD hS
              · rw [if_neg hc6] at hf
                by_cases hc7 : x1 = 7
                · rw [if_pos hc7] at hf
                  refine m_swIn X h1 7 hc7 (by decide) dX12_count_1 rfl (tgt := 134) (by decide) ?_
                  refine lv_aload_n hx hb dX12_count_134 rfl (lv_at hl 0 rfl) ?_
                  obtain ⟨o8, ho, hf⟩ := bd_some hf
                  refine m_cVW X hK hP hD hS hA (wr := [(a_t_placeOf, .inl (E 0, 64, .inl (A4 t_placeOf))), (a_t_memories, .inl (E 0, 64, .inl (A4 t_memories))), (a_t_nextPlace, .inl (E 0, 320, .inl (A4 t_nextPlace))), (a_t_kindOf, .inl (E 0, 64, .inl (A4 t_kindOf))), (a_t_newKind, .inl (E 0, 64, .inl (A4 t_newKind))), (a_t_stateOfKind, .inl (E 0, 64, .inl (A4 t_stateOfKind))), (a_t_stateAt, .inl (E 0, 64, .inl (A4 t_stateAt))), (a_t_stepTo, .inl (E 0, 320, .inl (A4 t_stepTo)))]) (k_X12_goThrough n a_t a_t_now a_t_read a_t_past a_t_images a_t_isKept a_t_text a_t_metAt a_t_memoryAt a_t_upAt a_t_downAt a_t_isSignal a_t_memories a_t_placeOf a_t_nextPlace a_t_kindOf a_t_newKind a_t_stateOfKind a_t_stateAt a_t_stepTo a_t_far a_t_ways a_t_nextWays a_t_table t_deeds t_letters t_at t_tokenAt t_tokenSort t_tokenValue t_items t_isChanceTold t_areSumsTold t_places t_kinds t_states t_now t_metAt t_memoryAt t_isSignal t_upAt t_downAt o8 ho) [0, 1, 10, 11, 12, 13, 14] [2, 3, 4, 5, 6, 7, 8, 9] [8, 9, 0, 1, 2, 3, 4, 5, 6, 7, 10, 11, 12, 13, 14] [(a_t, .inr (12, [.ref a_t_now, .ref a_t_read, .ref a_t_past, .int (z4 t_deeds), .ref a_t_images, .ref a_t_isKept, .ref a_t_text, .int (z4 t_letters), .int (z4 t_at), .int (z4 t_tokenAt), .int (z4 t_tokenSort), .int (z4 t_tokenValue), .int (z4 t_items), .int (z4 t_isChanceTold), .int (z4 t_areSumsTold), .ref a_t_metAt, .ref a_t_memoryAt, .ref a_t_upAt, .ref a_t_downAt, .ref a_t_isSignal, .ref a_t_memories, .ref a_t_placeOf, .ref a_t_nextPlace, .int (z4 t_places), .ref a_t_kindOf, .ref a_t_newKind, .int (z4 t_kinds), .ref a_t_stateOfKind, .ref a_t_stateAt, .ref a_t_stepTo, .int (z4 t_states), .ref a_t_far, .ref a_t_ways, .ref a_t_nextWays, .ref a_t_table])), (a_t_now, .inl (E 0, 98, .inl (A4 t_now))), (a_t_placeOf, .inl (E 0, 64, .inl (A4 t_placeOf))), (a_t_memories, .inl (E 0, 64, .inl (A4 t_memories))), (a_t_nextPlace, .inl (E 0, 320, .inl (A4 t_nextPlace))), (a_t_kindOf, .inl (E 0, 64, .inl (A4 t_kindOf))), (a_t_newKind, .inl (E 0, 64, .inl (A4 t_newKind))), (a_t_stateOfKind, .inl (E 0, 64, .inl (A4 t_stateOfKind))), (a_t_stateAt, .inl (E 0, 64, .inl (A4 t_stateAt))), (a_t_stepTo, .inl (E 0, 320, .inl (A4 t_stepTo))), (a_t_metAt, .inl (E 0, 40, .inl (A4 o8.1))), (a_t_memoryAt, .inl (E 0, 40, .inl (A4 o8.2.1))), (a_t_isSignal, .inl (E 1, 40, .inl (A4 o8.2.2.1))), (a_t_upAt, .inl (E 0, 40, .inl (A4 o8.2.2.2.1))), (a_t_downAt, .inl (E 0, 40, .inl (A4 o8.2.2.2.2)))] rfl rfl rfl rfl (by decide) rfl rfl rfl cl_X12 lk_X12_212 co_X12_goThrough dy_X12_goThrough rfl rfl ⟨Nat.le_of_ble_eq_true rfl, Nat.le_of_ble_eq_true rfl⟩ hl.1 rfl (Nat.le_of_ble_eq_true rfl) dX12_count_135 (Nat.zero_le _) (Nat.zero_le _) (fun H locs hP hD hS => ?_)
                  refine lv_aload_n hx hb dX12_count_138 rfl (lv_at hl 0 rfl) ?_
                  refine m_get X hK hP cl_X12 iT_X12 0 (by decide) fl_X12_7 0 rfl rfl dX12_count_139 ?_
                  refine m_bipush X dX12_count_142 (by decide) ?_
                  refine m_iald X hK hP 1 rfl (by decide) (by decide) dX12_count_144 ?_
                  obtain ⟨o9, hj9, hr9⟩ := bd_some hf
                  have J9 : ∀ (o_ : Int), o9 = o_ → ∀ (H : Heap) (locs : List Loc) (ls : Array Slot), lv_has ls 2 [] → va_P D vwCl [(a_t, .inr (12, [.ref a_t_now, .ref a_t_read, .ref a_t_past, .int (z4 t_deeds), .ref a_t_images, .ref a_t_isKept, .ref a_t_text, .int (z4 t_letters), .int (z4 t_at), .int (z4 t_tokenAt), .int (z4 t_tokenSort), .int (z4 t_tokenValue), .int (z4 t_items), .int (z4 t_isChanceTold), .int (z4 t_areSumsTold), .ref a_t_metAt, .ref a_t_memoryAt, .ref a_t_upAt, .ref a_t_downAt, .ref a_t_isSignal, .ref a_t_memories, .ref a_t_placeOf, .ref a_t_nextPlace, .int (z4 t_places), .ref a_t_kindOf, .ref a_t_newKind, .int (z4 t_kinds), .ref a_t_stateOfKind, .ref a_t_stateAt, .ref a_t_stepTo, .int (z4 t_states), .ref a_t_far, .ref a_t_ways, .ref a_t_nextWays, .ref a_t_table])), (a_t_now, .inl (E 0, 98, .inl (A4 t_now))), (a_t_placeOf, .inl (E 0, 64, .inl (A4 t_placeOf))), (a_t_memories, .inl (E 0, 64, .inl (A4 t_memories))), (a_t_nextPlace, .inl (E 0, 320, .inl (A4 t_nextPlace))), (a_t_kindOf, .inl (E 0, 64, .inl (A4 t_kindOf))), (a_t_newKind, .inl (E 0, 64, .inl (A4 t_newKind))), (a_t_stateOfKind, .inl (E 0, 64, .inl (A4 t_stateOfKind))), (a_t_stateAt, .inl (E 0, 64, .inl (A4 t_stateAt))), (a_t_stepTo, .inl (E 0, 320, .inl (A4 t_stepTo))), (a_t_metAt, .inl (E 0, 40, .inl (A4 o8.1))), (a_t_memoryAt, .inl (E 0, 40, .inl (A4 o8.2.1))), (a_t_isSignal, .inl (E 1, 40, .inl (A4 o8.2.2.1))), (a_t_upAt, .inl (E 0, 40, .inl (A4 o8.2.2.2.1))), (a_t_downAt, .inl (E 0, 40, .inl (A4 o8.2.2.2.2)))] H → va_D A [(a_t, .inr (12, [.ref a_t_now, .ref a_t_read, .ref a_t_past, .int (z4 t_deeds), .ref a_t_images, .ref a_t_isKept, .ref a_t_text, .int (z4 t_letters), .int (z4 t_at), .int (z4 t_tokenAt), .int (z4 t_tokenSort), .int (z4 t_tokenValue), .int (z4 t_items), .int (z4 t_isChanceTold), .int (z4 t_areSumsTold), .ref a_t_metAt, .ref a_t_memoryAt, .ref a_t_upAt, .ref a_t_downAt, .ref a_t_isSignal, .ref a_t_memories, .ref a_t_placeOf, .ref a_t_nextPlace, .int (z4 t_places), .ref a_t_kindOf, .ref a_t_newKind, .int (z4 t_kinds), .ref a_t_stateOfKind, .ref a_t_stateAt, .ref a_t_stepTo, .int (z4 t_states), .ref a_t_far, .ref a_t_ways, .ref a_t_nextWays, .ref a_t_table])), (a_t_now, .inl (E 0, 98, .inl (A4 t_now))), (a_t_placeOf, .inl (E 0, 64, .inl (A4 t_placeOf))), (a_t_memories, .inl (E 0, 64, .inl (A4 t_memories))), (a_t_nextPlace, .inl (E 0, 320, .inl (A4 t_nextPlace))), (a_t_kindOf, .inl (E 0, 64, .inl (A4 t_kindOf))), (a_t_newKind, .inl (E 0, 64, .inl (A4 t_newKind))), (a_t_stateOfKind, .inl (E 0, 64, .inl (A4 t_stateOfKind))), (a_t_stateAt, .inl (E 0, 64, .inl (A4 t_stateAt))), (a_t_stepTo, .inl (E 0, 320, .inl (A4 t_stepTo))), (a_t_metAt, .inl (E 0, 40, .inl (A4 o8.1))), (a_t_memoryAt, .inl (E 0, 40, .inl (A4 o8.2.1))), (a_t_isSignal, .inl (E 1, 40, .inl (A4 o8.2.2.1))), (a_t_upAt, .inl (E 0, 40, .inl (A4 o8.2.2.2.1))), (a_t_downAt, .inl (E 0, 40, .inl (A4 o8.2.2.2.2)))] → va_S A s.heap H locs → W p l e rm_X12_count s m args below meth c H locs 0 0 Q (F0 m 166 ls [.int (z4 o_)]) := by
                    intro o_ ho_ H locs ls hl hP hD hS
                    subst ho_
                    obtain rfl := Option.some.inj hr9
                    exact ret _ _ _ _ hP hD hS dX12_count_166
                  obtain ⟨h10, hj9⟩ := ck_some hj9
                  refine m_if_ne X h10 dX12_count_145 (tgt := 152) (by decide) (fun (hc_ : ¬ (t_now 17 = 0)) => ?_) (fun (hc_ : t_now 17 = 0) => ?_)
                  · rw [if_neg hc_] at hj9
                    refine lv_aload_n hx hb dX12_count_152 rfl (lv_at hl 0 rfl) ?_
                    refine m_get X hK hP cl_X12 iT_X12 18 (by decide) fl_X12_38 0 rfl rfl dX12_count_153 ?_
                    refine lv_aload_n hx hb dX12_count_156 rfl (lv_at hl 0 rfl) ?_
                    refine m_get X hK hP cl_X12 iT_X12 0 (by decide) fl_X12_7 0 rfl rfl dX12_count_157 ?_
                    refine m_bipush X dX12_count_160 (by decide) ?_
                    refine m_iald X hK hP 1 rfl (by decide) (by decide) dX12_count_162 ?_
                    refine m_iconst X dX12_count_163 ?_
                    refine m_isub X dX12_count_164 ?_
                    obtain ⟨h11, hj9⟩ := ck_some hj9
                    refine m_iald X hK hP 14 rfl (by decide) h11 dX12_count_165 ?_
                    exact J9 _ (Option.some.inj hj9).symm _ _ _ (lv_sub hl [] rfl) hP hD hS
                  · rw [if_pos hc_] at hj9
                    refine m_iconst X dX12_count_148 ?_
                    refine lv_goto (tgt := 166) hx hb dX12_count_149 (by decide) ?_
                    exact J9 _ (Option.some.inj hj9).symm _ _ _ (lv_sub hl [] rfl) hP hD hS
                · rw [if_neg hc7] at hf
                  by_cases hc8 : x1 = 8
                  · rw [if_pos hc8] at hf
                    refine m_swIn X h1 8 hc8 (by decide) dX12_count_1 rfl (tgt := 167) (by decide) ?_
                    refine lv_aload_n hx hb dX12_count_167 rfl (lv_at hl 0 rfl) ?_
                    refine m_get X hK hP cl_X12 iT_X12 7 (by decide) fl_X12_102 0 rfl rfl dX12_count_168 ?_
                    obtain rfl := Option.some.inj hf
                    exact ret _ _ _ _ hP hD hS dX12_count_171
                  · rw [if_neg hc8] at hf
                    by_cases hc9 : x1 = 9
                    · rw [if_pos hc9] at hf
                      refine m_swIn X h1 9 hc9 (by decide) dX12_count_1 rfl (tgt := 172) (by decide) ?_
                      refine lv_aload_n hx hb dX12_count_172 rfl (lv_at hl 0 rfl) ?_
                      refine m_get X hK hP cl_X12 iT_X12 3 (by decide) fl_X12_162 0 rfl rfl dX12_count_173 ?_
                      obtain rfl := Option.some.inj hf
                      exact ret _ _ _ _ hP hD hS dX12_count_176
                    · rw [if_neg hc9] at hf
                      refine m_swOut X h1 (by omega) dX12_count_1 (tgt := 177) (by decide) ?_
                      refine m_iconst X dX12_count_177 ?_
                      obtain rfl := Option.some.inj hf
                      exact ret _ _ _ _ hP hD hS dX12_count_178
