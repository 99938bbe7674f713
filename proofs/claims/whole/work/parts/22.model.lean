def F_X12_ones_L4 (n : Nat) (x0 : Int) (v4_1 : Int) (v4_2 : Int) : Option ((Int × Int) ⊕ (Int)) :=
  ck (r4 v4_2) <|
  if v4_2 < 8 then
    ck (hR_ x0 v4_2) <|
    ck (nn (sr_ x0 v4_2) ∧ nn 1) <|
    some (.inl (v4_1 + (an_ (sr_ x0 v4_2) 1), v4_2 + 1))
  else
    some (.inr v4_1)
def F_X12_ones (n : Nat)   (x0 : Int) : Option (Int) :=
  (lp_ (fun (q : Int × Int) => F_X12_ones_L4 n x0 q.1 q.2) n (0, 0)).bind fun o1 =>
  some o1
def rm_X12_ones : Room := { frames := 0, cells := 0, slots := 0, locals := 0 }
set_option maxHeartbeats 4000000 in
set_option maxRecDepth 100000 in
theorem k_X12_ones {l : Launch} {D : va_G} {E : Nat → ClassId} (n : Nat) (x0 : Int) (res : Int) (hf : F_X12_ones n x0 = some res) : MR l yX12_ones (.code yX12_ones cX12_ones 3 (some .int)) rm_X12_ones D E [.int (z4 x0)] [] (some (.int (z4 res))) := by
  refine MRi (by decide) (Nat.le_of_ble_eq_true rfl) ?_
  intro p e s m args below meth c Q X hK hP ret ls hl
  have hx := X.1
  have hb := X.2.1
  have hl : lv_has ls 3 [(0, .int (z4 x0))] := hl
  unfold F_X12_ones at hf
  refine m_iconst X dX12_ones_0 ?_
  refine lv_istore_n (lv' := [(1, .int (z4 0)), (0, .int (z4 x0))]) hx hb dX12_ones_1 rfl hl (by decide) rfl (fun ls hl => ?_)
  refine m_iconst X dX12_ones_2 ?_
  refine lv_istore_n (lv' := [(2, .int (z4 0)), (1, .int (z4 0)), (0, .int (z4 x0))]) hx hb dX12_ones_3 rfl hl (by decide) rfl (fun ls hl => ?_)
  obtain ⟨o1, hj1, hr1⟩ := bd_some hf
  have E1_0 : ∀ (o_ : Int), o1 = o_ → ∀ (ls : Array Slot), lv_has ls 3 [(1, .int (z4 o_))] → W p l e rm_X12_ones s m args below meth c s.heap [] 0 0 Q (F0 m 24 ls []) := by
    intro o_ ho_ ls hl 
    subst ho_
    refine lv_iload_n hx hb dX12_ones_24 rfl (lv_at hl 0 rfl) ?_
    obtain rfl := Option.some.inj hr1
    exact ret _ _ dX12_ones_25
  have L1 : ∀ (k_ : Nat) (v4_1 : Int) (v4_2 : Int), ∀ (ls : Array Slot), lv_has ls 3 [(0, .int (z4 x0)), (1, .int (z4 v4_1)), (2, .int (z4 v4_2))] → lp_ (fun (q : Int × Int) => F_X12_ones_L4 n x0 q.1 q.2) k_ (v4_1, v4_2) = some o1 → W p l e rm_X12_ones s m args below meth c s.heap [] 0 0 Q (F0 m 4 ls []) := by
    intro k_
    induction k_ with
    | zero =>
      intro v4_1 v4_2 ls hl  hq_; exact (lp_zero hq_).elim
    | succ k_ ih1 =>
      intro v4_1 v4_2 ls hl  hq_
      obtain ⟨t_1, hb1, hq1⟩ := lp_some hq_
      replace hb1 : F_X12_ones_L4 n x0 v4_1 v4_2 = some t_1 := hb1
      unfold F_X12_ones_L4 at hb1
      refine lv_iload_n hx hb dX12_ones_4 rfl (lv_at hl 2 rfl) ?_
      refine m_bipush X dX12_ones_5 (by decide) ?_
      obtain ⟨h2, hb1⟩ := ck_some hb1
      refine m_icmp_ge X ⟨h2, ⟨by decide, by decide⟩⟩ dX12_ones_7 (tgt := 24) (by decide) (fun (hc_ : ¬ (v4_2 < 8)) => ?_) (fun (hc_ : v4_2 < 8) => ?_)
      · rw [if_neg hc_] at hb1
        obtain rfl := Option.some.inj hb1
        exact E1_0 _ (Option.some.inj hq1).symm _ (lv_sub hl [1] rfl) 
      · rw [if_pos hc_] at hb1
        refine lv_iload_n hx hb dX12_ones_10 rfl (lv_at hl 1 rfl) ?_
        refine lv_iload_n hx hb dX12_ones_11 rfl (lv_at hl 0 rfl) ?_
        refine lv_iload_n hx hb dX12_ones_12 rfl (lv_at hl 2 rfl) ?_
        obtain ⟨h3, hb1⟩ := ck_some hb1
        refine m_ishr X h3 dX12_ones_13 ?_
        refine m_iconst X dX12_ones_14 ?_
        obtain ⟨h4, hb1⟩ := ck_some hb1
        refine m_iand X h4 dX12_ones_15 ?_
        refine m_iadd X dX12_ones_16 ?_
        refine lv_istore_n (lv' := [(1, .int (z4 (v4_1 + (an_ (sr_ x0 v4_2) 1)))), (0, .int (z4 x0)), (2, .int (z4 v4_2))]) hx hb dX12_ones_17 rfl hl (by decide) rfl (fun ls hl => ?_)
        refine m_iinc X 2 [(2, .int (z4 (v4_2 + 1))), (1, .int (z4 (v4_1 + (an_ (sr_ x0 v4_2) 1)))), (0, .int (z4 x0))] dX12_ones_18 hl rfl (by decide) rfl (fun ls hl => ?_)
        refine lv_goto (tgt := 4) hx hb dX12_ones_21 (by decide) ?_
        obtain rfl := Option.some.inj hb1
        exact ih1 _ _ _ (lv_sub hl [2, 1, 0] rfl)  hq1
  exact L1 n _ _ _ (lv_sub hl [2, 1, 0] rfl)  hj1
def F_X12_metBy_L8 (n : Nat) (t_now : Nat → Int) (x1 : Int) (x2 : Int) (v8_3 : Int) (v8_4 : Int) (v8_5 : Int) : Option ((Int × Int × Int) ⊕ (Int)) :=
  ck (r4 v8_5 ∧ r4 (t_now 0)) <|
  if v8_5 < t_now 0 then
    ck (ix_ ((1 + (3 * v8_5)) + 1) 98) <|
    ck (hR_ x1 v8_4) <|
    ck (hS_ 1 ((t_now ((1 + (3 * v8_5)) + 1).toNat) - 1)) <|
    ck (nn (sr_ x1 v8_4) ∧ nn ((sl_ 1 ((t_now ((1 + (3 * v8_5)) + 1).toNat) - 1)) - 1)) <|
    ck (ix_ ((1 + (3 * v8_5)) + 2) 98) <|
    ck (hR_ (t_now ((1 + (3 * v8_5)) + 2).toNat) x2) <|
    ck (nn (sr_ (t_now ((1 + (3 * v8_5)) + 2).toNat) x2) ∧ nn 1) <|
    (F_X12_ones n (an_ (sr_ x1 v8_4) ((sl_ 1 ((t_now ((1 + (3 * v8_5)) + 1).toNat) - 1)) - 1))).bind fun o10 =>
    ck (ix_ (1 + (3 * v8_5)) 98) <|
    Option.bind (α := Int) (
      ck (r4 (o10 + (an_ (sr_ (t_now ((1 + (3 * v8_5)) + 2).toNat) x2) 1)) ∧ r4 (t_now (1 + (3 * v8_5)).toNat)) <|
      if o10 + (an_ (sr_ (t_now ((1 + (3 * v8_5)) + 2).toNat) x2) 1) < t_now (1 + (3 * v8_5)).toNat then
        some 0
      else
        ck (hS_ 1 v8_5) <|
        some (sl_ 1 v8_5)) fun o12 =>
    ck (nn v8_3 ∧ nn o12) <|
    some (.inl (or_ v8_3 o12, v8_4 + ((t_now ((1 + (3 * v8_5)) + 1).toNat) - 1), v8_5 + 1))
  else
    some (.inr v8_3)
def F_X12_metBy (n : Nat)  (t_now : Nat → Int) (x1 : Int) (x2 : Int) : Option (Int) :=
  (lp_ (fun (q : Int × Int × Int) => F_X12_metBy_L8 n t_now x1 x2 q.1 q.2.1 q.2.2) n (0, 0, 0)).bind fun o1 =>
  some o1
def rm_X12_metBy : Room := { frames := 1, cells := 0, slots := 0, locals := 22 }
set_option maxHeartbeats 4000000 in
set_option maxRecDepth 100000 in
theorem k_X12_metBy {l : Launch} {D : va_G} {E : Nat → ClassId} (n : Nat) (a_t a_t_now a_t_read a_t_past a_t_images a_t_isKept a_t_text a_t_metAt a_t_memoryAt a_t_upAt a_t_downAt a_t_isSignal a_t_memories a_t_placeOf a_t_nextPlace a_t_kindOf a_t_newKind a_t_stateOfKind a_t_stateAt a_t_stepTo a_t_far a_t_ways a_t_nextWays a_t_table : Nat) (t_deeds : Int) (t_letters : Int) (t_at : Int) (t_tokenAt : Int) (t_tokenSort : Int) (t_tokenValue : Int) (t_items : Int) (t_isChanceTold : Int) (t_areSumsTold : Int) (t_places : Int) (t_kinds : Int) (t_states : Int) (t_now : Nat → Int) (x1 : Int) (x2 : Int) (res : Int) (hf : F_X12_metBy n t_now x1 x2 = some res) : MR l yX12_metBy (.code yX12_metBy cX12_metBy 9 (some .int)) rm_X12_metBy D E [.ref a_t, .int (z4 x1), .int (z4 x2)] [(a_t, .inr (12, [.ref a_t_now, .ref a_t_read, .ref a_t_past, .int (z4 t_deeds), .ref a_t_images, .ref a_t_isKept, .ref a_t_text, .int (z4 t_letters), .int (z4 t_at), .int (z4 t_tokenAt), .int (z4 t_tokenSort), .int (z4 t_tokenValue), .int (z4 t_items), .int (z4 t_isChanceTold), .int (z4 t_areSumsTold), .ref a_t_metAt, .ref a_t_memoryAt, .ref a_t_upAt, .ref a_t_downAt, .ref a_t_isSignal, .ref a_t_memories, .ref a_t_placeOf, .ref a_t_nextPlace, .int (z4 t_places), .ref a_t_kindOf, .ref a_t_newKind, .int (z4 t_kinds), .ref a_t_stateOfKind, .ref a_t_stateAt, .ref a_t_stepTo, .int (z4 t_states), .ref a_t_far, .ref a_t_ways, .ref a_t_nextWays, .ref a_t_table])), (a_t_now, .inl (E 0, 98, .inl (A4 t_now)))] (some (.int (z4 res))) := by
  refine MRi (by decide) (Nat.le_of_ble_eq_true rfl) ?_
  intro p e s m args below meth c Q X hK hP ret ls hl
  have hx := X.1
  have hb := X.2.1
  have hl : lv_has ls 9 [(0, .ref a_t), (1, .int (z4 x1)), (2, .int (z4 x2))] := hl
  unfold F_X12_metBy at hf
  refine m_iconst X dX12_metBy_0 ?_
  refine lv_istore_n (lv' := [(3, .int (z4 0)), (0, .ref a_t), (1, .int (z4 x1)), (2, .int (z4 x2))]) hx hb dX12_metBy_1 rfl hl (by decide) rfl (fun ls hl => ?_)
  refine m_iconst X dX12_metBy_2 ?_
  refine lv_istore (lv' := [(4, .int (z4 0)), (3, .int (z4 0)), (0, .ref a_t), (1, .int (z4 x1)), (2, .int (z4 x2))]) hx hb dX12_metBy_3 hl (by decide) rfl (fun ls hl => ?_)
  refine m_iconst X dX12_metBy_5 ?_
  refine lv_istore (lv' := [(5, .int (z4 0)), (4, .int (z4 0)), (3, .int (z4 0)), (0, .ref a_t), (1, .int (z4 x1)), (2, .int (z4 x2))]) hx hb dX12_metBy_6 hl (by decide) rfl (fun ls hl => ?_)
  obtain ⟨o1, hj1, hr1⟩ := bd_some hf
  have E1_0 : ∀ (o_ : Int), o1 = o_ → ∀ (ls : Array Slot), lv_has ls 9 [(3, .int (z4 o_))] → W p l e rm_X12_metBy s m args below meth c s.heap [] 0 0 Q (F0 m 114 ls []) := by
    intro o_ ho_ ls hl 
    subst ho_
    refine lv_iload_n hx hb dX12_metBy_114 rfl (lv_at hl 0 rfl) ?_
    obtain rfl := Option.some.inj hr1
    exact ret _ _ dX12_metBy_115
  have L1 : ∀ (k_ : Nat) (v8_3 : Int) (v8_4 : Int) (v8_5 : Int), ∀ (ls : Array Slot), lv_has ls 9 [(0, .ref a_t), (1, .int (z4 x1)), (2, .int (z4 x2)), (3, .int (z4 v8_3)), (4, .int (z4 v8_4)), (5, .int (z4 v8_5))] → lp_ (fun (q : Int × Int × Int) => F_X12_metBy_L8 n t_now x1 x2 q.1 q.2.1 q.2.2) k_ (v8_3, v8_4, v8_5) = some o1 → W p l e rm_X12_metBy s m args below meth c s.heap [] 0 0 Q (F0 m 8 ls []) := by
    intro k_
    induction k_ with
    | zero =>
      intro v8_3 v8_4 v8_5 ls hl  hq_; exact (lp_zero hq_).elim
    | succ k_ ih1 =>
      intro v8_3 v8_4 v8_5 ls hl  hq_
      obtain ⟨t_1, hb1, hq1⟩ := lp_some hq_
      replace hb1 : F_X12_metBy_L8 n t_now x1 x2 v8_3 v8_4 v8_5 = some t_1 := hb1
      unfold F_X12_metBy_L8 at hb1
      refine lv_iload hx hb dX12_metBy_8 (lv_at hl 5 rfl) ?_
      refine lv_aload_n hx hb dX12_metBy_10 rfl (lv_at hl 0 rfl) ?_
      refine m_get X hK hP cl_X12 iT_X12 0 (by decide) fl_X12_7 0 rfl rfl dX12_metBy_11 ?_
      refine m_iconst X dX12_metBy_14 ?_
      refine m_iald X hK hP 1 rfl (by decide) (by decide) dX12_metBy_15 ?_
      obtain ⟨h2, hb1⟩ := ck_some hb1
      refine m_icmp_ge X h2 dX12_metBy_16 (tgt := 114) (by decide) (fun (hc_ : ¬ (v8_5 < t_now 0)) => ?_) (fun (hc_ : v8_5 < t_now 0) => ?_)
      · rw [if_neg hc_] at hb1
        obtain rfl := Option.some.inj hb1
        exact E1_0 _ (Option.some.inj hq1).symm _ (lv_sub hl [3] rfl) 
      · rw [if_pos hc_] at hb1
        refine lv_aload_n hx hb dX12_metBy_19 rfl (lv_at hl 0 rfl) ?_
        refine m_get X hK hP cl_X12 iT_X12 0 (by decide) fl_X12_7 0 rfl rfl dX12_metBy_20 ?_
        refine m_iconst X dX12_metBy_23 ?_
        refine m_iconst X dX12_metBy_24 ?_
        refine lv_iload hx hb dX12_metBy_25 (lv_at hl 5 rfl) ?_
        refine m_imul X dX12_metBy_27 ?_
        refine m_iadd X dX12_metBy_28 ?_
        refine m_iconst X dX12_metBy_29 ?_
        refine m_iadd X dX12_metBy_30 ?_
        obtain ⟨h3, hb1⟩ := ck_some hb1
        refine m_iald X hK hP 1 rfl (by decide) h3 dX12_metBy_31 ?_
        refine m_iconst X dX12_metBy_32 ?_
        refine m_isub X dX12_metBy_33 ?_
        refine lv_istore (lv' := [(6, .int (z4 ((t_now ((1 + (3 * v8_5)) + 1).toNat) - 1))), (0, .ref a_t), (1, .int (z4 x1)), (2, .int (z4 x2)), (3, .int (z4 v8_3)), (4, .int (z4 v8_4)), (5, .int (z4 v8_5))]) hx hb dX12_metBy_34 hl (by decide) rfl (fun ls hl => ?_)
        refine lv_iload_n hx hb dX12_metBy_36 rfl (lv_at hl 2 rfl) ?_
        refine lv_iload hx hb dX12_metBy_37 (lv_at hl 5 rfl) ?_
        obtain ⟨h4, hb1⟩ := ck_some hb1
        refine m_ishr X h4 dX12_metBy_39 ?_
        refine m_iconst X dX12_metBy_40 ?_
        refine lv_iload hx hb dX12_metBy_41 (lv_at hl 0 rfl) ?_
        obtain ⟨h5, hb1⟩ := ck_some hb1
        refine m_ishl X h5 dX12_metBy_43 ?_
        refine m_iconst X dX12_metBy_44 ?_
        refine m_isub X dX12_metBy_45 ?_
        obtain ⟨h6, hb1⟩ := ck_some hb1
        refine m_iand X h6 dX12_metBy_46 ?_
        refine lv_istore (lv' := [(7, .int (z4 (an_ (sr_ x1 v8_4) ((sl_ 1 ((t_now ((1 + (3 * v8_5)) + 1).toNat) - 1)) - 1)))), (6, .int (z4 ((t_now ((1 + (3 * v8_5)) + 1).toNat) - 1))), (0, .ref a_t), (1, .int (z4 x1)), (2, .int (z4 x2)), (3, .int (z4 v8_3)), (4, .int (z4 v8_4)), (5, .int (z4 v8_5))]) hx hb dX12_metBy_47 hl (by decide) rfl (fun ls hl => ?_)
        refine lv_aload_n hx hb dX12_metBy_49 rfl (lv_at hl 2 rfl) ?_
        refine m_get X hK hP cl_X12 iT_X12 0 (by decide) fl_X12_7 0 rfl rfl dX12_metBy_50 ?_
        refine m_iconst X dX12_metBy_53 ?_
        refine m_iconst X dX12_metBy_54 ?_
        refine lv_iload hx hb dX12_metBy_55 (lv_at hl 7 rfl) ?_
        refine m_imul X dX12_metBy_57 ?_
        refine m_iadd X dX12_metBy_58 ?_
        refine m_iconst X dX12_metBy_59 ?_
        refine m_iadd X dX12_metBy_60 ?_
        obtain ⟨h7, hb1⟩ := ck_some hb1
        refine m_iald X hK hP 1 rfl (by decide) h7 dX12_metBy_61 ?_
        refine lv_iload_n hx hb dX12_metBy_62 rfl (lv_at hl 4 rfl) ?_
        obtain ⟨h8, hb1⟩ := ck_some hb1
        refine m_ishr X h8 dX12_metBy_63 ?_
        refine m_iconst X dX12_metBy_64 ?_
        obtain ⟨h9, hb1⟩ := ck_some hb1
        refine m_iand X h9 dX12_metBy_65 ?_
        refine lv_istore (lv' := [(8, .int (z4 (an_ (sr_ (t_now ((1 + (3 * v8_5)) + 2).toNat) x2) 1))), (7, .int (z4 (an_ (sr_ x1 v8_4) ((sl_ 1 ((t_now ((1 + (3 * v8_5)) + 1).toNat) - 1)) - 1)))), (6, .int (z4 ((t_now ((1 + (3 * v8_5)) + 1).toNat) - 1))), (0, .ref a_t), (1, .int (z4 x1)), (2, .int (z4 x2)), (3, .int (z4 v8_3)), (4, .int (z4 v8_4)), (5, .int (z4 v8_5))]) hx hb dX12_metBy_66 hl (by decide) rfl (fun ls hl => ?_)
        refine lv_iload_n hx hb dX12_metBy_68 rfl (lv_at hl 6 rfl) ?_
        refine lv_iload hx hb dX12_metBy_69 (lv_at hl 1 rfl) ?_
        obtain ⟨o10, ho, hb1⟩ := bd_some hb1
        refine m_cSR X hK (k_X12_ones n (an_ (sr_ x1 v8_4) ((sl_ 1 ((t_now ((1 + (3 * v8_5)) + 1).toNat) - 1)) - 1)) o10 ho) (hP.sub (ws' := []) [] rfl) lk_X12_175 co_X12_ones dy_X12_ones rfl rfl ⟨Nat.le_of_ble_eq_true rfl, Nat.le_of_ble_eq_true rfl⟩ hl.1 rfl (Nat.le_of_ble_eq_true rfl) dX12_metBy_71 (Nat.zero_le _) (Nat.zero_le _) ?_
        refine lv_iload hx hb dX12_metBy_74 (lv_at hl 0 rfl) ?_
        refine m_iadd X dX12_metBy_76 ?_
        refine lv_aload_n hx hb dX12_metBy_77 rfl (lv_at hl 3 rfl) ?_
        refine m_get X hK hP cl_X12 iT_X12 0 (by decide) fl_X12_7 0 rfl rfl dX12_metBy_78 ?_
        refine m_iconst X dX12_metBy_81 ?_
        refine m_iconst X dX12_metBy_82 ?_
        refine lv_iload hx hb dX12_metBy_83 (lv_at hl 8 rfl) ?_
        refine m_imul X dX12_metBy_85 ?_
        refine m_iadd X dX12_metBy_86 ?_
        obtain ⟨h11, hb1⟩ := ck_some hb1
        refine m_iald X hK hP 1 rfl (by decide) h11 dX12_metBy_87 ?_
        obtain ⟨o12, hj12, hr12⟩ := bd_some hb1
        have J12 : ∀ (o_ : Int), o12 = o_ → ∀ (ls : Array Slot), lv_has ls 9 [(0, .ref a_t), (1, .int (z4 x1)), (2, .int (z4 x2)), (4, .int (z4 v8_4)), (5, .int (z4 v8_5)), (6, .int (z4 ((t_now ((1 + (3 * v8_5)) + 1).toNat) - 1)))] → W p l e rm_X12_metBy s m args below meth c s.heap [] 0 0 Q (F0 m 99 ls [.int (z4 o_), .int (z4 v8_3)]) := by
          intro o_ ho_ ls hl 
          subst ho_
          obtain ⟨h15, hr12⟩ := ck_some hr12
          refine m_ior X h15 dX12_metBy_99 ?_
          refine lv_istore_n (lv' := [(3, .int (z4 (or_ v8_3 o12))), (0, .ref a_t), (1, .int (z4 x1)), (2, .int (z4 x2)), (4, .int (z4 v8_4)), (5, .int (z4 v8_5)), (6, .int (z4 ((t_now ((1 + (3 * v8_5)) + 1).toNat) - 1)))]) hx hb dX12_metBy_100 rfl hl (by decide) rfl (fun ls hl => ?_)
          refine lv_iload hx hb dX12_metBy_101 (lv_at hl 4 rfl) ?_
          refine lv_iload hx hb dX12_metBy_103 (lv_at hl 6 rfl) ?_
          refine m_iadd X dX12_metBy_105 ?_
          refine lv_istore (lv' := [(4, .int (z4 (v8_4 + ((t_now ((1 + (3 * v8_5)) + 1).toNat) - 1)))), (3, .int (z4 (or_ v8_3 o12))), (0, .ref a_t), (1, .int (z4 x1)), (2, .int (z4 x2)), (5, .int (z4 v8_5)), (6, .int (z4 ((t_now ((1 + (3 * v8_5)) + 1).toNat) - 1)))]) hx hb dX12_metBy_106 hl (by decide) rfl (fun ls hl => ?_)
          refine m_iinc X 5 [(5, .int (z4 (v8_5 + 1))), (4, .int (z4 (v8_4 + ((t_now ((1 + (3 * v8_5)) + 1).toNat) - 1)))), (3, .int (z4 (or_ v8_3 o12))), (0, .ref a_t), (1, .int (z4 x1)), (2, .int (z4 x2)), (6, .int (z4 ((t_now ((1 + (3 * v8_5)) + 1).toNat) - 1)))] dX12_metBy_108 hl rfl (by decide) rfl (fun ls hl => ?_)
          refine lv_goto (tgt := 8) hx hb dX12_metBy_111 (by decide) ?_
          obtain rfl := Option.some.inj hr12
          exact ih1 _ _ _ _ (lv_sub hl [3, 4, 5, 2, 1, 0] rfl)  hq1
        obtain ⟨h13, hj12⟩ := ck_some hj12
        refine m_icmp_lt X h13 dX12_metBy_88 (tgt := 98) (by decide) (fun (hc_ : o10 + (an_ (sr_ (t_now ((1 + (3 * v8_5)) + 2).toNat) x2) 1) < t_now (1 + (3 * v8_5)).toNat) => ?_) (fun (hc_ : ¬ (o10 + (an_ (sr_ (t_now ((1 + (3 * v8_5)) + 2).toNat) x2) 1) < t_now (1 + (3 * v8_5)).toNat)) => ?_)
        · rw [if_pos hc_] at hj12
          refine m_iconst X dX12_metBy_98 ?_
          exact J12 _ (Option.some.inj hj12).symm _ (lv_sub hl [3, 4, 5, 7, 8, 2] rfl) 
        · rw [if_neg hc_] at hj12
          refine m_iconst X dX12_metBy_91 ?_
          refine lv_iload hx hb dX12_metBy_92 (lv_at hl 8 rfl) ?_
          obtain ⟨h14, hj12⟩ := ck_some hj12
          refine m_ishl X h14 dX12_metBy_94 ?_
          refine lv_goto (tgt := 99) hx hb dX12_metBy_95 (by decide) ?_
          exact J12 _ (Option.some.inj hj12).symm _ (lv_sub hl [3, 4, 5, 7, 8, 2] rfl) 
  exact L1 n _ _ _ _ (lv_sub hl [3, 4, 5, 2, 1, 0] rfl)  hj1
def F_X12_nextBy_L8 (n : Nat) (t_now : Nat → Int) (x1 : Int) (x2 : Int) (v8_3 : Int) (v8_4 : Int) (v8_5 : Int) : Option ((Int × Int × Int) ⊕ (Int)) :=
  ck (r4 v8_5 ∧ r4 (t_now 0)) <|
  if v8_5 < t_now 0 then
    ck (ix_ ((1 + (3 * v8_5)) + 1) 98) <|
    ck (hS_ 1 ((t_now ((1 + (3 * v8_5)) + 1).toNat) - 1)) <|
    ck (hR_ x1 v8_4) <|
    ck (nn (sr_ x1 v8_4) ∧ nn ((sl_ 1 ((t_now ((1 + (3 * v8_5)) + 1).toNat) - 1)) - 1)) <|
    ck (ix_ ((1 + (3 * v8_5)) + 2) 98) <|
    ck (hR_ (t_now ((1 + (3 * v8_5)) + 2).toNat) x2) <|
    ck (nn (sr_ (t_now ((1 + (3 * v8_5)) + 2).toNat) x2) ∧ nn 1) <|
    ck (nn ((2 * (an_ (sr_ x1 v8_4) ((sl_ 1 ((t_now ((1 + (3 * v8_5)) + 1).toNat) - 1)) - 1))) + (an_ (sr_ (t_now ((1 + (3 * v8_5)) + 2).toNat) x2) 1)) ∧ nn ((sl_ 1 ((t_now ((1 + (3 * v8_5)) + 1).toNat) - 1)) - 1)) <|
    ck (hS_ (an_ ((2 * (an_ (sr_ x1 v8_4) ((sl_ 1 ((t_now ((1 + (3 * v8_5)) + 1).toNat) - 1)) - 1))) + (an_ (sr_ (t_now ((1 + (3 * v8_5)) + 2).toNat) x2) 1)) ((sl_ 1 ((t_now ((1 + (3 * v8_5)) + 1).toNat) - 1)) - 1)) v8_4) <|
    ck (nn v8_3 ∧ nn (sl_ (an_ ((2 * (an_ (sr_ x1 v8_4) ((sl_ 1 ((t_now ((1 + (3 * v8_5)) + 1).toNat) - 1)) - 1))) + (an_ (sr_ (t_now ((1 + (3 * v8_5)) + 2).toNat) x2) 1)) ((sl_ 1 ((t_now ((1 + (3 * v8_5)) + 1).toNat) - 1)) - 1)) v8_4)) <|
    some (.inl (or_ v8_3 (sl_ (an_ ((2 * (an_ (sr_ x1 v8_4) ((sl_ 1 ((t_now ((1 + (3 * v8_5)) + 1).toNat) - 1)) - 1))) + (an_ (sr_ (t_now ((1 + (3 * v8_5)) + 2).toNat) x2) 1)) ((sl_ 1 ((t_now ((1 + (3 * v8_5)) + 1).toNat) - 1)) - 1)) v8_4), v8_4 + ((t_now ((1 + (3 * v8_5)) + 1).toNat) - 1), v8_5 + 1))
  else
    some (.inr v8_3)
def F_X12_nextBy (n : Nat)  (t_now : Nat → Int) (x1 : Int) (x2 : Int) : Option (Int) :=
  (lp_ (fun (q : Int × Int × Int) => F_X12_nextBy_L8 n t_now x1 x2 q.1 q.2.1 q.2.2) n (0, 0, 0)).bind fun o1 =>
  some o1
def rm_X12_nextBy : Room := { frames := 0, cells := 0, slots := 0, locals := 0 }
set_option maxHeartbeats 4000000 in
set_option maxRecDepth 100000 in
theorem k_X12_nextBy {l : Launch} {D : va_G} {E : Nat → ClassId} (n : Nat) (a_t a_t_now a_t_read a_t_past a_t_images a_t_isKept a_t_text a_t_metAt a_t_memoryAt a_t_upAt a_t_downAt a_t_isSignal a_t_memories a_t_placeOf a_t_nextPlace a_t_kindOf a_t_newKind a_t_stateOfKind a_t_stateAt a_t_stepTo a_t_far a_t_ways a_t_nextWays a_t_table : Nat) (t_deeds : Int) (t_letters : Int) (t_at : Int) (t_tokenAt : Int) (t_tokenSort : Int) (t_tokenValue : Int) (t_items : Int) (t_isChanceTold : Int) (t_areSumsTold : Int) (t_places : Int) (t_kinds : Int) (t_states : Int) (t_now : Nat → Int) (x1 : Int) (x2 : Int) (res : Int) (hf : F_X12_nextBy n t_now x1 x2 = some res) : MR l yX12_nextBy (.code yX12_nextBy cX12_nextBy 10 (some .int)) rm_X12_nextBy D E [.ref a_t, .int (z4 x1), .int (z4 x2)] [(a_t, .inr (12, [.ref a_t_now, .ref a_t_read, .ref a_t_past, .int (z4 t_deeds), .ref a_t_images, .ref a_t_isKept, .ref a_t_text, .int (z4 t_letters), .int (z4 t_at), .int (z4 t_tokenAt), .int (z4 t_tokenSort), .int (z4 t_tokenValue), .int (z4 t_items), .int (z4 t_isChanceTold), .int (z4 t_areSumsTold), .ref a_t_metAt, .ref a_t_memoryAt, .ref a_t_upAt, .ref a_t_downAt, .ref a_t_isSignal, .ref a_t_memories, .ref a_t_placeOf, .ref a_t_nextPlace, .int (z4 t_places), .ref a_t_kindOf, .ref a_t_newKind, .int (z4 t_kinds), .ref a_t_stateOfKind, .ref a_t_stateAt, .ref a_t_stepTo, .int (z4 t_states), .ref a_t_far, .ref a_t_ways, .ref a_t_nextWays, .ref a_t_table])), (a_t_now, .inl (E 0, 98, .inl (A4 t_now)))] (some (.int (z4 res))) := by
  refine MRi (by decide) (Nat.le_of_ble_eq_true rfl) ?_
  intro p e s m args below meth c Q X hK hP ret ls hl
  have hx := X.1
  have hb := X.2.1
  have hl : lv_has ls 10 [(0, .ref a_t), (1, .int (z4 x1)), (2, .int (z4 x2))] := hl
  unfold F_X12_nextBy at hf
  refine m_iconst X dX12_nextBy_0 ?_
  refine lv_istore_n (lv' := [(3, .int (z4 0)), (0, .ref a_t), (1, .int (z4 x1)), (2, .int (z4 x2))]) hx hb dX12_nextBy_1 rfl hl (by decide) rfl (fun ls hl => ?_)
  refine m_iconst X dX12_nextBy_2 ?_
  refine lv_istore (lv' := [(4, .int (z4 0)), (3, .int (z4 0)), (0, .ref a_t), (1, .int (z4 x1)), (2, .int (z4 x2))]) hx hb dX12_nextBy_3 hl (by decide) rfl (fun ls hl => ?_)
  refine m_iconst X dX12_nextBy_5 ?_
  refine lv_istore (lv' := [(5, .int (z4 0)), (4, .int (z4 0)), (3, .int (z4 0)), (0, .ref a_t), (1, .int (z4 x1)), (2, .int (z4 x2))]) hx hb dX12_nextBy_6 hl (by decide) rfl (fun ls hl => ?_)
  obtain ⟨o1, hj1, hr1⟩ := bd_some hf
  have E1_0 : ∀ (o_ : Int), o1 = o_ → ∀ (ls : Array Slot), lv_has ls 10 [(3, .int (z4 o_))] → W p l e rm_X12_nextBy s m args below meth c s.heap [] 0 0 Q (F0 m 101 ls []) := by
    intro o_ ho_ ls hl 
    subst ho_
    refine lv_iload_n hx hb dX12_nextBy_101 rfl (lv_at hl 0 rfl) ?_
    obtain rfl := Option.some.inj hr1
    exact ret _ _ dX12_nextBy_102
  have L1 : ∀ (k_ : Nat) (v8_3 : Int) (v8_4 : Int) (v8_5 : Int), ∀ (ls : Array Slot), lv_has ls 10 [(0, .ref a_t), (1, .int (z4 x1)), (2, .int (z4 x2)), (3, .int (z4 v8_3)), (4, .int (z4 v8_4)), (5, .int (z4 v8_5))] → lp_ (fun (q : Int × Int × Int) => F_X12_nextBy_L8 n t_now x1 x2 q.1 q.2.1 q.2.2) k_ (v8_3, v8_4, v8_5) = some o1 → W p l e rm_X12_nextBy s m args below meth c s.heap [] 0 0 Q (F0 m 8 ls []) := by
    intro k_
    induction k_ with
    | zero =>
      intro v8_3 v8_4 v8_5 ls hl  hq_; exact (lp_zero hq_).elim
    | succ k_ ih1 =>
      intro v8_3 v8_4 v8_5 ls hl  hq_
      obtain ⟨t_1, hb1, hq1⟩ := lp_some hq_
      replace hb1 : F_X12_nextBy_L8 n t_now x1 x2 v8_3 v8_4 v8_5 = some t_1 := hb1
      unfold F_X12_nextBy_L8 at hb1
      refine lv_iload hx hb dX12_nextBy_8 (lv_at hl 5 rfl) ?_
      refine lv_aload_n hx hb dX12_nextBy_10 rfl (lv_at hl 0 rfl) ?_
      refine m_get X hK hP cl_X12 iT_X12 0 (by decide) fl_X12_7 0 rfl rfl dX12_nextBy_11 ?_
      refine m_iconst X dX12_nextBy_14 ?_
      refine m_iald X hK hP 1 rfl (by decide) (by decide) dX12_nextBy_15 ?_
      obtain ⟨h2, hb1⟩ := ck_some hb1
      refine m_icmp_ge X h2 dX12_nextBy_16 (tgt := 101) (by decide) (fun (hc_ : ¬ (v8_5 < t_now 0)) => ?_) (fun (hc_ : v8_5 < t_now 0) => ?_)
      · rw [if_neg hc_] at hb1
        obtain rfl := Option.some.inj hb1
        exact E1_0 _ (Option.some.inj hq1).symm _ (lv_sub hl [3] rfl) 
      · rw [if_pos hc_] at hb1
        refine lv_aload_n hx hb dX12_nextBy_19 rfl (lv_at hl 0 rfl) ?_
        refine m_get X hK hP cl_X12 iT_X12 0 (by decide) fl_X12_7 0 rfl rfl dX12_nextBy_20 ?_
        refine m_iconst X dX12_nextBy_23 ?_
        refine m_iconst X dX12_nextBy_24 ?_
        refine lv_iload hx hb dX12_nextBy_25 (lv_at hl 5 rfl) ?_
        refine m_imul X dX12_nextBy_27 ?_
        refine m_iadd X dX12_nextBy_28 ?_
        refine m_iconst X dX12_nextBy_29 ?_
        refine m_iadd X dX12_nextBy_30 ?_
        obtain ⟨h3, hb1⟩ := ck_some hb1
        refine m_iald X hK hP 1 rfl (by decide) h3 dX12_nextBy_31 ?_
        refine m_iconst X dX12_nextBy_32 ?_
        refine m_isub X dX12_nextBy_33 ?_
        refine lv_istore (lv' := [(6, .int (z4 ((t_now ((1 + (3 * v8_5)) + 1).toNat) - 1))), (0, .ref a_t), (1, .int (z4 x1)), (2, .int (z4 x2)), (3, .int (z4 v8_3)), (4, .int (z4 v8_4)), (5, .int (z4 v8_5))]) hx hb dX12_nextBy_34 hl (by decide) rfl (fun ls hl => ?_)
        refine m_iconst X dX12_nextBy_36 ?_
        refine lv_iload hx hb dX12_nextBy_37 (lv_at hl 0 rfl) ?_
        obtain ⟨h4, hb1⟩ := ck_some hb1
        refine m_ishl X h4 dX12_nextBy_39 ?_
        refine m_iconst X dX12_nextBy_40 ?_
        refine m_isub X dX12_nextBy_41 ?_
        refine lv_istore (lv' := [(7, .int (z4 ((sl_ 1 ((t_now ((1 + (3 * v8_5)) + 1).toNat) - 1)) - 1))), (6, .int (z4 ((t_now ((1 + (3 * v8_5)) + 1).toNat) - 1))), (0, .ref a_t), (1, .int (z4 x1)), (2, .int (z4 x2)), (3, .int (z4 v8_3)), (4, .int (z4 v8_4)), (5, .int (z4 v8_5))]) hx hb dX12_nextBy_42 hl (by decide) rfl (fun ls hl => ?_)
        refine lv_iload_n hx hb dX12_nextBy_44 rfl (lv_at hl 3 rfl) ?_
        refine lv_iload hx hb dX12_nextBy_45 (lv_at hl 6 rfl) ?_
        obtain ⟨h5, hb1⟩ := ck_some hb1
        refine m_ishr X h5 dX12_nextBy_47 ?_
        refine lv_iload hx hb dX12_nextBy_48 (lv_at hl 0 rfl) ?_
        obtain ⟨h6, hb1⟩ := ck_some hb1
        refine m_iand X h6 dX12_nextBy_50 ?_
        refine lv_istore (lv' := [(8, .int (z4 (an_ (sr_ x1 v8_4) ((sl_ 1 ((t_now ((1 + (3 * v8_5)) + 1).toNat) - 1)) - 1)))), (7, .int (z4 ((sl_ 1 ((t_now ((1 + (3 * v8_5)) + 1).toNat) - 1)) - 1))), (6, .int (z4 ((t_now ((1 + (3 * v8_5)) + 1).toNat) - 1))), (0, .ref a_t), (1, .int (z4 x1)), (2, .int (z4 x2)), (3, .int (z4 v8_3)), (4, .int (z4 v8_4)), (5, .int (z4 v8_5))]) hx hb dX12_nextBy_51 hl (by decide) rfl (fun ls hl => ?_)
        refine lv_aload_n hx hb dX12_nextBy_53 rfl (lv_at hl 3 rfl) ?_
        refine m_get X hK hP cl_X12 iT_X12 0 (by decide) fl_X12_7 0 rfl rfl dX12_nextBy_54 ?_
        refine m_iconst X dX12_nextBy_57 ?_
        refine m_iconst X dX12_nextBy_58 ?_
        refine lv_iload hx hb dX12_nextBy_59 (lv_at hl 8 rfl) ?_
        refine m_imul X dX12_nextBy_61 ?_
        refine m_iadd X dX12_nextBy_62 ?_
        refine m_iconst X dX12_nextBy_63 ?_
        refine m_iadd X dX12_nextBy_64 ?_
        obtain ⟨h7, hb1⟩ := ck_some hb1
        refine m_iald X hK hP 1 rfl (by decide) h7 dX12_nextBy_65 ?_
        refine lv_iload_n hx hb dX12_nextBy_66 rfl (lv_at hl 5 rfl) ?_
        obtain ⟨h8, hb1⟩ := ck_some hb1
        refine m_ishr X h8 dX12_nextBy_67 ?_
        refine m_iconst X dX12_nextBy_68 ?_
        obtain ⟨h9, hb1⟩ := ck_some hb1
        refine m_iand X h9 dX12_nextBy_69 ?_
        refine lv_istore (lv' := [(9, .int (z4 (an_ (sr_ (t_now ((1 + (3 * v8_5)) + 2).toNat) x2) 1))), (8, .int (z4 (an_ (sr_ x1 v8_4) ((sl_ 1 ((t_now ((1 + (3 * v8_5)) + 1).toNat) - 1)) - 1)))), (7, .int (z4 ((sl_ 1 ((t_now ((1 + (3 * v8_5)) + 1).toNat) - 1)) - 1))), (6, .int (z4 ((t_now ((1 + (3 * v8_5)) + 1).toNat) - 1))), (0, .ref a_t), (1, .int (z4 x1)), (2, .int (z4 x2)), (3, .int (z4 v8_3)), (4, .int (z4 v8_4)), (5, .int (z4 v8_5))]) hx hb dX12_nextBy_70 hl (by decide) rfl (fun ls hl => ?_)
        refine lv_iload_n hx hb dX12_nextBy_72 rfl (lv_at hl 7 rfl) ?_
        refine m_iconst X dX12_nextBy_73 ?_
        refine lv_iload hx hb dX12_nextBy_74 (lv_at hl 1 rfl) ?_
        refine m_imul X dX12_nextBy_76 ?_
        refine lv_iload hx hb dX12_nextBy_77 (lv_at hl 0 rfl) ?_
        refine m_iadd X dX12_nextBy_79 ?_
        refine lv_iload hx hb dX12_nextBy_80 (lv_at hl 2 rfl) ?_
        obtain ⟨h10, hb1⟩ := ck_some hb1
        refine m_iand X h10 dX12_nextBy_82 ?_
        refine lv_iload hx hb dX12_nextBy_83 (lv_at hl 8 rfl) ?_
        obtain ⟨h11, hb1⟩ := ck_some hb1
        refine m_ishl X h11 dX12_nextBy_85 ?_
        obtain ⟨h12, hb1⟩ := ck_some hb1
        refine m_ior X h12 dX12_nextBy_86 ?_
        refine lv_istore_n (lv' := [(3, .int (z4 (or_ v8_3 (sl_ (an_ ((2 * (an_ (sr_ x1 v8_4) ((sl_ 1 ((t_now ((1 + (3 * v8_5)) + 1).toNat) - 1)) - 1))) + (an_ (sr_ (t_now ((1 + (3 * v8_5)) + 2).toNat) x2) 1)) ((sl_ 1 ((t_now ((1 + (3 * v8_5)) + 1).toNat) - 1)) - 1)) v8_4)))), (9, .int (z4 (an_ (sr_ (t_now ((1 + (3 * v8_5)) + 2).toNat) x2) 1))), (8, .int (z4 (an_ (sr_ x1 v8_4) ((sl_ 1 ((t_now ((1 + (3 * v8_5)) + 1).toNat) - 1)) - 1)))), (7, .int (z4 ((sl_ 1 ((t_now ((1 + (3 * v8_5)) + 1).toNat) - 1)) - 1))), (6, .int (z4 ((t_now ((1 + (3 * v8_5)) + 1).toNat) - 1))), (0, .ref a_t), (1, .int (z4 x1)), (2, .int (z4 x2)), (4, .int (z4 v8_4)), (5, .int (z4 v8_5))]) hx hb dX12_nextBy_87 rfl hl (by decide) rfl (fun ls hl => ?_)
        refine lv_iload hx hb dX12_nextBy_88 (lv_at hl 8 rfl) ?_
        refine lv_iload hx hb dX12_nextBy_90 (lv_at hl 4 rfl) ?_
        refine m_iadd X dX12_nextBy_92 ?_
        refine lv_istore (lv' := [(4, .int (z4 (v8_4 + ((t_now ((1 + (3 * v8_5)) + 1).toNat) - 1)))), (3, .int (z4 (or_ v8_3 (sl_ (an_ ((2 * (an_ (sr_ x1 v8_4) ((sl_ 1 ((t_now ((1 + (3 * v8_5)) + 1).toNat) - 1)) - 1))) + (an_ (sr_ (t_now ((1 + (3 * v8_5)) + 2).toNat) x2) 1)) ((sl_ 1 ((t_now ((1 + (3 * v8_5)) + 1).toNat) - 1)) - 1)) v8_4)))), (9, .int (z4 (an_ (sr_ (t_now ((1 + (3 * v8_5)) + 2).toNat) x2) 1))), (8, .int (z4 (an_ (sr_ x1 v8_4) ((sl_ 1 ((t_now ((1 + (3 * v8_5)) + 1).toNat) - 1)) - 1)))), (7, .int (z4 ((sl_ 1 ((t_now ((1 + (3 * v8_5)) + 1).toNat) - 1)) - 1))), (6, .int (z4 ((t_now ((1 + (3 * v8_5)) + 1).toNat) - 1))), (0, .ref a_t), (1, .int (z4 x1)), (2, .int (z4 x2)), (5, .int (z4 v8_5))]) hx hb dX12_nextBy_93 hl (by decide) rfl (fun ls hl => ?_)
        refine m_iinc X 9 [(5, .int (z4 (v8_5 + 1))), (4, .int (z4 (v8_4 + ((t_now ((1 + (3 * v8_5)) + 1).toNat) - 1)))), (3, .int (z4 (or_ v8_3 (sl_ (an_ ((2 * (an_ (sr_ x1 v8_4) ((sl_ 1 ((t_now ((1 + (3 * v8_5)) + 1).toNat) - 1)) - 1))) + (an_ (sr_ (t_now ((1 + (3 * v8_5)) + 2).toNat) x2) 1)) ((sl_ 1 ((t_now ((1 + (3 * v8_5)) + 1).toNat) - 1)) - 1)) v8_4)))), (9, .int (z4 (an_ (sr_ (t_now ((1 + (3 * v8_5)) + 2).toNat) x2) 1))), (8, .int (z4 (an_ (sr_ x1 v8_4) ((sl_ 1 ((t_now ((1 + (3 * v8_5)) + 1).toNat) - 1)) - 1)))), (7, .int (z4 ((sl_ 1 ((t_now ((1 + (3 * v8_5)) + 1).toNat) - 1)) - 1))), (6, .int (z4 ((t_now ((1 + (3 * v8_5)) + 1).toNat) - 1))), (0, .ref a_t), (1, .int (z4 x1)), (2, .int (z4 x2))] dX12_nextBy_95 hl rfl (by decide) rfl (fun ls hl => ?_)
        refine lv_goto (tgt := 8) hx hb dX12_nextBy_98 (by decide) ?_
        obtain rfl := Option.some.inj hb1
        exact ih1 _ _ _ _ (lv_sub hl [7, 8, 9, 2, 1, 0] rfl)  hq1
  exact L1 n _ _ _ _ (lv_sub hl [3, 4, 5, 2, 1, 0] rfl)  hj1
def F_X12_goThrough_L9 (n : Nat) (t_now : Nat → Int) (v9_1 : Int) (v9_2 : Int) (v9_3 : Int) (v9_4 : Int) (t_metAt_l9 : Nat → Int) (t_memoryAt_l9 : Nat → Int) (t_isSignal_l9 : Nat → Int) (t_upAt_l9 : Nat → Int) (t_downAt_l9 : Nat → Int) : Option ((Int × Int × Int × Int × (Nat → Int) × (Nat → Int) × (Nat → Int) × (Nat → Int) × (Nat → Int)) ⊕ ((Nat → Int) × (Nat → Int) × (Nat → Int) × (Nat → Int) × (Nat → Int))) :=
  ck (r4 v9_4 ∧ r4 (t_now 17)) <|
  if v9_4 < t_now 17 then
    ck (ix_ (58 + v9_4) 98) <|
    (F_X12_metBy n t_now v9_1 (t_now (58 + v9_4).toNat)).bind fun o4 =>
    ck (ix_ v9_4 40) <|
    ck (ix_ v9_4 40) <|
    Option.bind (α := Int) (
      ck (r4 ((up_ t_metAt_l9 (v9_4).toNat o4) (v9_4).toNat)) <|
      if (up_ t_metAt_l9 (v9_4).toNat o4) (v9_4).toNat = 0 then
        (F_X12_nextBy n t_now v9_1 (t_now (58 + v9_4).toNat)).bind fun o9 =>
        some o9
      else
        some 0) fun o7 =>
    ck (ix_ v9_4 40) <|
    Option.bind (α := Int) (
      ck (r4 (v9_2 + (((t_now (58 + v9_4).toNat) - 2) - (t_now 15)))) <|
      if v9_2 + (((t_now (58 + v9_4).toNat) - 2) - (t_now 15)) < 0 then
        some 0
      else
        some (v9_2 + (((t_now (58 + v9_4).toNat) - 2) - (t_now 15)))) fun o11 =>
    Option.bind (α := Int) (
      ck (r4 (v9_3 + ((2 - (t_now (58 + v9_4).toNat)) - (t_now 15)))) <|
      if v9_3 + ((2 - (t_now (58 + v9_4).toNat)) - (t_now 15)) < 0 then
        some 0
      else
        some (v9_3 + ((2 - (t_now (58 + v9_4).toNat)) - (t_now 15)))) fun o13 =>
    Option.bind (α := Int) (
      ck (r4 o11 ∧ r4 (t_now 16)) <|
      if t_now 16 < o11 then
        some 1
      else
        ck (r4 o13 ∧ r4 (t_now 16)) <|
        if t_now 16 < o13 then
          some 1
        else
          some 0) fun o15 =>
    ck (ix_ v9_4 40) <|
    ck (o15 = 0 ∨ o15 = 1) <|
    ck (ix_ v9_4 40) <|
    Option.bind (α := Int) (
      ck (r4 ((up_ t_isSignal_l9 (v9_4).toNat o15) (v9_4).toNat)) <|
      if (up_ t_isSignal_l9 (v9_4).toNat o15) (v9_4).toNat = 0 then
        some o11
      else
        some 0) fun o21 =>
    ck (ix_ v9_4 40) <|
    Option.bind (α := Int) (
      ck (r4 ((up_ t_isSignal_l9 (v9_4).toNat o15) (v9_4).toNat)) <|
      if (up_ t_isSignal_l9 (v9_4).toNat o15) (v9_4).toNat = 0 then
        some o13
      else
        some 0) fun o24 =>
    ck (ix_ v9_4 40) <|
    ck (ix_ v9_4 40) <|
    some (.inl (o7, o21, o24, v9_4 + 1, up_ t_metAt_l9 (v9_4).toNat o4, up_ t_memoryAt_l9 (v9_4).toNat o7, up_ t_isSignal_l9 (v9_4).toNat o15, up_ t_upAt_l9 (v9_4).toNat o21, up_ t_downAt_l9 (v9_4).toNat o24))
  else
    some (.inr (t_metAt_l9, t_memoryAt_l9, t_isSignal_l9, t_upAt_l9, t_downAt_l9))
def F_X12_goThrough (n : Nat)  (t_now : Nat → Int) (t_metAt : Nat → Int) (t_memoryAt : Nat → Int) (t_isSignal : Nat → Int) (t_upAt : Nat → Int) (t_downAt : Nat → Int)  : Option ((Nat → Int) × (Nat → Int) × (Nat → Int) × (Nat → Int) × (Nat → Int)) :=
  (lp_ (fun (q : Int × Int × Int × Int × (Nat → Int) × (Nat → Int) × (Nat → Int) × (Nat → Int) × (Nat → Int)) => F_X12_goThrough_L9 n t_now q.1 q.2.1 q.2.2.1 q.2.2.2.1 q.2.2.2.2.1 q.2.2.2.2.2.1 q.2.2.2.2.2.2.1 q.2.2.2.2.2.2.2.1 q.2.2.2.2.2.2.2.2) n (0, 0, 0, 0, t_metAt, t_memoryAt, t_isSignal, t_upAt, t_downAt)).bind fun o1 =>
  some (o1.1, o1.2.1, o1.2.2.1, o1.2.2.2.1, o1.2.2.2.2)
def rm_X12_goThrough : Room := { frames := 2, cells := 0, slots := 0, locals := 50 }
set_option maxHeartbeats 4000000 in
set_option maxRecDepth 100000 in
theorem k_X12_goThrough {l : Launch} {D : va_G} {E : Nat → ClassId} (n : Nat) (a_t a_t_now a_t_read a_t_past a_t_images a_t_isKept a_t_text a_t_metAt a_t_memoryAt a_t_upAt a_t_downAt a_t_isSignal a_t_memories a_t_placeOf a_t_nextPlace a_t_kindOf a_t_newKind a_t_stateOfKind a_t_stateAt a_t_stepTo a_t_far a_t_ways a_t_nextWays a_t_table : Nat) (t_deeds : Int) (t_letters : Int) (t_at : Int) (t_tokenAt : Int) (t_tokenSort : Int) (t_tokenValue : Int) (t_items : Int) (t_isChanceTold : Int) (t_areSumsTold : Int) (t_places : Int) (t_kinds : Int) (t_states : Int) (t_now : Nat → Int) (t_metAt : Nat → Int) (t_memoryAt : Nat → Int) (t_isSignal : Nat → Int) (t_upAt : Nat → Int) (t_downAt : Nat → Int) (res : (Nat → Int) × (Nat → Int) × (Nat → Int) × (Nat → Int) × (Nat → Int)) (hf : F_X12_goThrough n t_now t_metAt t_memoryAt t_isSignal t_upAt t_downAt = some res) : MW l yX12_goThrough (.code yX12_goThrough cX12_goThrough 6 none) rm_X12_goThrough D E [.ref a_t] [(a_t, .inr (12, [.ref a_t_now, .ref a_t_read, .ref a_t_past, .int (z4 t_deeds), .ref a_t_images, .ref a_t_isKept, .ref a_t_text, .int (z4 t_letters), .int (z4 t_at), .int (z4 t_tokenAt), .int (z4 t_tokenSort), .int (z4 t_tokenValue), .int (z4 t_items), .int (z4 t_isChanceTold), .int (z4 t_areSumsTold), .ref a_t_metAt, .ref a_t_memoryAt, .ref a_t_upAt, .ref a_t_downAt, .ref a_t_isSignal, .ref a_t_memories, .ref a_t_placeOf, .ref a_t_nextPlace, .int (z4 t_places), .ref a_t_kindOf, .ref a_t_newKind, .int (z4 t_kinds), .ref a_t_stateOfKind, .ref a_t_stateAt, .ref a_t_stepTo, .int (z4 t_states), .ref a_t_far, .ref a_t_ways, .ref a_t_nextWays, .ref a_t_table])), (a_t_now, .inl (E 0, 98, .inl (A4 t_now))), (a_t_metAt, .inl (E 0, 40, .inl (A4 t_metAt))), (a_t_memoryAt, .inl (E 0, 40, .inl (A4 t_memoryAt))), (a_t_isSignal, .inl (E 1, 40, .inl (A4 t_isSignal))), (a_t_upAt, .inl (E 0, 40, .inl (A4 t_upAt))), (a_t_downAt, .inl (E 0, 40, .inl (A4 t_downAt)))] none [(a_t, .inr (12, [.ref a_t_now, .ref a_t_read, .ref a_t_past, .int (z4 t_deeds), .ref a_t_images, .ref a_t_isKept, .ref a_t_text, .int (z4 t_letters), .int (z4 t_at), .int (z4 t_tokenAt), .int (z4 t_tokenSort), .int (z4 t_tokenValue), .int (z4 t_items), .int (z4 t_isChanceTold), .int (z4 t_areSumsTold), .ref a_t_metAt, .ref a_t_memoryAt, .ref a_t_upAt, .ref a_t_downAt, .ref a_t_isSignal, .ref a_t_memories, .ref a_t_placeOf, .ref a_t_nextPlace, .int (z4 t_places), .ref a_t_kindOf, .ref a_t_newKind, .int (z4 t_kinds), .ref a_t_stateOfKind, .ref a_t_stateAt, .ref a_t_stepTo, .int (z4 t_states), .ref a_t_far, .ref a_t_ways, .ref a_t_nextWays, .ref a_t_table])), (a_t_now, .inl (E 0, 98, .inl (A4 t_now))), (a_t_metAt, .inl (E 0, 40, .inl (A4 res.1))), (a_t_memoryAt, .inl (E 0, 40, .inl (A4 res.2.1))), (a_t_isSignal, .inl (E 1, 40, .inl (A4 res.2.2.1))), (a_t_upAt, .inl (E 0, 40, .inl (A4 res.2.2.2.1))), (a_t_downAt, .inl (E 0, 40, .inl (A4 res.2.2.2.2)))] := by
  refine MWv (by decide) (Nat.le_of_ble_eq_true rfl) ?_
  intro p e s m args below meth c A Q X hK hP hD hA ret ls hl
  have hS : va_S A s.heap s.heap [] := va_S.rf
  have hx := X.1
  have hb := X.2.1
  have hl : lv_has ls 6 [(0, .ref a_t)] := hl
  unfold F_X12_goThrough at hf
  refine m_iconst X dX12_goThrough_0 ?_
  refine lv_istore_n (lv' := [(1, .int (z4 0)), (0, .ref a_t)]) hx hb dX12_goThrough_1 rfl hl (by decide) rfl (fun ls hl => ?_)
  refine m_iconst X dX12_goThrough_2 ?_
  refine lv_istore_n (lv' := [(2, .int (z4 0)), (1, .int (z4 0)), (0, .ref a_t)]) hx hb dX12_goThrough_3 rfl hl (by decide) rfl (fun ls hl => ?_)
  refine m_iconst X dX12_goThrough_4 ?_
  refine lv_istore_n (lv' := [(3, .int (z4 0)), (2, .int (z4 0)), (1, .int (z4 0)), (0, .ref a_t)]) hx hb dX12_goThrough_5 rfl hl (by decide) rfl (fun ls hl => ?_)
  refine m_iconst X dX12_goThrough_6 ?_
  refine lv_istore (lv' := [(4, .int (z4 0)), (3, .int (z4 0)), (2, .int (z4 0)), (1, .int (z4 0)), (0, .ref a_t)]) hx hb dX12_goThrough_7 hl (by decide) rfl (fun ls hl => ?_)
  obtain ⟨o1, hj1, hr1⟩ := bd_some hf
  have E1_0 : ∀ (o_ : (Nat → Int) × (Nat → Int) × (Nat → Int) × (Nat → Int) × (Nat → Int)), o1 = o_ → ∀ (H : Heap) (locs : List Loc) (ls : Array Slot), lv_has ls 6 [] → va_P D vwCl [(a_t, .inr (12, [.ref a_t_now, .ref a_t_read, .ref a_t_past, .int (z4 t_deeds), .ref a_t_images, .ref a_t_isKept, .ref a_t_text, .int (z4 t_letters), .int (z4 t_at), .int (z4 t_tokenAt), .int (z4 t_tokenSort), .int (z4 t_tokenValue), .int (z4 t_items), .int (z4 t_isChanceTold), .int (z4 t_areSumsTold), .ref a_t_metAt, .ref a_t_memoryAt, .ref a_t_upAt, .ref a_t_downAt, .ref a_t_isSignal, .ref a_t_memories, .ref a_t_placeOf, .ref a_t_nextPlace, .int (z4 t_places), .ref a_t_kindOf, .ref a_t_newKind, .int (z4 t_kinds), .ref a_t_stateOfKind, .ref a_t_stateAt, .ref a_t_stepTo, .int (z4 t_states), .ref a_t_far, .ref a_t_ways, .ref a_t_nextWays, .ref a_t_table])), (a_t_now, .inl (E 0, 98, .inl (A4 t_now))), (a_t_metAt, .inl (E 0, 40, .inl (A4 o_.1))), (a_t_memoryAt, .inl (E 0, 40, .inl (A4 o_.2.1))), (a_t_isSignal, .inl (E 1, 40, .inl (A4 o_.2.2.1))), (a_t_upAt, .inl (E 0, 40, .inl (A4 o_.2.2.2.1))), (a_t_downAt, .inl (E 0, 40, .inl (A4 o_.2.2.2.2)))] H → va_D A [(a_t, .inr (12, [.ref a_t_now, .ref a_t_read, .ref a_t_past, .int (z4 t_deeds), .ref a_t_images, .ref a_t_isKept, .ref a_t_text, .int (z4 t_letters), .int (z4 t_at), .int (z4 t_tokenAt), .int (z4 t_tokenSort), .int (z4 t_tokenValue), .int (z4 t_items), .int (z4 t_isChanceTold), .int (z4 t_areSumsTold), .ref a_t_metAt, .ref a_t_memoryAt, .ref a_t_upAt, .ref a_t_downAt, .ref a_t_isSignal, .ref a_t_memories, .ref a_t_placeOf, .ref a_t_nextPlace, .int (z4 t_places), .ref a_t_kindOf, .ref a_t_newKind, .int (z4 t_kinds), .ref a_t_stateOfKind, .ref a_t_stateAt, .ref a_t_stepTo, .int (z4 t_states), .ref a_t_far, .ref a_t_ways, .ref a_t_nextWays, .ref a_t_table])), (a_t_now, .inl (E 0, 98, .inl (A4 t_now))), (a_t_metAt, .inl (E 0, 40, .inl (A4 o_.1))), (a_t_memoryAt, .inl (E 0, 40, .inl (A4 o_.2.1))), (a_t_isSignal, .inl (E 1, 40, .inl (A4 o_.2.2.1))), (a_t_upAt, .inl (E 0, 40, .inl (A4 o_.2.2.2.1))), (a_t_downAt, .inl (E 0, 40, .inl (A4 o_.2.2.2.2)))] → va_S A s.heap H locs → W p l e rm_X12_goThrough s m args below meth c H locs 0 0 Q (F0 m 215 ls []) := by
    intro o_ ho_ H locs ls hl hP hD hS
    subst ho_
    obtain rfl := Option.some.inj hr1
    exact ret _ _ _ _ hP hD hS dX12_goThrough_215
  have L1 : ∀ (k_ : Nat) (v9_1 : Int) (v9_2 : Int) (v9_3 : Int) (v9_4 : Int) (t_metAt_l9 : Nat → Int) (t_memoryAt_l9 : Nat → Int) (t_isSignal_l9 : Nat → Int) (t_upAt_l9 : Nat → Int) (t_downAt_l9 : Nat → Int), ∀ (H : Heap) (locs : List Loc) (ls : Array Slot), lv_has ls 6 [(0, .ref a_t), (1, .int (z4 v9_1)), (2, .int (z4 v9_2)), (3, .int (z4 v9_3)), (4, .int (z4 v9_4))] → va_P D vwCl [(a_t, .inr (12, [.ref a_t_now, .ref a_t_read, .ref a_t_past, .int (z4 t_deeds), .ref a_t_images, .ref a_t_isKept, .ref a_t_text, .int (z4 t_letters), .int (z4 t_at), .int (z4 t_tokenAt), .int (z4 t_tokenSort), .int (z4 t_tokenValue), .int (z4 t_items), .int (z4 t_isChanceTold), .int (z4 t_areSumsTold), .ref a_t_metAt, .ref a_t_memoryAt, .ref a_t_upAt, .ref a_t_downAt, .ref a_t_isSignal, .ref a_t_memories, .ref a_t_placeOf, .ref a_t_nextPlace, .int (z4 t_places), .ref a_t_kindOf, .ref a_t_newKind, .int (z4 t_kinds), .ref a_t_stateOfKind, .ref a_t_stateAt, .ref a_t_stepTo, .int (z4 t_states), .ref a_t_far, .ref a_t_ways, .ref a_t_nextWays, .ref a_t_table])), (a_t_now, .inl (E 0, 98, .inl (A4 t_now))), (a_t_metAt, .inl (E 0, 40, .inl (A4 t_metAt_l9))), (a_t_memoryAt, .inl (E 0, 40, .inl (A4 t_memoryAt_l9))), (a_t_isSignal, .inl (E 1, 40, .inl (A4 t_isSignal_l9))), (a_t_upAt, .inl (E 0, 40, .inl (A4 t_upAt_l9))), (a_t_downAt, .inl (E 0, 40, .inl (A4 t_downAt_l9)))] H → va_D A [(a_t, .inr (12, [.ref a_t_now, .ref a_t_read, .ref a_t_past, .int (z4 t_deeds), .ref a_t_images, .ref a_t_isKept, .ref a_t_text, .int (z4 t_letters), .int (z4 t_at), .int (z4 t_tokenAt), .int (z4 t_tokenSort), .int (z4 t_tokenValue), .int (z4 t_items), .int (z4 t_isChanceTold), .int (z4 t_areSumsTold), .ref a_t_metAt, .ref a_t_memoryAt, .ref a_t_upAt, .ref a_t_downAt, .ref a_t_isSignal, .ref a_t_memories, .ref a_t_placeOf, .ref a_t_nextPlace, .int (z4 t_places), .ref a_t_kindOf, .ref a_t_newKind, .int (z4 t_kinds), .ref a_t_stateOfKind, .ref a_t_stateAt, .ref a_t_stepTo, .int (z4 t_states), .ref a_t_far, .ref a_t_ways, .ref a_t_nextWays, .ref a_t_table])), (a_t_now, .inl (E 0, 98, .inl (A4 t_now))), (a_t_metAt, .inl (E 0, 40, .inl (A4 t_metAt_l9))), (a_t_memoryAt, .inl (E 0, 40, .inl (A4 t_memoryAt_l9))), (a_t_isSignal, .inl (E 1, 40, .inl (A4 t_isSignal_l9))), (a_t_upAt, .inl (E 0, 40, .inl (A4 t_upAt_l9))), (a_t_downAt, .inl (E 0, 40, .inl (A4 t_downAt_l9)))] → va_S A s.heap H locs → lp_ (fun (q : Int × Int × Int × Int × (Nat → Int) × (Nat → Int) × (Nat → Int) × (Nat → Int) × (Nat → Int)) => F_X12_goThrough_L9 n t_now q.1 q.2.1 q.2.2.1 q.2.2.2.1 q.2.2.2.2.1 q.2.2.2.2.2.1 q.2.2.2.2.2.2.1 q.2.2.2.2.2.2.2.1 q.2.2.2.2.2.2.2.2) k_ (v9_1, v9_2, v9_3, v9_4, t_metAt_l9, t_memoryAt_l9, t_isSignal_l9, t_upAt_l9, t_downAt_l9) = some o1 → W p l e rm_X12_goThrough s m args below meth c H locs 0 0 Q (F0 m 9 ls []) := by
    intro k_
    induction k_ with
    | zero =>
      intro v9_1 v9_2 v9_3 v9_4 t_metAt_l9 t_memoryAt_l9 t_isSignal_l9 t_upAt_l9 t_downAt_l9 H locs ls hl hP hD hS hq_; exact (lp_zero hq_).elim
    | succ k_ ih1 =>
      intro v9_1 v9_2 v9_3 v9_4 t_metAt_l9 t_memoryAt_l9 t_isSignal_l9 t_upAt_l9 t_downAt_l9 H locs ls hl hP hD hS hq_
      obtain ⟨t_1, hb1, hq1⟩ := lp_some hq_
      replace hb1 : F_X12_goThrough_L9 n t_now v9_1 v9_2 v9_3 v9_4 t_metAt_l9 t_memoryAt_l9 t_isSignal_l9 t_upAt_l9 t_downAt_l9 = some t_1 := hb1
      unfold F_X12_goThrough_L9 at hb1
      refine lv_iload hx hb dX12_goThrough_9 (lv_at hl 4 rfl) ?_
      refine lv_aload_n hx hb dX12_goThrough_11 rfl (lv_at hl 0 rfl) ?_
      refine m_get X hK hP cl_X12 iT_X12 0 (by decide) fl_X12_7 0 rfl rfl dX12_goThrough_12 ?_
      refine m_bipush X dX12_goThrough_15 (by decide) ?_
      refine m_iald X hK hP 1 rfl (by decide) (by decide) dX12_goThrough_17 ?_
      obtain ⟨h2, hb1⟩ := ck_some hb1
      refine m_icmp_ge X h2 dX12_goThrough_18 (tgt := 215) (by decide) (fun (hc_ : ¬ (v9_4 < t_now 17)) => ?_) (fun (hc_ : v9_4 < t_now 17) => ?_)
      · rw [if_neg hc_] at hb1
        obtain rfl := Option.some.inj hb1
        exact E1_0 _ (Option.some.inj hq1).symm _ _ _ (lv_sub hl [] rfl) hP hD hS
      · rw [if_pos hc_] at hb1
        refine lv_aload_n hx hb dX12_goThrough_21 rfl (lv_at hl 0 rfl) ?_
        refine m_get X hK hP cl_X12 iT_X12 0 (by decide) fl_X12_7 0 rfl rfl dX12_goThrough_22 ?_
        refine m_bipush X dX12_goThrough_25 (by decide) ?_
        refine lv_iload hx hb dX12_goThrough_27 (lv_at hl 4 rfl) ?_
        refine m_iadd X dX12_goThrough_29 ?_
        obtain ⟨h3, hb1⟩ := ck_some hb1
        refine m_iald X hK hP 1 rfl (by decide) h3 dX12_goThrough_30 ?_
        refine lv_istore (lv' := [(5, .int (z4 (t_now (58 + v9_4).toNat))), (0, .ref a_t), (1, .int (z4 v9_1)), (2, .int (z4 v9_2)), (3, .int (z4 v9_3)), (4, .int (z4 v9_4))]) hx hb dX12_goThrough_31 hl (by decide) rfl (fun ls hl => ?_)
        refine lv_aload_n hx hb dX12_goThrough_33 rfl (lv_at hl 1 rfl) ?_
        refine m_get X hK hP cl_X12 iT_X12 15 (by decide) fl_X12_29 0 rfl rfl dX12_goThrough_34 ?_
        refine lv_iload hx hb dX12_goThrough_37 (lv_at hl 5 rfl) ?_
        refine lv_aload_n hx hb dX12_goThrough_39 rfl (lv_at hl 1 rfl) ?_
        refine lv_iload_n hx hb dX12_goThrough_40 rfl (lv_at hl 2 rfl) ?_
        refine lv_iload hx hb dX12_goThrough_41 (lv_at hl 0 rfl) ?_
        obtain ⟨o4, ho, hb1⟩ := bd_some hb1
        refine m_cVR X hK (k_X12_metBy n a_t a_t_now a_t_read a_t_past a_t_images a_t_isKept a_t_text a_t_metAt a_t_memoryAt a_t_upAt a_t_downAt a_t_isSignal a_t_memories a_t_placeOf a_t_nextPlace a_t_kindOf a_t_newKind a_t_stateOfKind a_t_stateAt a_t_stepTo a_t_far a_t_ways a_t_nextWays a_t_table t_deeds t_letters t_at t_tokenAt t_tokenSort t_tokenValue t_items t_isChanceTold t_areSumsTold t_places t_kinds t_states t_now v9_1 (t_now (58 + v9_4).toNat) o4 ho) (hP.sub [0, 1] rfl) rfl cl_X12 lk_X12_178 co_X12_metBy dy_X12_metBy rfl rfl ⟨Nat.le_of_ble_eq_true rfl, Nat.le_of_ble_eq_true rfl⟩ hl.1 rfl (Nat.le_of_ble_eq_true rfl) dX12_goThrough_43 (Nat.zero_le _) (Nat.zero_le _) ?_
        obtain ⟨h5, hb1⟩ := ck_some hb1
        refine m_iast X hK hP hD hS 2 rfl (by decide) h5 [(a_t, .inr (12, [.ref a_t_now, .ref a_t_read, .ref a_t_past, .int (z4 t_deeds), .ref a_t_images, .ref a_t_isKept, .ref a_t_text, .int (z4 t_letters), .int (z4 t_at), .int (z4 t_tokenAt), .int (z4 t_tokenSort), .int (z4 t_tokenValue), .int (z4 t_items), .int (z4 t_isChanceTold), .int (z4 t_areSumsTold), .ref a_t_metAt, .ref a_t_memoryAt, .ref a_t_upAt, .ref a_t_downAt, .ref a_t_isSignal, .ref a_t_memories, .ref a_t_placeOf, .ref a_t_nextPlace, .int (z4 t_places), .ref a_t_kindOf, .ref a_t_newKind, .int (z4 t_kinds), .ref a_t_stateOfKind, .ref a_t_stateAt, .ref a_t_stepTo, .int (z4 t_states), .ref a_t_far, .ref a_t_ways, .ref a_t_nextWays, .ref a_t_table])), (a_t_now, .inl (E 0, 98, .inl (A4 t_now))), (a_t_metAt, .inl (E 0, 40, .inl (A4 (up_ t_metAt_l9 (v9_4).toNat o4)))), (a_t_memoryAt, .inl (E 0, 40, .inl (A4 t_memoryAt_l9))), (a_t_isSignal, .inl (E 1, 40, .inl (A4 t_isSignal_l9))), (a_t_upAt, .inl (E 0, 40, .inl (A4 t_upAt_l9))), (a_t_downAt, .inl (E 0, 40, .inl (A4 t_downAt_l9)))] rfl dX12_goThrough_46 (fun H locs hP hD hS => ?_)
        refine lv_aload_n hx hb dX12_goThrough_47 rfl (lv_at hl 1 rfl) ?_
        refine m_get X hK hP cl_X12 iT_X12 15 (by decide) fl_X12_29 0 rfl rfl dX12_goThrough_48 ?_
        refine lv_iload hx hb dX12_goThrough_51 (lv_at hl 5 rfl) ?_
        obtain ⟨h6, hb1⟩ := ck_some hb1
        refine m_iald X hK hP 2 rfl (by decide) h6 dX12_goThrough_53 ?_
        obtain ⟨o7, hj7, hr7⟩ := bd_some hb1
        have J7 : ∀ (o_ : Int), o7 = o_ → ∀ (H : Heap) (locs : List Loc) (ls : Array Slot), lv_has ls 6 [(0, .ref a_t), (2, .int (z4 v9_2)), (3, .int (z4 v9_3)), (4, .int (z4 v9_4)), (5, .int (z4 (t_now (58 + v9_4).toNat)))] → va_P D vwCl [(a_t, .inr (12, [.ref a_t_now, .ref a_t_read, .ref a_t_past, .int (z4 t_deeds), .ref a_t_images, .ref a_t_isKept, .ref a_t_text, .int (z4 t_letters), .int (z4 t_at), .int (z4 t_tokenAt), .int (z4 t_tokenSort), .int (z4 t_tokenValue), .int (z4 t_items), .int (z4 t_isChanceTold), .int (z4 t_areSumsTold), .ref a_t_metAt, .ref a_t_memoryAt, .ref a_t_upAt, .ref a_t_downAt, .ref a_t_isSignal, .ref a_t_memories, .ref a_t_placeOf, .ref a_t_nextPlace, .int (z4 t_places), .ref a_t_kindOf, .ref a_t_newKind, .int (z4 t_kinds), .ref a_t_stateOfKind, .ref a_t_stateAt, .ref a_t_stepTo, .int (z4 t_states), .ref a_t_far, .ref a_t_ways, .ref a_t_nextWays, .ref a_t_table])), (a_t_now, .inl (E 0, 98, .inl (A4 t_now))), (a_t_metAt, .inl (E 0, 40, .inl (A4 (up_ t_metAt_l9 (v9_4).toNat o4)))), (a_t_memoryAt, .inl (E 0, 40, .inl (A4 t_memoryAt_l9))), (a_t_isSignal, .inl (E 1, 40, .inl (A4 t_isSignal_l9))), (a_t_upAt, .inl (E 0, 40, .inl (A4 t_upAt_l9))), (a_t_downAt, .inl (E 0, 40, .inl (A4 t_downAt_l9)))] H → va_D A [(a_t, .inr (12, [.ref a_t_now, .ref a_t_read, .ref a_t_past, .int (z4 t_deeds), .ref a_t_images, .ref a_t_isKept, .ref a_t_text, .int (z4 t_letters), .int (z4 t_at), .int (z4 t_tokenAt), .int (z4 t_tokenSort), .int (z4 t_tokenValue), .int (z4 t_items), .int (z4 t_isChanceTold), .int (z4 t_areSumsTold), .ref a_t_metAt, .ref a_t_memoryAt, .ref a_t_upAt, .ref a_t_downAt, .ref a_t_isSignal, .ref a_t_memories, .ref a_t_placeOf, .ref a_t_nextPlace, .int (z4 t_places), .ref a_t_kindOf, .ref a_t_newKind, .int (z4 t_kinds), .ref a_t_stateOfKind, .ref a_t_stateAt, .ref a_t_stepTo, .int (z4 t_states), .ref a_t_far, .ref a_t_ways, .ref a_t_nextWays, .ref a_t_table])), (a_t_now, .inl (E 0, 98, .inl (A4 t_now))), (a_t_metAt, .inl (E 0, 40, .inl (A4 (up_ t_metAt_l9 (v9_4).toNat o4)))), (a_t_memoryAt, .inl (E 0, 40, .inl (A4 t_memoryAt_l9))), (a_t_isSignal, .inl (E 1, 40, .inl (A4 t_isSignal_l9))), (a_t_upAt, .inl (E 0, 40, .inl (A4 t_upAt_l9))), (a_t_downAt, .inl (E 0, 40, .inl (A4 t_downAt_l9)))] → va_S A s.heap H locs → W p l e rm_X12_goThrough s m args below meth c H locs 0 0 Q (F0 m 68 ls [.int (z4 o_)]) := by
          intro o_ ho_ H locs ls hl hP hD hS
          subst ho_
          refine lv_istore_n (lv' := [(1, .int (z4 o7)), (0, .ref a_t), (2, .int (z4 v9_2)), (3, .int (z4 v9_3)), (4, .int (z4 v9_4)), (5, .int (z4 (t_now (58 + v9_4).toNat)))]) hx hb dX12_goThrough_68 rfl hl (by decide) rfl (fun ls hl => ?_)
          refine lv_aload_n hx hb dX12_goThrough_69 rfl (lv_at hl 1 rfl) ?_
          refine m_get X hK hP cl_X12 iT_X12 16 (by decide) fl_X12_32 0 rfl rfl dX12_goThrough_70 ?_
          refine lv_iload hx hb dX12_goThrough_73 (lv_at hl 4 rfl) ?_
          refine lv_iload_n hx hb dX12_goThrough_75 rfl (lv_at hl 0 rfl) ?_
          obtain ⟨h10, hr7⟩ := ck_some hr7
          refine m_iast X hK hP hD hS 3 rfl (by decide) h10 [(a_t, .inr (12, [.ref a_t_now, .ref a_t_read, .ref a_t_past, .int (z4 t_deeds), .ref a_t_images, .ref a_t_isKept, .ref a_t_text, .int (z4 t_letters), .int (z4 t_at), .int (z4 t_tokenAt), .int (z4 t_tokenSort), .int (z4 t_tokenValue), .int (z4 t_items), .int (z4 t_isChanceTold), .int (z4 t_areSumsTold), .ref a_t_metAt, .ref a_t_memoryAt, .ref a_t_upAt, .ref a_t_downAt, .ref a_t_isSignal, .ref a_t_memories, .ref a_t_placeOf, .ref a_t_nextPlace, .int (z4 t_places), .ref a_t_kindOf, .ref a_t_newKind, .int (z4 t_kinds), .ref a_t_stateOfKind, .ref a_t_stateAt, .ref a_t_stepTo, .int (z4 t_states), .ref a_t_far, .ref a_t_ways, .ref a_t_nextWays, .ref a_t_table])), (a_t_now, .inl (E 0, 98, .inl (A4 t_now))), (a_t_metAt, .inl (E 0, 40, .inl (A4 (up_ t_metAt_l9 (v9_4).toNat o4)))), (a_t_memoryAt, .inl (E 0, 40, .inl (A4 (up_ t_memoryAt_l9 (v9_4).toNat o7)))), (a_t_isSignal, .inl (E 1, 40, .inl (A4 t_isSignal_l9))), (a_t_upAt, .inl (E 0, 40, .inl (A4 t_upAt_l9))), (a_t_downAt, .inl (E 0, 40, .inl (A4 t_downAt_l9)))] rfl dX12_goThrough_76 (fun H locs hP hD hS => ?_)
          refine lv_iload_n hx hb dX12_goThrough_77 rfl (lv_at hl 2 rfl) ?_
          refine lv_iload hx hb dX12_goThrough_78 (lv_at hl 5 rfl) ?_
          refine m_iconst X dX12_goThrough_80 ?_
          refine m_isub X dX12_goThrough_81 ?_
          refine lv_aload_n hx hb dX12_goThrough_82 rfl (lv_at hl 1 rfl) ?_
          refine m_get X hK hP cl_X12 iT_X12 0 (by decide) fl_X12_7 0 rfl rfl dX12_goThrough_83 ?_
          refine m_bipush X dX12_goThrough_86 (by decide) ?_
          refine m_iald X hK hP 1 rfl (by decide) (by decide) dX12_goThrough_88 ?_
          refine m_isub X dX12_goThrough_89 ?_
          refine m_iadd X dX12_goThrough_90 ?_
          refine lv_istore_n (lv' := [(2, .int (z4 (v9_2 + (((t_now (58 + v9_4).toNat) - 2) - (t_now 15))))), (1, .int (z4 o7)), (0, .ref a_t), (3, .int (z4 v9_3)), (4, .int (z4 v9_4)), (5, .int (z4 (t_now (58 + v9_4).toNat)))]) hx hb dX12_goThrough_91 rfl hl (by decide) rfl (fun ls hl => ?_)
          refine lv_iload_n hx hb dX12_goThrough_92 rfl (lv_at hl 3 rfl) ?_
          refine m_iconst X dX12_goThrough_93 ?_
          refine lv_iload hx hb dX12_goThrough_94 (lv_at hl 5 rfl) ?_
          refine m_isub X dX12_goThrough_96 ?_
          refine lv_aload_n hx hb dX12_goThrough_97 rfl (lv_at hl 2 rfl) ?_
          refine m_get X hK hP cl_X12 iT_X12 0 (by decide) fl_X12_7 0 rfl rfl dX12_goThrough_98 ?_
          refine m_bipush X dX12_goThrough_101 (by decide) ?_
          refine m_iald X hK hP 1 rfl (by decide) (by decide) dX12_goThrough_103 ?_
          refine m_isub X dX12_goThrough_104 ?_
          refine m_iadd X dX12_goThrough_105 ?_
          refine lv_istore_n (lv' := [(3, .int (z4 (v9_3 + ((2 - (t_now (58 + v9_4).toNat)) - (t_now 15))))), (2, .int (z4 (v9_2 + (((t_now (58 + v9_4).toNat) - 2) - (t_now 15))))), (1, .int (z4 o7)), (0, .ref a_t), (4, .int (z4 v9_4)), (5, .int (z4 (t_now (58 + v9_4).toNat)))]) hx hb dX12_goThrough_106 rfl hl (by decide) rfl (fun ls hl => ?_)
          refine lv_iload_n hx hb dX12_goThrough_107 rfl (lv_at hl 1 rfl) ?_
          obtain ⟨o11, hj11, hr11⟩ := bd_some hr7
          have J11 : ∀ (o_ : Int), o11 = o_ → ∀ (H : Heap) (locs : List Loc) (ls : Array Slot), lv_has ls 6 [(0, .ref a_t), (1, .int (z4 o7)), (3, .int (z4 (v9_3 + ((2 - (t_now (58 + v9_4).toNat)) - (t_now 15))))), (4, .int (z4 v9_4))] → va_P D vwCl [(a_t, .inr (12, [.ref a_t_now, .ref a_t_read, .ref a_t_past, .int (z4 t_deeds), .ref a_t_images, .ref a_t_isKept, .ref a_t_text, .int (z4 t_letters), .int (z4 t_at), .int (z4 t_tokenAt), .int (z4 t_tokenSort), .int (z4 t_tokenValue), .int (z4 t_items), .int (z4 t_isChanceTold), .int (z4 t_areSumsTold), .ref a_t_metAt, .ref a_t_memoryAt, .ref a_t_upAt, .ref a_t_downAt, .ref a_t_isSignal, .ref a_t_memories, .ref a_t_placeOf, .ref a_t_nextPlace, .int (z4 t_places), .ref a_t_kindOf, .ref a_t_newKind, .int (z4 t_kinds), .ref a_t_stateOfKind, .ref a_t_stateAt, .ref a_t_stepTo, .int (z4 t_states), .ref a_t_far, .ref a_t_ways, .ref a_t_nextWays, .ref a_t_table])), (a_t_now, .inl (E 0, 98, .inl (A4 t_now))), (a_t_metAt, .inl (E 0, 40, .inl (A4 (up_ t_metAt_l9 (v9_4).toNat o4)))), (a_t_memoryAt, .inl (E 0, 40, .inl (A4 (up_ t_memoryAt_l9 (v9_4).toNat o7)))), (a_t_isSignal, .inl (E 1, 40, .inl (A4 t_isSignal_l9))), (a_t_upAt, .inl (E 0, 40, .inl (A4 t_upAt_l9))), (a_t_downAt, .inl (E 0, 40, .inl (A4 t_downAt_l9)))] H → va_D A [(a_t, .inr (12, [.ref a_t_now, .ref a_t_read, .ref a_t_past, .int (z4 t_deeds), .ref a_t_images, .ref a_t_isKept, .ref a_t_text, .int (z4 t_letters), .int (z4 t_at), .int (z4 t_tokenAt), .int (z4 t_tokenSort), .int (z4 t_tokenValue), .int (z4 t_items), .int (z4 t_isChanceTold), .int (z4 t_areSumsTold), .ref a_t_metAt, .ref a_t_memoryAt, .ref a_t_upAt, .ref a_t_downAt, .ref a_t_isSignal, .ref a_t_memories, .ref a_t_placeOf, .ref a_t_nextPlace, .int (z4 t_places), .ref a_t_kindOf, .ref a_t_newKind, .int (z4 t_kinds), .ref a_t_stateOfKind, .ref a_t_stateAt, .ref a_t_stepTo, .int (z4 t_states), .ref a_t_far, .ref a_t_ways, .ref a_t_nextWays, .ref a_t_table])), (a_t_now, .inl (E 0, 98, .inl (A4 t_now))), (a_t_metAt, .inl (E 0, 40, .inl (A4 (up_ t_metAt_l9 (v9_4).toNat o4)))), (a_t_memoryAt, .inl (E 0, 40, .inl (A4 (up_ t_memoryAt_l9 (v9_4).toNat o7)))), (a_t_isSignal, .inl (E 1, 40, .inl (A4 t_isSignal_l9))), (a_t_upAt, .inl (E 0, 40, .inl (A4 t_upAt_l9))), (a_t_downAt, .inl (E 0, 40, .inl (A4 t_downAt_l9)))] → va_S A s.heap H locs → W p l e rm_X12_goThrough s m args below meth c H locs 0 0 Q (F0 m 116 ls [.int (z4 o_)]) := by
            intro o_ ho_ H locs ls hl hP hD hS
            subst ho_
            refine lv_istore_n (lv' := [(2, .int (z4 o11)), (0, .ref a_t), (1, .int (z4 o7)), (3, .int (z4 (v9_3 + ((2 - (t_now (58 + v9_4).toNat)) - (t_now 15))))), (4, .int (z4 v9_4))]) hx hb dX12_goThrough_116 rfl hl (by decide) rfl (fun ls hl => ?_)
            refine lv_iload_n hx hb dX12_goThrough_117 rfl (lv_at hl 3 rfl) ?_
            obtain ⟨o13, hj13, hr13⟩ := bd_some hr11
            have J13 : ∀ (o_ : Int), o13 = o_ → ∀ (H : Heap) (locs : List Loc) (ls : Array Slot), lv_has ls 6 [(0, .ref a_t), (1, .int (z4 o7)), (2, .int (z4 o11)), (4, .int (z4 v9_4))] → va_P D vwCl [(a_t, .inr (12, [.ref a_t_now, .ref a_t_read, .ref a_t_past, .int (z4 t_deeds), .ref a_t_images, .ref a_t_isKept, .ref a_t_text, .int (z4 t_letters), .int (z4 t_at), .int (z4 t_tokenAt), .int (z4 t_tokenSort), .int (z4 t_tokenValue), .int (z4 t_items), .int (z4 t_isChanceTold), .int (z4 t_areSumsTold), .ref a_t_metAt, .ref a_t_memoryAt, .ref a_t_upAt, .ref a_t_downAt, .ref a_t_isSignal, .ref a_t_memories, .ref a_t_placeOf, .ref a_t_nextPlace, .int (z4 t_places), .ref a_t_kindOf, .ref a_t_newKind, .int (z4 t_kinds), .ref a_t_stateOfKind, .ref a_t_stateAt, .ref a_t_stepTo, .int (z4 t_states), .ref a_t_far, .ref a_t_ways, .ref a_t_nextWays, .ref a_t_table])), (a_t_now, .inl (E 0, 98, .inl (A4 t_now))), (a_t_metAt, .inl (E 0, 40, .inl (A4 (up_ t_metAt_l9 (v9_4).toNat o4)))), (a_t_memoryAt, .inl (E 0, 40, .inl (A4 (up_ t_memoryAt_l9 (v9_4).toNat o7)))), (a_t_isSignal, .inl (E 1, 40, .inl (A4 t_isSignal_l9))), (a_t_upAt, .inl (E 0, 40, .inl (A4 t_upAt_l9))), (a_t_downAt, .inl (E 0, 40, .inl (A4 t_downAt_l9)))] H → va_D A [(a_t, .inr (12, [.ref a_t_now, .ref a_t_read, .ref a_t_past, .int (z4 t_deeds), .ref a_t_images, .ref a_t_isKept, .ref a_t_text, .int (z4 t_letters), .int (z4 t_at), .int (z4 t_tokenAt), .int (z4 t_tokenSort), .int (z4 t_tokenValue), .int (z4 t_items), .int (z4 t_isChanceTold), .int (z4 t_areSumsTold), .ref a_t_metAt, .ref a_t_memoryAt, .ref a_t_upAt, .ref a_t_downAt, .ref a_t_isSignal, .ref a_t_memories, .ref a_t_placeOf, .ref a_t_nextPlace, .int (z4 t_places), .ref a_t_kindOf, .ref a_t_newKind, .int (z4 t_kinds), .ref a_t_stateOfKind, .ref a_t_stateAt, .ref a_t_stepTo, .int (z4 t_states), .ref a_t_far, .ref a_t_ways, .ref a_t_nextWays, .ref a_t_table])), (a_t_now, .inl (E 0, 98, .inl (A4 t_now))), (a_t_metAt, .inl (E 0, 40, .inl (A4 (up_ t_metAt_l9 (v9_4).toNat o4)))), (a_t_memoryAt, .inl (E 0, 40, .inl (A4 (up_ t_memoryAt_l9 (v9_4).toNat o7)))), (a_t_isSignal, .inl (E 1, 40, .inl (A4 t_isSignal_l9))), (a_t_upAt, .inl (E 0, 40, .inl (A4 t_upAt_l9))), (a_t_downAt, .inl (E 0, 40, .inl (A4 t_downAt_l9)))] → va_S A s.heap H locs → W p l e rm_X12_goThrough s m args below meth c H locs 0 0 Q (F0 m 126 ls [.int (z4 o_)]) := by
              intro o_ ho_ H locs ls hl hP hD hS
              subst ho_
              refine lv_istore_n (lv' := [(3, .int (z4 o13)), (0, .ref a_t), (1, .int (z4 o7)), (2, .int (z4 o11)), (4, .int (z4 v9_4))]) hx hb dX12_goThrough_126 rfl hl (by decide) rfl (fun ls hl => ?_)
              refine lv_aload_n hx hb dX12_goThrough_127 rfl (lv_at hl 1 rfl) ?_
              refine m_get X hK hP cl_X12 iT_X12 19 (by decide) fl_X12_41 0 rfl rfl dX12_goThrough_128 ?_
              refine lv_iload hx hb dX12_goThrough_131 (lv_at hl 4 rfl) ?_
              refine lv_iload_n hx hb dX12_goThrough_133 rfl (lv_at hl 3 rfl) ?_
              refine lv_aload_n hx hb dX12_goThrough_134 rfl (lv_at hl 1 rfl) ?_
              refine m_get X hK hP cl_X12 iT_X12 0 (by decide) fl_X12_7 0 rfl rfl dX12_goThrough_135 ?_
              refine m_bipush X dX12_goThrough_138 (by decide) ?_
              refine m_iald X hK hP 1 rfl (by decide) (by decide) dX12_goThrough_140 ?_
              obtain ⟨o15, hj15, hr15⟩ := bd_some hr13
              have J15 : ∀ (o_ : Int), o15 = o_ → ∀ (H : Heap) (locs : List Loc) (ls : Array Slot), lv_has ls 6 [(0, .ref a_t), (1, .int (z4 o7)), (2, .int (z4 o11)), (3, .int (z4 o13)), (4, .int (z4 v9_4))] → va_P D vwCl [(a_t, .inr (12, [.ref a_t_now, .ref a_t_read, .ref a_t_past, .int (z4 t_deeds), .ref a_t_images, .ref a_t_isKept, .ref a_t_text, .int (z4 t_letters), .int (z4 t_at), .int (z4 t_tokenAt), .int (z4 t_tokenSort), .int (z4 t_tokenValue), .int (z4 t_items), .int (z4 t_isChanceTold), .int (z4 t_areSumsTold), .ref a_t_metAt, .ref a_t_memoryAt, .ref a_t_upAt, .ref a_t_downAt, .ref a_t_isSignal, .ref a_t_memories, .ref a_t_placeOf, .ref a_t_nextPlace, .int (z4 t_places), .ref a_t_kindOf, .ref a_t_newKind, .int (z4 t_kinds), .ref a_t_stateOfKind, .ref a_t_stateAt, .ref a_t_stepTo, .int (z4 t_states), .ref a_t_far, .ref a_t_ways, .ref a_t_nextWays, .ref a_t_table])), (a_t_now, .inl (E 0, 98, .inl (A4 t_now))), (a_t_metAt, .inl (E 0, 40, .inl (A4 (up_ t_metAt_l9 (v9_4).toNat o4)))), (a_t_memoryAt, .inl (E 0, 40, .inl (A4 (up_ t_memoryAt_l9 (v9_4).toNat o7)))), (a_t_isSignal, .inl (E 1, 40, .inl (A4 t_isSignal_l9))), (a_t_upAt, .inl (E 0, 40, .inl (A4 t_upAt_l9))), (a_t_downAt, .inl (E 0, 40, .inl (A4 t_downAt_l9)))] H → va_D A [(a_t, .inr (12, [.ref a_t_now, .ref a_t_read, .ref a_t_past, .int (z4 t_deeds), .ref a_t_images, .ref a_t_isKept, .ref a_t_text, .int (z4 t_letters), .int (z4 t_at), .int (z4 t_tokenAt), .int (z4 t_tokenSort), .int (z4 t_tokenValue), .int (z4 t_items), .int (z4 t_isChanceTold), .int (z4 t_areSumsTold), .ref a_t_metAt, .ref a_t_memoryAt, .ref a_t_upAt, .ref a_t_downAt, .ref a_t_isSignal, .ref a_t_memories, .ref a_t_placeOf, .ref a_t_nextPlace, .int (z4 t_places), .ref a_t_kindOf, .ref a_t_newKind, .int (z4 t_kinds), .ref a_t_stateOfKind, .ref a_t_stateAt, .ref a_t_stepTo, .int (z4 t_states), .ref a_t_far, .ref a_t_ways, .ref a_t_nextWays, .ref a_t_table])), (a_t_now, .inl (E 0, 98, .inl (A4 t_now))), (a_t_metAt, .inl (E 0, 40, .inl (A4 (up_ t_metAt_l9 (v9_4).toNat o4)))), (a_t_memoryAt, .inl (E 0, 40, .inl (A4 (up_ t_memoryAt_l9 (v9_4).toNat o7)))), (a_t_isSignal, .inl (E 1, 40, .inl (A4 t_isSignal_l9))), (a_t_upAt, .inl (E 0, 40, .inl (A4 t_upAt_l9))), (a_t_downAt, .inl (E 0, 40, .inl (A4 t_downAt_l9)))] → va_S A s.heap H locs → W p l e rm_X12_goThrough s m args below meth c H locs 0 0 Q (F0 m 160 ls [.int (z4 o_), .int (z4 v9_4), .ref a_t_isSignal]) := by
                intro o_ ho_ H locs ls hl hP hD hS
                subst ho_
                obtain ⟨h18, hr15⟩ := ck_some hr15
                obtain ⟨h19, hr15⟩ := ck_some hr15
                refine m_zast X hK hP hD hS 4 rfl (by decide) h18 h19 [(a_t, .inr (12, [.ref a_t_now, .ref a_t_read, .ref a_t_past, .int (z4 t_deeds), .ref a_t_images, .ref a_t_isKept, .ref a_t_text, .int (z4 t_letters), .int (z4 t_at), .int (z4 t_tokenAt), .int (z4 t_tokenSort), .int (z4 t_tokenValue), .int (z4 t_items), .int (z4 t_isChanceTold), .int (z4 t_areSumsTold), .ref a_t_metAt, .ref a_t_memoryAt, .ref a_t_upAt, .ref a_t_downAt, .ref a_t_isSignal, .ref a_t_memories, .ref a_t_placeOf, .ref a_t_nextPlace, .int (z4 t_places), .ref a_t_kindOf, .ref a_t_newKind, .int (z4 t_kinds), .ref a_t_stateOfKind, .ref a_t_stateAt, .ref a_t_stepTo, .int (z4 t_states), .ref a_t_far, .ref a_t_ways, .ref a_t_nextWays, .ref a_t_table])), (a_t_now, .inl (E 0, 98, .inl (A4 t_now))), (a_t_metAt, .inl (E 0, 40, .inl (A4 (up_ t_metAt_l9 (v9_4).toNat o4)))), (a_t_memoryAt, .inl (E 0, 40, .inl (A4 (up_ t_memoryAt_l9 (v9_4).toNat o7)))), (a_t_isSignal, .inl (E 1, 40, .inl (A4 (up_ t_isSignal_l9 (v9_4).toNat o15)))), (a_t_upAt, .inl (E 0, 40, .inl (A4 t_upAt_l9))), (a_t_downAt, .inl (E 0, 40, .inl (A4 t_downAt_l9)))] rfl dX12_goThrough_160 (fun H locs hP hD hS => ?_)
                refine lv_aload_n hx hb dX12_goThrough_161 rfl (lv_at hl 0 rfl) ?_
                refine m_get X hK hP cl_X12 iT_X12 19 (by decide) fl_X12_41 0 rfl rfl dX12_goThrough_162 ?_
                refine lv_iload hx hb dX12_goThrough_165 (lv_at hl 4 rfl) ?_
                obtain ⟨h20, hr15⟩ := ck_some hr15
                refine m_zald X hK hP 4 rfl (by decide) h20 dX12_goThrough_167 ?_
                obtain ⟨o21, hj21, hr21⟩ := bd_some hr15
                have J21 : ∀ (o_ : Int), o21 = o_ → ∀ (H : Heap) (locs : List Loc) (ls : Array Slot), lv_has ls 6 [(0, .ref a_t), (1, .int (z4 o7)), (3, .int (z4 o13)), (4, .int (z4 v9_4))] → va_P D vwCl [(a_t, .inr (12, [.ref a_t_now, .ref a_t_read, .ref a_t_past, .int (z4 t_deeds), .ref a_t_images, .ref a_t_isKept, .ref a_t_text, .int (z4 t_letters), .int (z4 t_at), .int (z4 t_tokenAt), .int (z4 t_tokenSort), .int (z4 t_tokenValue), .int (z4 t_items), .int (z4 t_isChanceTold), .int (z4 t_areSumsTold), .ref a_t_metAt, .ref a_t_memoryAt, .ref a_t_upAt, .ref a_t_downAt, .ref a_t_isSignal, .ref a_t_memories, .ref a_t_placeOf, .ref a_t_nextPlace, .int (z4 t_places), .ref a_t_kindOf, .ref a_t_newKind, .int (z4 t_kinds), .ref a_t_stateOfKind, .ref a_t_stateAt, .ref a_t_stepTo, .int (z4 t_states), .ref a_t_far, .ref a_t_ways, .ref a_t_nextWays, .ref a_t_table])), (a_t_now, .inl (E 0, 98, .inl (A4 t_now))), (a_t_metAt, .inl (E 0, 40, .inl (A4 (up_ t_metAt_l9 (v9_4).toNat o4)))), (a_t_memoryAt, .inl (E 0, 40, .inl (A4 (up_ t_memoryAt_l9 (v9_4).toNat o7)))), (a_t_isSignal, .inl (E 1, 40, .inl (A4 (up_ t_isSignal_l9 (v9_4).toNat o15)))), (a_t_upAt, .inl (E 0, 40, .inl (A4 t_upAt_l9))), (a_t_downAt, .inl (E 0, 40, .inl (A4 t_downAt_l9)))] H → va_D A [(a_t, .inr (12, [.ref a_t_now, .ref a_t_read, .ref a_t_past, .int (z4 t_deeds), .ref a_t_images, .ref a_t_isKept, .ref a_t_text, .int (z4 t_letters), .int (z4 t_at), .int (z4 t_tokenAt), .int (z4 t_tokenSort), .int (z4 t_tokenValue), .int (z4 t_items), .int (z4 t_isChanceTold), .int (z4 t_areSumsTold), .ref a_t_metAt, .ref a_t_memoryAt, .ref a_t_upAt, .ref a_t_downAt, .ref a_t_isSignal, .ref a_t_memories, .ref a_t_placeOf, .ref a_t_nextPlace, .int (z4 t_places), .ref a_t_kindOf, .ref a_t_newKind, .int (z4 t_kinds), .ref a_t_stateOfKind, .ref a_t_stateAt, .ref a_t_stepTo, .int (z4 t_states), .ref a_t_far, .ref a_t_ways, .ref a_t_nextWays, .ref a_t_table])), (a_t_now, .inl (E 0, 98, .inl (A4 t_now))), (a_t_metAt, .inl (E 0, 40, .inl (A4 (up_ t_metAt_l9 (v9_4).toNat o4)))), (a_t_memoryAt, .inl (E 0, 40, .inl (A4 (up_ t_memoryAt_l9 (v9_4).toNat o7)))), (a_t_isSignal, .inl (E 1, 40, .inl (A4 (up_ t_isSignal_l9 (v9_4).toNat o15)))), (a_t_upAt, .inl (E 0, 40, .inl (A4 t_upAt_l9))), (a_t_downAt, .inl (E 0, 40, .inl (A4 t_downAt_l9)))] → va_S A s.heap H locs → W p l e rm_X12_goThrough s m args below meth c H locs 0 0 Q (F0 m 176 ls [.int (z4 o_)]) := by
                  intro o_ ho_ H locs ls hl hP hD hS
                  subst ho_
                  refine lv_istore_n (lv' := [(2, .int (z4 o21)), (0, .ref a_t), (1, .int (z4 o7)), (3, .int (z4 o13)), (4, .int (z4 v9_4))]) hx hb dX12_goThrough_176 rfl hl (by decide) rfl (fun ls hl => ?_)
                  refine lv_aload_n hx hb dX12_goThrough_177 rfl (lv_at hl 1 rfl) ?_
                  refine m_get X hK hP cl_X12 iT_X12 19 (by decide) fl_X12_41 0 rfl rfl dX12_goThrough_178 ?_
                  refine lv_iload hx hb dX12_goThrough_181 (lv_at hl 4 rfl) ?_
                  obtain ⟨h23, hr21⟩ := ck_some hr21
                  refine m_zald X hK hP 4 rfl (by decide) h23 dX12_goThrough_183 ?_
                  obtain ⟨o24, hj24, hr24⟩ := bd_some hr21
                  have J24 : ∀ (o_ : Int), o24 = o_ → ∀ (H : Heap) (locs : List Loc) (ls : Array Slot), lv_has ls 6 [(0, .ref a_t), (1, .int (z4 o7)), (2, .int (z4 o21)), (4, .int (z4 v9_4))] → va_P D vwCl [(a_t, .inr (12, [.ref a_t_now, .ref a_t_read, .ref a_t_past, .int (z4 t_deeds), .ref a_t_images, .ref a_t_isKept, .ref a_t_text, .int (z4 t_letters), .int (z4 t_at), .int (z4 t_tokenAt), .int (z4 t_tokenSort), .int (z4 t_tokenValue), .int (z4 t_items), .int (z4 t_isChanceTold), .int (z4 t_areSumsTold), .ref a_t_metAt, .ref a_t_memoryAt, .ref a_t_upAt, .ref a_t_downAt, .ref a_t_isSignal, .ref a_t_memories, .ref a_t_placeOf, .ref a_t_nextPlace, .int (z4 t_places), .ref a_t_kindOf, .ref a_t_newKind, .int (z4 t_kinds), .ref a_t_stateOfKind, .ref a_t_stateAt, .ref a_t_stepTo, .int (z4 t_states), .ref a_t_far, .ref a_t_ways, .ref a_t_nextWays, .ref a_t_table])), (a_t_now, .inl (E 0, 98, .inl (A4 t_now))), (a_t_metAt, .inl (E 0, 40, .inl (A4 (up_ t_metAt_l9 (v9_4).toNat o4)))), (a_t_memoryAt, .inl (E 0, 40, .inl (A4 (up_ t_memoryAt_l9 (v9_4).toNat o7)))), (a_t_isSignal, .inl (E 1, 40, .inl (A4 (up_ t_isSignal_l9 (v9_4).toNat o15)))), (a_t_upAt, .inl (E 0, 40, .inl (A4 t_upAt_l9))), (a_t_downAt, .inl (E 0, 40, .inl (A4 t_downAt_l9)))] H → va_D A [(a_t, .inr (12, [.ref a_t_now, .ref a_t_read, .ref a_t_past, .int (z4 t_deeds), .ref a_t_images, .ref a_t_isKept, .ref a_t_text, .int (z4 t_letters), .int (z4 t_at), .int (z4 t_tokenAt), .int (z4 t_tokenSort), .int (z4 t_tokenValue), .int (z4 t_items), .int (z4 t_isChanceTold), .int (z4 t_areSumsTold), .ref a_t_metAt, .ref a_t_memoryAt, .ref a_t_upAt, .ref a_t_downAt, .ref a_t_isSignal, .ref a_t_memories, .ref a_t_placeOf, .ref a_t_nextPlace, .int (z4 t_places), .ref a_t_kindOf, .ref a_t_newKind, .int (z4 t_kinds), .ref a_t_stateOfKind, .ref a_t_stateAt, .ref a_t_stepTo, .int (z4 t_states), .ref a_t_far, .ref a_t_ways, .ref a_t_nextWays, .ref a_t_table])), (a_t_now, .inl (E 0, 98, .inl (A4 t_now))), (a_t_metAt, .inl (E 0, 40, .inl (A4 (up_ t_metAt_l9 (v9_4).toNat o4)))), (a_t_memoryAt, .inl (E 0, 40, .inl (A4 (up_ t_memoryAt_l9 (v9_4).toNat o7)))), (a_t_isSignal, .inl (E 1, 40, .inl (A4 (up_ t_isSignal_l9 (v9_4).toNat o15)))), (a_t_upAt, .inl (E 0, 40, .inl (A4 t_upAt_l9))), (a_t_downAt, .inl (E 0, 40, .inl (A4 t_downAt_l9)))] → va_S A s.heap H locs → W p l e rm_X12_goThrough s m args below meth c H locs 0 0 Q (F0 m 192 ls [.int (z4 o_)]) := by
                    intro o_ ho_ H locs ls hl hP hD hS
                    subst ho_
                    refine lv_istore_n (lv' := [(3, .int (z4 o24)), (0, .ref a_t), (1, .int (z4 o7)), (2, .int (z4 o21)), (4, .int (z4 v9_4))]) hx hb dX12_goThrough_192 rfl hl (by decide) rfl (fun ls hl => ?_)
                    refine lv_aload_n hx hb dX12_goThrough_193 rfl (lv_at hl 1 rfl) ?_
                    refine m_get X hK hP cl_X12 iT_X12 17 (by decide) fl_X12_35 0 rfl rfl dX12_goThrough_194 ?_
                    refine lv_iload hx hb dX12_goThrough_197 (lv_at hl 4 rfl) ?_
                    refine lv_iload_n hx hb dX12_goThrough_199 rfl (lv_at hl 3 rfl) ?_
                    obtain ⟨h26, hr24⟩ := ck_some hr24
                    refine m_iast X hK hP hD hS 5 rfl (by decide) h26 [(a_t, .inr (12, [.ref a_t_now, .ref a_t_read, .ref a_t_past, .int (z4 t_deeds), .ref a_t_images, .ref a_t_isKept, .ref a_t_text, .int (z4 t_letters), .int (z4 t_at), .int (z4 t_tokenAt), .int (z4 t_tokenSort), .int (z4 t_tokenValue), .int (z4 t_items), .int (z4 t_isChanceTold), .int (z4 t_areSumsTold), .ref a_t_metAt, .ref a_t_memoryAt, .ref a_t_upAt, .ref a_t_downAt, .ref a_t_isSignal, .ref a_t_memories, .ref a_t_placeOf, .ref a_t_nextPlace, .int (z4 t_places), .ref a_t_kindOf, .ref a_t_newKind, .int (z4 t_kinds), .ref a_t_stateOfKind, .ref a_t_stateAt, .ref a_t_stepTo, .int (z4 t_states), .ref a_t_far, .ref a_t_ways, .ref a_t_nextWays, .ref a_t_table])), (a_t_now, .inl (E 0, 98, .inl (A4 t_now))), (a_t_metAt, .inl (E 0, 40, .inl (A4 (up_ t_metAt_l9 (v9_4).toNat o4)))), (a_t_memoryAt, .inl (E 0, 40, .inl (A4 (up_ t_memoryAt_l9 (v9_4).toNat o7)))), (a_t_isSignal, .inl (E 1, 40, .inl (A4 (up_ t_isSignal_l9 (v9_4).toNat o15)))), (a_t_upAt, .inl (E 0, 40, .inl (A4 (up_ t_upAt_l9 (v9_4).toNat o21)))), (a_t_downAt, .inl (E 0, 40, .inl (A4 t_downAt_l9)))] rfl dX12_goThrough_200 (fun H locs hP hD hS => ?_)
                    refine lv_aload_n hx hb dX12_goThrough_201 rfl (lv_at hl 1 rfl) ?_
                    refine m_get X hK hP cl_X12 iT_X12 18 (by decide) fl_X12_38 0 rfl rfl dX12_goThrough_202 ?_
                    refine lv_iload hx hb dX12_goThrough_205 (lv_at hl 4 rfl) ?_
                    refine lv_iload_n hx hb dX12_goThrough_207 rfl (lv_at hl 0 rfl) ?_
                    obtain ⟨h27, hr24⟩ := ck_some hr24
                    refine m_iast X hK hP hD hS 6 rfl (by decide) h27 [(a_t, .inr (12, [.ref a_t_now, .ref a_t_read, .ref a_t_past, .int (z4 t_deeds), .ref a_t_images, .ref a_t_isKept, .ref a_t_text, .int (z4 t_letters), .int (z4 t_at), .int (z4 t_tokenAt), .int (z4 t_tokenSort), .int (z4 t_tokenValue), .int (z4 t_items), .int (z4 t_isChanceTold), .int (z4 t_areSumsTold), .ref a_t_metAt, .ref a_t_memoryAt, .ref a_t_upAt, .ref a_t_downAt, .ref a_t_isSignal, .ref a_t_memories, .ref a_t_placeOf, .ref a_t_nextPlace, .int (z4 t_places), .ref a_t_kindOf, .ref a_t_newKind, .int (z4 t_kinds), .ref a_t_stateOfKind, .ref a_t_stateAt, .ref a_t_stepTo, .int (z4 t_states), .ref a_t_far, .ref a_t_ways, .ref a_t_nextWays, .ref a_t_table])), (a_t_now, .inl (E 0, 98, .inl (A4 t_now))), (a_t_metAt, .inl (E 0, 40, .inl (A4 (up_ t_metAt_l9 (v9_4).toNat o4)))), (a_t_memoryAt, .inl (E 0, 40, .inl (A4 (up_ t_memoryAt_l9 (v9_4).toNat o7)))), (a_t_isSignal, .inl (E 1, 40, .inl (A4 (up_ t_isSignal_l9 (v9_4).toNat o15)))), (a_t_upAt, .inl (E 0, 40, .inl (A4 (up_ t_upAt_l9 (v9_4).toNat o21)))), (a_t_downAt, .inl (E 0, 40, .inl (A4 (up_ t_downAt_l9 (v9_4).toNat o24))))] rfl dX12_goThrough_208 (fun H locs hP hD hS => ?_)
                    refine m_iinc X 4 [(4, .int (z4 (v9_4 + 1))), (3, .int (z4 o24)), (0, .ref a_t), (1, .int (z4 o7)), (2, .int (z4 o21))] dX12_goThrough_209 hl rfl (by decide) rfl (fun ls hl => ?_)
                    refine lv_goto (tgt := 9) hx hb dX12_goThrough_212 (by decide) ?_
                    obtain rfl := Option.some.inj hr24
                    exact ih1 _ _ _ _ _ _ _ _ _ _ _ _ (lv_sub hl [2, 3, 4, 1, 0] rfl) hP hD hS hq1
                  obtain ⟨h25, hj24⟩ := ck_some hj24
                  refine m_if_eq X h25 dX12_goThrough_184 (tgt := 191) (by decide) (fun (hc_ : (up_ t_isSignal_l9 (v9_4).toNat o15) (v9_4).toNat = 0) => ?_) (fun (hc_ : ¬ ((up_ t_isSignal_l9 (v9_4).toNat o15) (v9_4).toNat = 0)) => ?_)
                  · rw [if_pos hc_] at hj24
                    refine lv_iload_n hx hb dX12_goThrough_191 rfl (lv_at hl 3 rfl) ?_
                    exact J24 _ (Option.some.inj hj24).symm _ _ _ (lv_sub hl [1, 2, 0, 4] rfl) hP hD hS
                  · rw [if_neg hc_] at hj24
                    refine m_iconst X dX12_goThrough_187 ?_
                    refine lv_goto (tgt := 192) hx hb dX12_goThrough_188 (by decide) ?_
                    exact J24 _ (Option.some.inj hj24).symm _ _ _ (lv_sub hl [1, 2, 0, 4] rfl) hP hD hS
                obtain ⟨h22, hj21⟩ := ck_some hj21
                refine m_if_eq X h22 dX12_goThrough_168 (tgt := 175) (by decide) (fun (hc_ : (up_ t_isSignal_l9 (v9_4).toNat o15) (v9_4).toNat = 0) => ?_) (fun (hc_ : ¬ ((up_ t_isSignal_l9 (v9_4).toNat o15) (v9_4).toNat = 0)) => ?_)
                · rw [if_pos hc_] at hj21
                  refine lv_iload_n hx hb dX12_goThrough_175 rfl (lv_at hl 2 rfl) ?_
                  exact J21 _ (Option.some.inj hj21).symm _ _ _ (lv_sub hl [0, 1, 3, 4] rfl) hP hD hS
                · rw [if_neg hc_] at hj21
                  refine m_iconst X dX12_goThrough_171 ?_
                  refine lv_goto (tgt := 176) hx hb dX12_goThrough_172 (by decide) ?_
                  exact J21 _ (Option.some.inj hj21).symm _ _ _ (lv_sub hl [0, 1, 3, 4] rfl) hP hD hS
              obtain ⟨h16, hj15⟩ := ck_some hj15
              refine m_icmp_gt X h16 dX12_goThrough_141 (tgt := 155) (by decide) (fun (hc_ : t_now 16 < o11) => ?_) (fun (hc_ : ¬ (t_now 16 < o11)) => ?_)
              · rw [if_pos hc_] at hj15
                refine m_iconst X dX12_goThrough_155 ?_
                refine lv_goto (tgt := 160) hx hb dX12_goThrough_156 (by decide) ?_
                exact J15 _ (Option.some.inj hj15).symm _ _ _ (lv_sub hl [1, 2, 3, 0, 4] rfl) hP hD hS
              · rw [if_neg hc_] at hj15
                refine lv_iload_n hx hb dX12_goThrough_144 rfl (lv_at hl 0 rfl) ?_
                refine lv_aload_n hx hb dX12_goThrough_145 rfl (lv_at hl 1 rfl) ?_
                refine m_get X hK hP cl_X12 iT_X12 0 (by decide) fl_X12_7 0 rfl rfl dX12_goThrough_146 ?_
                refine m_bipush X dX12_goThrough_149 (by decide) ?_
                refine m_iald X hK hP 1 rfl (by decide) (by decide) dX12_goThrough_151 ?_
                obtain ⟨h17, hj15⟩ := ck_some hj15
                refine m_icmp_le X h17 dX12_goThrough_152 (tgt := 159) (by decide) (fun (hc_ : ¬ (t_now 16 < o13)) => ?_) (fun (hc_ : t_now 16 < o13) => ?_)
                · rw [if_neg hc_] at hj15
                  refine m_iconst X dX12_goThrough_159 ?_
                  exact J15 _ (Option.some.inj hj15).symm _ _ _ (lv_sub hl [1, 2, 3, 0, 4] rfl) hP hD hS
                · rw [if_pos hc_] at hj15
                  refine m_iconst X dX12_goThrough_155 ?_
                  refine lv_goto (tgt := 160) hx hb dX12_goThrough_156 (by decide) ?_
                  exact J15 _ (Option.some.inj hj15).symm _ _ _ (lv_sub hl [1, 2, 3, 0, 4] rfl) hP hD hS
            obtain ⟨h14, hj13⟩ := ck_some hj13
            refine m_if_ge X h14 dX12_goThrough_118 (tgt := 125) (by decide) (fun (hc_ : ¬ (v9_3 + ((2 - (t_now (58 + v9_4).toNat)) - (t_now 15)) < 0)) => ?_) (fun (hc_ : v9_3 + ((2 - (t_now (58 + v9_4).toNat)) - (t_now 15)) < 0) => ?_)
            · rw [if_neg hc_] at hj13
              refine lv_iload_n hx hb dX12_goThrough_125 rfl (lv_at hl 3 rfl) ?_
              exact J13 _ (Option.some.inj hj13).symm _ _ _ (lv_sub hl [1, 2, 0, 4] rfl) hP hD hS
            · rw [if_pos hc_] at hj13
              refine m_iconst X dX12_goThrough_121 ?_
              refine lv_goto (tgt := 126) hx hb dX12_goThrough_122 (by decide) ?_
              exact J13 _ (Option.some.inj hj13).symm _ _ _ (lv_sub hl [1, 2, 0, 4] rfl) hP hD hS
          obtain ⟨h12, hj11⟩ := ck_some hj11
          refine m_if_ge X h12 dX12_goThrough_108 (tgt := 115) (by decide) (fun (hc_ : ¬ (v9_2 + (((t_now (58 + v9_4).toNat) - 2) - (t_now 15)) < 0)) => ?_) (fun (hc_ : v9_2 + (((t_now (58 + v9_4).toNat) - 2) - (t_now 15)) < 0) => ?_)
          · rw [if_neg hc_] at hj11
            refine lv_iload_n hx hb dX12_goThrough_115 rfl (lv_at hl 1 rfl) ?_
            exact J11 _ (Option.some.inj hj11).symm _ _ _ (lv_sub hl [3, 2, 0, 4] rfl) hP hD hS
          · rw [if_pos hc_] at hj11
            refine m_iconst X dX12_goThrough_111 ?_
            refine lv_goto (tgt := 116) hx hb dX12_goThrough_112 (by decide) ?_
            exact J11 _ (Option.some.inj hj11).symm _ _ _ (lv_sub hl [3, 2, 0, 4] rfl) hP hD hS
        obtain ⟨h8, hj7⟩ := ck_some hj7
        refine m_if_ne X h8 dX12_goThrough_54 (tgt := 67) (by decide) (fun (hc_ : ¬ ((up_ t_metAt_l9 (v9_4).toNat o4) (v9_4).toNat = 0)) => ?_) (fun (hc_ : (up_ t_metAt_l9 (v9_4).toNat o4) (v9_4).toNat = 0) => ?_)
        · rw [if_neg hc_] at hj7
          refine m_iconst X dX12_goThrough_67 ?_
          exact J7 _ (Option.some.inj hj7).symm _ _ _ (lv_sub hl [1, 3, 4, 5, 0] rfl) hP hD hS
        · rw [if_pos hc_] at hj7
          refine lv_aload_n hx hb dX12_goThrough_57 rfl (lv_at hl 1 rfl) ?_
          refine lv_iload_n hx hb dX12_goThrough_58 rfl (lv_at hl 2 rfl) ?_
          refine lv_iload hx hb dX12_goThrough_59 (lv_at hl 0 rfl) ?_
          obtain ⟨o9, ho, hj7⟩ := bd_some hj7
          refine m_cVR X hK (k_X12_nextBy n a_t a_t_now a_t_read a_t_past a_t_images a_t_isKept a_t_text a_t_metAt a_t_memoryAt a_t_upAt a_t_downAt a_t_isSignal a_t_memories a_t_placeOf a_t_nextPlace a_t_kindOf a_t_newKind a_t_stateOfKind a_t_stateAt a_t_stepTo a_t_far a_t_ways a_t_nextWays a_t_table t_deeds t_letters t_at t_tokenAt t_tokenSort t_tokenValue t_items t_isChanceTold t_areSumsTold t_places t_kinds t_states t_now v9_1 (t_now (58 + v9_4).toNat) o9 ho) (hP.sub [0, 1] rfl) rfl cl_X12 lk_X12_182 co_X12_nextBy dy_X12_nextBy rfl rfl ⟨Nat.le_of_ble_eq_true rfl, Nat.le_of_ble_eq_true rfl⟩ hl.1 rfl (Nat.le_of_ble_eq_true rfl) dX12_goThrough_61 (Nat.zero_le _) (Nat.zero_le _) ?_
          refine lv_goto (tgt := 68) hx hb dX12_goThrough_64 (by decide) ?_
          exact J7 _ (Option.some.inj hj7).symm _ _ _ (lv_sub hl [1, 3, 4, 5, 0] rfl) hP hD hS
  exact L1 n _ _ _ _ _ _ _ _ _ _ _ _ (lv_sub hl [4, 3, 2, 1, 0] rfl) hP hD hS hj1
def F_X12_placeFor (n : Nat)  (t_places : Int) (t_placeOf : Nat → Int) (t_memories : Nat → Int) (x1 : Int) : Option (Int × Int × (Nat → Int) × (Nat → Int)) :=
  ck (ix_ x1 64) <|
  Option.bind (α := Int × (Nat → Int) × (Nat → Int)) (
    ck (r4 (t_placeOf (x1).toNat)) <|
    if t_placeOf (x1).toNat = (-9) then
      ck (ix_ x1 64) <|
      ck (ix_ t_places 64) <|
      some (t_places + 1, up_ t_placeOf (x1).toNat t_places, up_ t_memories (t_places).toNat x1)
    else
      some (t_places, t_placeOf, t_memories)) fun o2 =>
  ck (ix_ x1 64) <|
  some (o2.2.1 (x1).toNat, o2.1, o2.2.1, o2.2.2)
def rm_X12_placeFor : Room := { frames := 0, cells := 0, slots := 0, locals := 0 }
set_option maxHeartbeats 4000000 in
set_option maxRecDepth 100000 in
theorem k_X12_placeFor {l : Launch} {D : va_G} {E : Nat → ClassId} (n : Nat) (a_t a_t_now a_t_read a_t_past a_t_images a_t_isKept a_t_text a_t_metAt a_t_memoryAt a_t_upAt a_t_downAt a_t_isSignal a_t_memories a_t_placeOf a_t_nextPlace a_t_kindOf a_t_newKind a_t_stateOfKind a_t_stateAt a_t_stepTo a_t_far a_t_ways a_t_nextWays a_t_table : Nat) (t_deeds : Int) (t_letters : Int) (t_at : Int) (t_tokenAt : Int) (t_tokenSort : Int) (t_tokenValue : Int) (t_items : Int) (t_isChanceTold : Int) (t_areSumsTold : Int) (t_places : Int) (t_kinds : Int) (t_states : Int) (t_placeOf : Nat → Int) (t_memories : Nat → Int) (x1 : Int) (res : Int × Int × (Nat → Int) × (Nat → Int)) (hf : F_X12_placeFor n t_places t_placeOf t_memories x1 = some res) : MW l yX12_placeFor (.code yX12_placeFor cX12_placeFor 2 (some .int)) rm_X12_placeFor D E [.ref a_t, .int (z4 x1)] [(a_t, .inr (12, [.ref a_t_now, .ref a_t_read, .ref a_t_past, .int (z4 t_deeds), .ref a_t_images, .ref a_t_isKept, .ref a_t_text, .int (z4 t_letters), .int (z4 t_at), .int (z4 t_tokenAt), .int (z4 t_tokenSort), .int (z4 t_tokenValue), .int (z4 t_items), .int (z4 t_isChanceTold), .int (z4 t_areSumsTold), .ref a_t_metAt, .ref a_t_memoryAt, .ref a_t_upAt, .ref a_t_downAt, .ref a_t_isSignal, .ref a_t_memories, .ref a_t_placeOf, .ref a_t_nextPlace, .int (z4 t_places), .ref a_t_kindOf, .ref a_t_newKind, .int (z4 t_kinds), .ref a_t_stateOfKind, .ref a_t_stateAt, .ref a_t_stepTo, .int (z4 t_states), .ref a_t_far, .ref a_t_ways, .ref a_t_nextWays, .ref a_t_table])), (a_t_placeOf, .inl (E 0, 64, .inl (A4 t_placeOf))), (a_t_memories, .inl (E 0, 64, .inl (A4 t_memories)))] (some (.int (z4 res.1))) [(a_t, .inr (12, [.ref a_t_now, .ref a_t_read, .ref a_t_past, .int (z4 t_deeds), .ref a_t_images, .ref a_t_isKept, .ref a_t_text, .int (z4 t_letters), .int (z4 t_at), .int (z4 t_tokenAt), .int (z4 t_tokenSort), .int (z4 t_tokenValue), .int (z4 t_items), .int (z4 t_isChanceTold), .int (z4 t_areSumsTold), .ref a_t_metAt, .ref a_t_memoryAt, .ref a_t_upAt, .ref a_t_downAt, .ref a_t_isSignal, .ref a_t_memories, .ref a_t_placeOf, .ref a_t_nextPlace, .int (z4 res.2.1), .ref a_t_kindOf, .ref a_t_newKind, .int (z4 t_kinds), .ref a_t_stateOfKind, .ref a_t_stateAt, .ref a_t_stepTo, .int (z4 t_states), .ref a_t_far, .ref a_t_ways, .ref a_t_nextWays, .ref a_t_table])), (a_t_placeOf, .inl (E 0, 64, .inl (A4 res.2.2.1))), (a_t_memories, .inl (E 0, 64, .inl (A4 res.2.2.2)))] := by
  refine MWi (by decide) (Nat.le_of_ble_eq_true rfl) ?_
  intro p e s m args below meth c A Q X hK hP hD hA ret ls hl
  have hS : va_S A s.heap s.heap [] := va_S.rf
  have hx := X.1
  have hb := X.2.1
  have hl : lv_has ls 2 [(0, .ref a_t), (1, .int (z4 x1))] := hl
  unfold F_X12_placeFor at hf
  refine lv_aload_n hx hb dX12_placeFor_0 rfl (lv_at hl 0 rfl) ?_
  refine m_get X hK hP cl_X12 iT_X12 21 (by decide) fl_X12_47 0 rfl rfl dX12_placeFor_1 ?_
  refine lv_iload_n hx hb dX12_placeFor_4 rfl (lv_at hl 1 rfl) ?_
  obtain ⟨h1, hf⟩ := ck_some hf
  refine m_iald X hK hP 1 rfl (by decide) h1 dX12_placeFor_5 ?_
  refine m_bipush X dX12_placeFor_6 (by decide) ?_
  obtain ⟨o2, hj2, hr2⟩ := bd_some hf
  have J2 : ∀ (o_ : Int × (Nat → Int) × (Nat → Int)), o2 = o_ → ∀ (H : Heap) (locs : List Loc) (ls : Array Slot), lv_has ls 2 [(0, .ref a_t), (1, .int (z4 x1))] → va_P D vwCl [(a_t, .inr (12, [.ref a_t_now, .ref a_t_read, .ref a_t_past, .int (z4 t_deeds), .ref a_t_images, .ref a_t_isKept, .ref a_t_text, .int (z4 t_letters), .int (z4 t_at), .int (z4 t_tokenAt), .int (z4 t_tokenSort), .int (z4 t_tokenValue), .int (z4 t_items), .int (z4 t_isChanceTold), .int (z4 t_areSumsTold), .ref a_t_metAt, .ref a_t_memoryAt, .ref a_t_upAt, .ref a_t_downAt, .ref a_t_isSignal, .ref a_t_memories, .ref a_t_placeOf, .ref a_t_nextPlace, .int (z4 o_.1), .ref a_t_kindOf, .ref a_t_newKind, .int (z4 t_kinds), .ref a_t_stateOfKind, .ref a_t_stateAt, .ref a_t_stepTo, .int (z4 t_states), .ref a_t_far, .ref a_t_ways, .ref a_t_nextWays, .ref a_t_table])), (a_t_placeOf, .inl (E 0, 64, .inl (A4 o_.2.1))), (a_t_memories, .inl (E 0, 64, .inl (A4 o_.2.2)))] H → va_D A [(a_t, .inr (12, [.ref a_t_now, .ref a_t_read, .ref a_t_past, .int (z4 t_deeds), .ref a_t_images, .ref a_t_isKept, .ref a_t_text, .int (z4 t_letters), .int (z4 t_at), .int (z4 t_tokenAt), .int (z4 t_tokenSort), .int (z4 t_tokenValue), .int (z4 t_items), .int (z4 t_isChanceTold), .int (z4 t_areSumsTold), .ref a_t_metAt, .ref a_t_memoryAt, .ref a_t_upAt, .ref a_t_downAt, .ref a_t_isSignal, .ref a_t_memories, .ref a_t_placeOf, .ref a_t_nextPlace, .int (z4 o_.1), .ref a_t_kindOf, .ref a_t_newKind, .int (z4 t_kinds), .ref a_t_stateOfKind, .ref a_t_stateAt, .ref a_t_stepTo, .int (z4 t_states), .ref a_t_far, .ref a_t_ways, .ref a_t_nextWays, .ref a_t_table])), (a_t_placeOf, .inl (E 0, 64, .inl (A4 o_.2.1))), (a_t_memories, .inl (E 0, 64, .inl (A4 o_.2.2)))] → va_S A s.heap H locs → W p l e rm_X12_placeFor s m args below meth c H locs 0 0 Q (F0 m 41 ls []) := by
    intro o_ ho_ H locs ls hl hP hD hS
    subst ho_
    refine lv_aload_n hx hb dX12_placeFor_41 rfl (lv_at hl 0 rfl) ?_
    refine m_get X hK hP cl_X12 iT_X12 21 (by decide) fl_X12_47 0 rfl rfl dX12_placeFor_42 ?_
    refine lv_iload_n hx hb dX12_placeFor_45 rfl (lv_at hl 1 rfl) ?_
    obtain ⟨h6, hr2⟩ := ck_some hr2
    refine m_iald X hK hP 1 rfl (by decide) h6 dX12_placeFor_46 ?_
    obtain rfl := Option.some.inj hr2
    exact ret _ _ _ _ hP hD hS dX12_placeFor_47
  obtain ⟨h3, hj2⟩ := ck_some hj2
  refine m_icmp_ne X ⟨h3, ⟨by decide, by decide⟩⟩ dX12_placeFor_8 (tgt := 41) (by decide) (fun (hc_ : ¬ (t_placeOf (x1).toNat = (-9))) => ?_) (fun (hc_ : t_placeOf (x1).toNat = (-9)) => ?_)
  · rw [if_neg hc_] at hj2
    exact J2 _ (Option.some.inj hj2).symm _ _ _ (lv_sub hl [0, 1] rfl) hP hD hS
  · rw [if_pos hc_] at hj2
    refine lv_aload_n hx hb dX12_placeFor_11 rfl (lv_at hl 0 rfl) ?_
    refine m_get X hK hP cl_X12 iT_X12 21 (by decide) fl_X12_47 0 rfl rfl dX12_placeFor_12 ?_
    refine lv_iload_n hx hb dX12_placeFor_15 rfl (lv_at hl 1 rfl) ?_
    refine lv_aload_n hx hb dX12_placeFor_16 rfl (lv_at hl 0 rfl) ?_
    refine m_get X hK hP cl_X12 iT_X12 23 (by decide) fl_X12_185 0 rfl rfl dX12_placeFor_17 ?_
    obtain ⟨h4, hj2⟩ := ck_some hj2
    refine m_iast X hK hP hD hS 1 rfl (by decide) h4 [(a_t, .inr (12, [.ref a_t_now, .ref a_t_read, .ref a_t_past, .int (z4 t_deeds), .ref a_t_images, .ref a_t_isKept, .ref a_t_text, .int (z4 t_letters), .int (z4 t_at), .int (z4 t_tokenAt), .int (z4 t_tokenSort), .int (z4 t_tokenValue), .int (z4 t_items), .int (z4 t_isChanceTold), .int (z4 t_areSumsTold), .ref a_t_metAt, .ref a_t_memoryAt, .ref a_t_upAt, .ref a_t_downAt, .ref a_t_isSignal, .ref a_t_memories, .ref a_t_placeOf, .ref a_t_nextPlace, .int (z4 t_places), .ref a_t_kindOf, .ref a_t_newKind, .int (z4 t_kinds), .ref a_t_stateOfKind, .ref a_t_stateAt, .ref a_t_stepTo, .int (z4 t_states), .ref a_t_far, .ref a_t_ways, .ref a_t_nextWays, .ref a_t_table])), (a_t_placeOf, .inl (E 0, 64, .inl (A4 (up_ t_placeOf (x1).toNat t_places)))), (a_t_memories, .inl (E 0, 64, .inl (A4 t_memories)))] rfl dX12_placeFor_20 (fun H locs hP hD hS => ?_)
    refine lv_aload_n hx hb dX12_placeFor_21 rfl (lv_at hl 0 rfl) ?_
    refine m_get X hK hP cl_X12 iT_X12 20 (by decide) fl_X12_44 0 rfl rfl dX12_placeFor_22 ?_
    refine lv_aload_n hx hb dX12_placeFor_25 rfl (lv_at hl 0 rfl) ?_
    refine m_get X hK hP cl_X12 iT_X12 23 (by decide) fl_X12_185 0 rfl rfl dX12_placeFor_26 ?_
    refine lv_iload_n hx hb dX12_placeFor_29 rfl (lv_at hl 1 rfl) ?_
    obtain ⟨h5, hj2⟩ := ck_some hj2
    refine m_iast X hK hP hD hS 2 rfl (by decide) h5 [(a_t, .inr (12, [.ref a_t_now, .ref a_t_read, .ref a_t_past, .int (z4 t_deeds), .ref a_t_images, .ref a_t_isKept, .ref a_t_text, .int (z4 t_letters), .int (z4 t_at), .int (z4 t_tokenAt), .int (z4 t_tokenSort), .int (z4 t_tokenValue), .int (z4 t_items), .int (z4 t_isChanceTold), .int (z4 t_areSumsTold), .ref a_t_metAt, .ref a_t_memoryAt, .ref a_t_upAt, .ref a_t_downAt, .ref a_t_isSignal, .ref a_t_memories, .ref a_t_placeOf, .ref a_t_nextPlace, .int (z4 t_places), .ref a_t_kindOf, .ref a_t_newKind, .int (z4 t_kinds), .ref a_t_stateOfKind, .ref a_t_stateAt, .ref a_t_stepTo, .int (z4 t_states), .ref a_t_far, .ref a_t_ways, .ref a_t_nextWays, .ref a_t_table])), (a_t_placeOf, .inl (E 0, 64, .inl (A4 (up_ t_placeOf (x1).toNat t_places)))), (a_t_memories, .inl (E 0, 64, .inl (A4 (up_ t_memories (t_places).toNat x1))))] rfl dX12_placeFor_30 (fun H locs hP hD hS => ?_)
    refine lv_aload_n hx hb dX12_placeFor_31 rfl (lv_at hl 0 rfl) ?_
    refine lv_dup hx hb dX12_placeFor_32 rfl ?_
    refine m_get X hK hP cl_X12 iT_X12 23 (by decide) fl_X12_185 0 rfl rfl dX12_placeFor_33 ?_
    refine m_iconst X dX12_placeFor_36 ?_
    refine m_iadd X dX12_placeFor_37 ?_
    refine m_put X hK hP hD hS cl_X12 iT_X12 tyX12 tyX12_ok nmX12 23 (by decide) fl_X12_185 rfl 0 rfl rfl rfl (Nat.le_of_ble_eq_true rfl) [(a_t, .inr (12, [.ref a_t_now, .ref a_t_read, .ref a_t_past, .int (z4 t_deeds), .ref a_t_images, .ref a_t_isKept, .ref a_t_text, .int (z4 t_letters), .int (z4 t_at), .int (z4 t_tokenAt), .int (z4 t_tokenSort), .int (z4 t_tokenValue), .int (z4 t_items), .int (z4 t_isChanceTold), .int (z4 t_areSumsTold), .ref a_t_metAt, .ref a_t_memoryAt, .ref a_t_upAt, .ref a_t_downAt, .ref a_t_isSignal, .ref a_t_memories, .ref a_t_placeOf, .ref a_t_nextPlace, .int (z4 (t_places + 1)), .ref a_t_kindOf, .ref a_t_newKind, .int (z4 t_kinds), .ref a_t_stateOfKind, .ref a_t_stateAt, .ref a_t_stepTo, .int (z4 t_states), .ref a_t_far, .ref a_t_ways, .ref a_t_nextWays, .ref a_t_table])), (a_t_placeOf, .inl (E 0, 64, .inl (A4 (up_ t_placeOf (x1).toNat t_places)))), (a_t_memories, .inl (E 0, 64, .inl (A4 (up_ t_memories (t_places).toNat x1))))] rfl dX12_placeFor_38 (fun H locs hP hD hS => ?_)
    exact J2 _ (Option.some.inj hj2).symm _ _ _ (lv_sub hl [0, 1] rfl) hP hD hS
def F_X12_findMemories_L2 (n : Nat) (v2_1 : Int) (t_placeOf_l2 : Nat → Int) : Option ((Int × (Nat → Int)) ⊕ ((Nat → Int))) :=
  ck (r4 v2_1) <|
  if v2_1 < 64 then
    ck (ix_ v2_1 64) <|
    some (.inl (v2_1 + 1, up_ t_placeOf_l2 (v2_1).toNat (-9)))
  else
    some (.inr t_placeOf_l2)
def F_X12_findMemories_L45 (n : Nat) (v35_2 : Int) (t_now : Nat → Int) (v45_3 : Int) (t_places_l45 : Int) (t_placeOf_l45 : Nat → Int) (t_memories_l45 : Nat → Int) (t_nextPlace_l45 : Nat → Int) : Option ((Int × Int × (Nat → Int) × (Nat → Int) × (Nat → Int)) ⊕ (Int × (Nat → Int) × (Nat → Int) × (Nat → Int))) :=
  ck (r4 v45_3) <|
  if v45_3 < 5 then
    ck (ix_ v35_2 64) <|
    (F_X12_metBy n t_now (t_memories_l45 (v35_2).toNat) v45_3).bind fun o10 =>
    Option.bind (α := Int × Int × (Nat → Int) × (Nat → Int)) (
      ck (r4 o10) <|
      if o10 = 0 then
        (F_X12_nextBy n t_now (t_memories_l45 (v35_2).toNat) v45_3).bind fun o13 =>
        (F_X12_placeFor n t_places_l45 t_placeOf_l45 t_memories_l45 o13).bind fun o14 =>
        some (o14.1, o14.2.1, o14.2.2.1, o14.2.2.2)
      else
        some ((-5), t_places_l45, t_placeOf_l45, t_memories_l45)) fun o11 =>
    ck (ix_ ((5 * v35_2) + v45_3) 320) <|
    some (.inl (v45_3 + 1, o11.2.1, o11.2.2.1, o11.2.2.2, up_ t_nextPlace_l45 ((5 * v35_2) + v45_3).toNat o11.1))
  else
    some (.inr (t_places_l45, t_placeOf_l45, t_memories_l45, t_nextPlace_l45))
def F_X12_findMemories_L35 (n : Nat) (t_now : Nat → Int) (v35_2 : Int) (t_places_l35 : Int) (t_placeOf_l35 : Nat → Int) (t_memories_l35 : Nat → Int) (t_nextPlace_l35 : Nat → Int) : Option ((Int × Int × (Nat → Int) × (Nat → Int) × (Nat → Int)) ⊕ (Int × (Nat → Int) × (Nat → Int) × (Nat → Int))) :=
  ck (r4 v35_2 ∧ r4 t_places_l35) <|
  if v35_2 < t_places_l35 then
    (lp_ (fun (q : Int × Int × (Nat → Int) × (Nat → Int) × (Nat → Int)) => F_X12_findMemories_L45 n v35_2 t_now q.1 q.2.1 q.2.2.1 q.2.2.2.1 q.2.2.2.2) n (0, t_places_l35, t_placeOf_l35, t_memories_l35, t_nextPlace_l35)).bind fun o7 =>
    some (.inl (v35_2 + 1, o7.1, o7.2.1, o7.2.2.1, o7.2.2.2))
  else
    some (.inr (t_places_l35, t_placeOf_l35, t_memories_l35, t_nextPlace_l35))
def F_X12_findMemories (n : Nat)  (t_placeOf : Nat → Int) (t_memories : Nat → Int) (t_now : Nat → Int) (t_nextPlace : Nat → Int)  : Option (Int × (Nat → Int) × (Nat → Int) × (Nat → Int)) :=
  (lp_ (fun (q : Int × (Nat → Int)) => F_X12_findMemories_L2 n q.1 q.2) n (0, t_placeOf)).bind fun o1 =>
  (F_X12_placeFor n 0 o1 t_memories 0).bind fun o4 =>
  (lp_ (fun (q : Int × Int × (Nat → Int) × (Nat → Int) × (Nat → Int)) => F_X12_findMemories_L35 n t_now q.1 q.2.1 q.2.2.1 q.2.2.2.1 q.2.2.2.2) n (o4.1, o4.2.1, o4.2.2.1, o4.2.2.2, t_nextPlace)).bind fun o5 =>
  some (o5.1, o5.2.1, o5.2.2.1, o5.2.2.2)
def rm_X12_findMemories : Room := { frames := 2, cells := 0, slots := 0, locals := 50 }
set_option maxHeartbeats 4000000 in
set_option maxRecDepth 100000 in
theorem k_X12_findMemories {l : Launch} {D : va_G} {E : Nat → ClassId} (n : Nat) (a_t a_t_now a_t_read a_t_past a_t_images a_t_isKept a_t_text a_t_metAt a_t_memoryAt a_t_upAt a_t_downAt a_t_isSignal a_t_memories a_t_placeOf a_t_nextPlace a_t_kindOf a_t_newKind a_t_stateOfKind a_t_stateAt a_t_stepTo a_t_far a_t_ways a_t_nextWays a_t_table : Nat) (t_deeds : Int) (t_letters : Int) (t_at : Int) (t_tokenAt : Int) (t_tokenSort : Int) (t_tokenValue : Int) (t_items : Int) (t_isChanceTold : Int) (t_areSumsTold : Int) (t_places : Int) (t_kinds : Int) (t_states : Int) (t_placeOf : Nat → Int) (t_memories : Nat → Int) (t_now : Nat → Int) (t_nextPlace : Nat → Int) (res : Int × (Nat → Int) × (Nat → Int) × (Nat → Int)) (hf : F_X12_findMemories n t_placeOf t_memories t_now t_nextPlace = some res) : MW l yX12_findMemories (.code yX12_findMemories cX12_findMemories 5 none) rm_X12_findMemories D E [.ref a_t] [(a_t, .inr (12, [.ref a_t_now, .ref a_t_read, .ref a_t_past, .int (z4 t_deeds), .ref a_t_images, .ref a_t_isKept, .ref a_t_text, .int (z4 t_letters), .int (z4 t_at), .int (z4 t_tokenAt), .int (z4 t_tokenSort), .int (z4 t_tokenValue), .int (z4 t_items), .int (z4 t_isChanceTold), .int (z4 t_areSumsTold), .ref a_t_metAt, .ref a_t_memoryAt, .ref a_t_upAt, .ref a_t_downAt, .ref a_t_isSignal, .ref a_t_memories, .ref a_t_placeOf, .ref a_t_nextPlace, .int (z4 t_places), .ref a_t_kindOf, .ref a_t_newKind, .int (z4 t_kinds), .ref a_t_stateOfKind, .ref a_t_stateAt, .ref a_t_stepTo, .int (z4 t_states), .ref a_t_far, .ref a_t_ways, .ref a_t_nextWays, .ref a_t_table])), (a_t_placeOf, .inl (E 0, 64, .inl (A4 t_placeOf))), (a_t_memories, .inl (E 0, 64, .inl (A4 t_memories))), (a_t_now, .inl (E 0, 98, .inl (A4 t_now))), (a_t_nextPlace, .inl (E 0, 320, .inl (A4 t_nextPlace)))] none [(a_t, .inr (12, [.ref a_t_now, .ref a_t_read, .ref a_t_past, .int (z4 t_deeds), .ref a_t_images, .ref a_t_isKept, .ref a_t_text, .int (z4 t_letters), .int (z4 t_at), .int (z4 t_tokenAt), .int (z4 t_tokenSort), .int (z4 t_tokenValue), .int (z4 t_items), .int (z4 t_isChanceTold), .int (z4 t_areSumsTold), .ref a_t_metAt, .ref a_t_memoryAt, .ref a_t_upAt, .ref a_t_downAt, .ref a_t_isSignal, .ref a_t_memories, .ref a_t_placeOf, .ref a_t_nextPlace, .int (z4 res.1), .ref a_t_kindOf, .ref a_t_newKind, .int (z4 t_kinds), .ref a_t_stateOfKind, .ref a_t_stateAt, .ref a_t_stepTo, .int (z4 t_states), .ref a_t_far, .ref a_t_ways, .ref a_t_nextWays, .ref a_t_table])), (a_t_placeOf, .inl (E 0, 64, .inl (A4 res.2.1))), (a_t_memories, .inl (E 0, 64, .inl (A4 res.2.2.1))), (a_t_now, .inl (E 0, 98, .inl (A4 t_now))), (a_t_nextPlace, .inl (E 0, 320, .inl (A4 res.2.2.2)))] := by
  refine MWv (by decide) (Nat.le_of_ble_eq_true rfl) ?_
  intro p e s m args below meth c A Q X hK hP hD hA ret ls hl
  have hS : va_S A s.heap s.heap [] := va_S.rf
  have hx := X.1
  have hb := X.2.1
  have hl : lv_has ls 5 [(0, .ref a_t)] := hl
  unfold F_X12_findMemories at hf
  refine m_iconst X dX12_findMemories_0 ?_
  refine lv_istore_n (lv' := [(1, .int (z4 0)), (0, .ref a_t)]) hx hb dX12_findMemories_1 rfl hl (by decide) rfl (fun ls hl => ?_)
  obtain ⟨o1, hj1, hr1⟩ := bd_some hf
  have E1_0 : ∀ (o_ : (Nat → Int)), o1 = o_ → ∀ (H : Heap) (locs : List Loc) (ls : Array Slot), lv_has ls 5 [(0, .ref a_t)] → va_P D vwCl [(a_t, .inr (12, [.ref a_t_now, .ref a_t_read, .ref a_t_past, .int (z4 t_deeds), .ref a_t_images, .ref a_t_isKept, .ref a_t_text, .int (z4 t_letters), .int (z4 t_at), .int (z4 t_tokenAt), .int (z4 t_tokenSort), .int (z4 t_tokenValue), .int (z4 t_items), .int (z4 t_isChanceTold), .int (z4 t_areSumsTold), .ref a_t_metAt, .ref a_t_memoryAt, .ref a_t_upAt, .ref a_t_downAt, .ref a_t_isSignal, .ref a_t_memories, .ref a_t_placeOf, .ref a_t_nextPlace, .int (z4 t_places), .ref a_t_kindOf, .ref a_t_newKind, .int (z4 t_kinds), .ref a_t_stateOfKind, .ref a_t_stateAt, .ref a_t_stepTo, .int (z4 t_states), .ref a_t_far, .ref a_t_ways, .ref a_t_nextWays, .ref a_t_table])), (a_t_placeOf, .inl (E 0, 64, .inl (A4 o_))), (a_t_memories, .inl (E 0, 64, .inl (A4 t_memories))), (a_t_now, .inl (E 0, 98, .inl (A4 t_now))), (a_t_nextPlace, .inl (E 0, 320, .inl (A4 t_nextPlace)))] H → va_D A [(a_t, .inr (12, [.ref a_t_now, .ref a_t_read, .ref a_t_past, .int (z4 t_deeds), .ref a_t_images, .ref a_t_isKept, .ref a_t_text, .int (z4 t_letters), .int (z4 t_at), .int (z4 t_tokenAt), .int (z4 t_tokenSort), .int (z4 t_tokenValue), .int (z4 t_items), .int (z4 t_isChanceTold), .int (z4 t_areSumsTold), .ref a_t_metAt, .ref a_t_memoryAt, .ref a_t_upAt, .ref a_t_downAt, .ref a_t_isSignal, .ref a_t_memories, .ref a_t_placeOf, .ref a_t_nextPlace, .int (z4 t_places), .ref a_t_kindOf, .ref a_t_newKind, .int (z4 t_kinds), .ref a_t_stateOfKind, .ref a_t_stateAt, .ref a_t_stepTo, .int (z4 t_states), .ref a_t_far, .ref a_t_ways, .ref a_t_nextWays, .ref a_t_table])), (a_t_placeOf, .inl (E 0, 64, .inl (A4 o_))), (a_t_memories, .inl (E 0, 64, .inl (A4 t_memories))), (a_t_now, .inl (E 0, 98, .inl (A4 t_now))), (a_t_nextPlace, .inl (E 0, 320, .inl (A4 t_nextPlace)))] → va_S A s.heap H locs → W p l e rm_X12_findMemories s m args below meth c H locs 0 0 Q (F0 m 22 ls []) := by
    intro o_ ho_ H locs ls hl hP hD hS
    subst ho_
    refine lv_aload_n hx hb dX12_findMemories_22 rfl (lv_at hl 0 rfl) ?_
    refine m_iconst X dX12_findMemories_23 ?_
    refine m_put X hK hP hD hS cl_X12 iT_X12 tyX12 tyX12_ok nmX12 23 (by decide) fl_X12_185 rfl 0 rfl rfl rfl (Nat.le_of_ble_eq_true rfl) [(a_t, .inr (12, [.ref a_t_now, .ref a_t_read, .ref a_t_past, .int (z4 t_deeds), .ref a_t_images, .ref a_t_isKept, .ref a_t_text, .int (z4 t_letters), .int (z4 t_at), .int (z4 t_tokenAt), .int (z4 t_tokenSort), .int (z4 t_tokenValue), .int (z4 t_items), .int (z4 t_isChanceTold), .int (z4 t_areSumsTold), .ref a_t_metAt, .ref a_t_memoryAt, .ref a_t_upAt, .ref a_t_downAt, .ref a_t_isSignal, .ref a_t_memories, .ref a_t_placeOf, .ref a_t_nextPlace, .int (z4 0), .ref a_t_kindOf, .ref a_t_newKind, .int (z4 t_kinds), .ref a_t_stateOfKind, .ref a_t_stateAt, .ref a_t_stepTo, .int (z4 t_states), .ref a_t_far, .ref a_t_ways, .ref a_t_nextWays, .ref a_t_table])), (a_t_placeOf, .inl (E 0, 64, .inl (A4 o1))), (a_t_memories, .inl (E 0, 64, .inl (A4 t_memories))), (a_t_now, .inl (E 0, 98, .inl (A4 t_now))), (a_t_nextPlace, .inl (E 0, 320, .inl (A4 t_nextPlace)))] rfl dX12_findMemories_24 (fun H locs hP hD hS => ?_)
    refine lv_aload_n hx hb dX12_findMemories_27 rfl (lv_at hl 0 rfl) ?_
    refine m_iconst X dX12_findMemories_28 ?_
    obtain ⟨o4, ho, hr1⟩ := bd_some hr1
    refine m_cVW X hK hP hD hS hA (wr := [(a_t_now, .inl (E 0, 98, .inl (A4 t_now))), (a_t_nextPlace, .inl (E 0, 320, .inl (A4 t_nextPlace)))]) (k_X12_placeFor n a_t a_t_now a_t_read a_t_past a_t_images a_t_isKept a_t_text a_t_metAt a_t_memoryAt a_t_upAt a_t_downAt a_t_isSignal a_t_memories a_t_placeOf a_t_nextPlace a_t_kindOf a_t_newKind a_t_stateOfKind a_t_stateAt a_t_stepTo a_t_far a_t_ways a_t_nextWays a_t_table t_deeds t_letters t_at t_tokenAt t_tokenSort t_tokenValue t_items t_isChanceTold t_areSumsTold 0 t_kinds t_states o1 t_memories 0 o4 ho) [0, 1, 2] [3, 4] [2, 3, 4, 0, 1] [(a_t, .inr (12, [.ref a_t_now, .ref a_t_read, .ref a_t_past, .int (z4 t_deeds), .ref a_t_images, .ref a_t_isKept, .ref a_t_text, .int (z4 t_letters), .int (z4 t_at), .int (z4 t_tokenAt), .int (z4 t_tokenSort), .int (z4 t_tokenValue), .int (z4 t_items), .int (z4 t_isChanceTold), .int (z4 t_areSumsTold), .ref a_t_metAt, .ref a_t_memoryAt, .ref a_t_upAt, .ref a_t_downAt, .ref a_t_isSignal, .ref a_t_memories, .ref a_t_placeOf, .ref a_t_nextPlace, .int (z4 o4.2.1), .ref a_t_kindOf, .ref a_t_newKind, .int (z4 t_kinds), .ref a_t_stateOfKind, .ref a_t_stateAt, .ref a_t_stepTo, .int (z4 t_states), .ref a_t_far, .ref a_t_ways, .ref a_t_nextWays, .ref a_t_table])), (a_t_placeOf, .inl (E 0, 64, .inl (A4 o4.2.2.1))), (a_t_memories, .inl (E 0, 64, .inl (A4 o4.2.2.2))), (a_t_now, .inl (E 0, 98, .inl (A4 t_now))), (a_t_nextPlace, .inl (E 0, 320, .inl (A4 t_nextPlace)))] rfl rfl rfl rfl (by decide) rfl rfl rfl cl_X12 lk_X12_188 co_X12_placeFor dy_X12_placeFor rfl rfl ⟨Nat.le_of_ble_eq_true rfl, Nat.le_of_ble_eq_true rfl⟩ hl.1 rfl (Nat.le_of_ble_eq_true rfl) dX12_findMemories_29 (Nat.zero_le _) (Nat.zero_le _) (fun H locs hP hD hS => ?_)
    refine lv_istore_n (lv' := [(1, .int (z4 o4.1)), (0, .ref a_t)]) hx hb dX12_findMemories_32 rfl hl (by decide) rfl (fun ls hl => ?_)
    refine lv_iload_n hx hb dX12_findMemories_33 rfl (lv_at hl 0 rfl) ?_
    refine lv_istore_n (lv' := [(2, .int (z4 o4.1)), (1, .int (z4 o4.1)), (0, .ref a_t)]) hx hb dX12_findMemories_34 rfl hl (by decide) rfl (fun ls hl => ?_)
    obtain ⟨o5, hj5, hr5⟩ := bd_some hr1
    have E5_0 : ∀ (o_ : Int × (Nat → Int) × (Nat → Int) × (Nat → Int)), o5 = o_ → ∀ (H : Heap) (locs : List Loc) (ls : Array Slot), lv_has ls 5 [] → va_P D vwCl [(a_t, .inr (12, [.ref a_t_now, .ref a_t_read, .ref a_t_past, .int (z4 t_deeds), .ref a_t_images, .ref a_t_isKept, .ref a_t_text, .int (z4 t_letters), .int (z4 t_at), .int (z4 t_tokenAt), .int (z4 t_tokenSort), .int (z4 t_tokenValue), .int (z4 t_items), .int (z4 t_isChanceTold), .int (z4 t_areSumsTold), .ref a_t_metAt, .ref a_t_memoryAt, .ref a_t_upAt, .ref a_t_downAt, .ref a_t_isSignal, .ref a_t_memories, .ref a_t_placeOf, .ref a_t_nextPlace, .int (z4 o_.1), .ref a_t_kindOf, .ref a_t_newKind, .int (z4 t_kinds), .ref a_t_stateOfKind, .ref a_t_stateAt, .ref a_t_stepTo, .int (z4 t_states), .ref a_t_far, .ref a_t_ways, .ref a_t_nextWays, .ref a_t_table])), (a_t_placeOf, .inl (E 0, 64, .inl (A4 o_.2.1))), (a_t_memories, .inl (E 0, 64, .inl (A4 o_.2.2.1))), (a_t_now, .inl (E 0, 98, .inl (A4 t_now))), (a_t_nextPlace, .inl (E 0, 320, .inl (A4 o_.2.2.2)))] H → va_D A [(a_t, .inr (12, [.ref a_t_now, .ref a_t_read, .ref a_t_past, .int (z4 t_deeds), .ref a_t_images, .ref a_t_isKept, .ref a_t_text, .int (z4 t_letters), .int (z4 t_at), .int (z4 t_tokenAt), .int (z4 t_tokenSort), .int (z4 t_tokenValue), .int (z4 t_items), .int (z4 t_isChanceTold), .int (z4 t_areSumsTold), .ref a_t_metAt, .ref a_t_memoryAt, .ref a_t_upAt, .ref a_t_downAt, .ref a_t_isSignal, .ref a_t_memories, .ref a_t_placeOf, .ref a_t_nextPlace, .int (z4 o_.1), .ref a_t_kindOf, .ref a_t_newKind, .int (z4 t_kinds), .ref a_t_stateOfKind, .ref a_t_stateAt, .ref a_t_stepTo, .int (z4 t_states), .ref a_t_far, .ref a_t_ways, .ref a_t_nextWays, .ref a_t_table])), (a_t_placeOf, .inl (E 0, 64, .inl (A4 o_.2.1))), (a_t_memories, .inl (E 0, 64, .inl (A4 o_.2.2.1))), (a_t_now, .inl (E 0, 98, .inl (A4 t_now))), (a_t_nextPlace, .inl (E 0, 320, .inl (A4 o_.2.2.2)))] → va_S A s.heap H locs → W p l e rm_X12_findMemories s m args below meth c H locs 0 0 Q (F0 m 106 ls []) := by
      intro o_ ho_ H locs ls hl hP hD hS
      subst ho_
      obtain rfl := Option.some.inj hr5
      exact ret _ _ _ _ hP hD hS dX12_findMemories_106
    have L5 : ∀ (k_ : Nat) (v35_2 : Int) (t_places_l35 : Int) (t_placeOf_l35 : Nat → Int) (t_memories_l35 : Nat → Int) (t_nextPlace_l35 : Nat → Int), ∀ (H : Heap) (locs : List Loc) (ls : Array Slot), lv_has ls 5 [(0, .ref a_t), (2, .int (z4 v35_2))] → va_P D vwCl [(a_t, .inr (12, [.ref a_t_now, .ref a_t_read, .ref a_t_past, .int (z4 t_deeds), .ref a_t_images, .ref a_t_isKept, .ref a_t_text, .int (z4 t_letters), .int (z4 t_at), .int (z4 t_tokenAt), .int (z4 t_tokenSort), .int (z4 t_tokenValue), .int (z4 t_items), .int (z4 t_isChanceTold), .int (z4 t_areSumsTold), .ref a_t_metAt, .ref a_t_memoryAt, .ref a_t_upAt, .ref a_t_downAt, .ref a_t_isSignal, .ref a_t_memories, .ref a_t_placeOf, .ref a_t_nextPlace, .int (z4 t_places_l35), .ref a_t_kindOf, .ref a_t_newKind, .int (z4 t_kinds), .ref a_t_stateOfKind, .ref a_t_stateAt, .ref a_t_stepTo, .int (z4 t_states), .ref a_t_far, .ref a_t_ways, .ref a_t_nextWays, .ref a_t_table])), (a_t_placeOf, .inl (E 0, 64, .inl (A4 t_placeOf_l35))), (a_t_memories, .inl (E 0, 64, .inl (A4 t_memories_l35))), (a_t_now, .inl (E 0, 98, .inl (A4 t_now))), (a_t_nextPlace, .inl (E 0, 320, .inl (A4 t_nextPlace_l35)))] H → va_D A [(a_t, .inr (12, [.ref a_t_now, .ref a_t_read, .ref a_t_past, .int (z4 t_deeds), .ref a_t_images, .ref a_t_isKept, .ref a_t_text, .int (z4 t_letters), .int (z4 t_at), .int (z4 t_tokenAt), .int (z4 t_tokenSort), .int (z4 t_tokenValue), .int (z4 t_items), .int (z4 t_isChanceTold), .int (z4 t_areSumsTold), .ref a_t_metAt, .ref a_t_memoryAt, .ref a_t_upAt, .ref a_t_downAt, .ref a_t_isSignal, .ref a_t_memories, .ref a_t_placeOf, .ref a_t_nextPlace, .int (z4 t_places_l35), .ref a_t_kindOf, .ref a_t_newKind, .int (z4 t_kinds), .ref a_t_stateOfKind, .ref a_t_stateAt, .ref a_t_stepTo, .int (z4 t_states), .ref a_t_far, .ref a_t_ways, .ref a_t_nextWays, .ref a_t_table])), (a_t_placeOf, .inl (E 0, 64, .inl (A4 t_placeOf_l35))), (a_t_memories, .inl (E 0, 64, .inl (A4 t_memories_l35))), (a_t_now, .inl (E 0, 98, .inl (A4 t_now))), (a_t_nextPlace, .inl (E 0, 320, .inl (A4 t_nextPlace_l35)))] → va_S A s.heap H locs → lp_ (fun (q : Int × Int × (Nat → Int) × (Nat → Int) × (Nat → Int)) => F_X12_findMemories_L35 n t_now q.1 q.2.1 q.2.2.1 q.2.2.2.1 q.2.2.2.2) k_ (v35_2, t_places_l35, t_placeOf_l35, t_memories_l35, t_nextPlace_l35) = some o5 → W p l e rm_X12_findMemories s m args below meth c H locs 0 0 Q (F0 m 35 ls []) := by
      intro k_
      induction k_ with
      | zero =>
        intro v35_2 t_places_l35 t_placeOf_l35 t_memories_l35 t_nextPlace_l35 H locs ls hl hP hD hS hq_; exact (lp_zero hq_).elim
      | succ k_ ih5 =>
        intro v35_2 t_places_l35 t_placeOf_l35 t_memories_l35 t_nextPlace_l35 H locs ls hl hP hD hS hq_
        obtain ⟨t_5, hb5, hq5⟩ := lp_some hq_
        replace hb5 : F_X12_findMemories_L35 n t_now v35_2 t_places_l35 t_placeOf_l35 t_memories_l35 t_nextPlace_l35 = some t_5 := hb5
        unfold F_X12_findMemories_L35 at hb5
        refine lv_iload_n hx hb dX12_findMemories_35 rfl (lv_at hl 1 rfl) ?_
        refine lv_aload_n hx hb dX12_findMemories_36 rfl (lv_at hl 0 rfl) ?_
        refine m_get X hK hP cl_X12 iT_X12 23 (by decide) fl_X12_185 0 rfl rfl dX12_findMemories_37 ?_
        obtain ⟨h6, hb5⟩ := ck_some hb5
        refine m_icmp_ge X h6 dX12_findMemories_40 (tgt := 106) (by decide) (fun (hc_ : ¬ (v35_2 < t_places_l35)) => ?_) (fun (hc_ : v35_2 < t_places_l35) => ?_)
        · rw [if_neg hc_] at hb5
          obtain rfl := Option.some.inj hb5
          exact E5_0 _ (Option.some.inj hq5).symm _ _ _ (lv_sub hl [] rfl) hP hD hS
        · rw [if_pos hc_] at hb5
          refine m_iconst X dX12_findMemories_43 ?_
          refine lv_istore_n (lv' := [(3, .int (z4 0)), (0, .ref a_t), (2, .int (z4 v35_2))]) hx hb dX12_findMemories_44 rfl hl (by decide) rfl (fun ls hl => ?_)
          obtain ⟨o7, hj7, hr7⟩ := bd_some hb5
          have E7_0 : ∀ (o_ : Int × (Nat → Int) × (Nat → Int) × (Nat → Int)), o7 = o_ → ∀ (H : Heap) (locs : List Loc) (ls : Array Slot), lv_has ls 5 [(0, .ref a_t), (2, .int (z4 v35_2))] → va_P D vwCl [(a_t, .inr (12, [.ref a_t_now, .ref a_t_read, .ref a_t_past, .int (z4 t_deeds), .ref a_t_images, .ref a_t_isKept, .ref a_t_text, .int (z4 t_letters), .int (z4 t_at), .int (z4 t_tokenAt), .int (z4 t_tokenSort), .int (z4 t_tokenValue), .int (z4 t_items), .int (z4 t_isChanceTold), .int (z4 t_areSumsTold), .ref a_t_metAt, .ref a_t_memoryAt, .ref a_t_upAt, .ref a_t_downAt, .ref a_t_isSignal, .ref a_t_memories, .ref a_t_placeOf, .ref a_t_nextPlace, .int (z4 o_.1), .ref a_t_kindOf, .ref a_t_newKind, .int (z4 t_kinds), .ref a_t_stateOfKind, .ref a_t_stateAt, .ref a_t_stepTo, .int (z4 t_states), .ref a_t_far, .ref a_t_ways, .ref a_t_nextWays, .ref a_t_table])), (a_t_placeOf, .inl (E 0, 64, .inl (A4 o_.2.1))), (a_t_memories, .inl (E 0, 64, .inl (A4 o_.2.2.1))), (a_t_now, .inl (E 0, 98, .inl (A4 t_now))), (a_t_nextPlace, .inl (E 0, 320, .inl (A4 o_.2.2.2)))] H → va_D A [(a_t, .inr (12, [.ref a_t_now, .ref a_t_read, .ref a_t_past, .int (z4 t_deeds), .ref a_t_images, .ref a_t_isKept, .ref a_t_text, .int (z4 t_letters), .int (z4 t_at), .int (z4 t_tokenAt), .int (z4 t_tokenSort), .int (z4 t_tokenValue), .int (z4 t_items), .int (z4 t_isChanceTold), .int (z4 t_areSumsTold), .ref a_t_metAt, .ref a_t_memoryAt, .ref a_t_upAt, .ref a_t_downAt, .ref a_t_isSignal, .ref a_t_memories, .ref a_t_placeOf, .ref a_t_nextPlace, .int (z4 o_.1), .ref a_t_kindOf, .ref a_t_newKind, .int (z4 t_kinds), .ref a_t_stateOfKind, .ref a_t_stateAt, .ref a_t_stepTo, .int (z4 t_states), .ref a_t_far, .ref a_t_ways, .ref a_t_nextWays, .ref a_t_table])), (a_t_placeOf, .inl (E 0, 64, .inl (A4 o_.2.1))), (a_t_memories, .inl (E 0, 64, .inl (A4 o_.2.2.1))), (a_t_now, .inl (E 0, 98, .inl (A4 t_now))), (a_t_nextPlace, .inl (E 0, 320, .inl (A4 o_.2.2.2)))] → va_S A s.heap H locs → W p l e rm_X12_findMemories s m args below meth c H locs 0 0 Q (F0 m 100 ls []) := by
            intro o_ ho_ H locs ls hl hP hD hS
            subst ho_
            refine m_iinc X 1 [(2, .int (z4 (v35_2 + 1))), (0, .ref a_t)] dX12_findMemories_100 hl rfl (by decide) rfl (fun ls hl => ?_)
            refine lv_goto (tgt := 35) hx hb dX12_findMemories_103 (by decide) ?_
            obtain rfl := Option.some.inj hr7
            exact ih5 _ _ _ _ _ _ _ _ (lv_sub hl [1, 0] rfl) hP hD hS hq5
          have L7 : ∀ (k_ : Nat) (v45_3 : Int) (t_places_l45 : Int) (t_placeOf_l45 : Nat → Int) (t_memories_l45 : Nat → Int) (t_nextPlace_l45 : Nat → Int), ∀ (H : Heap) (locs : List Loc) (ls : Array Slot), lv_has ls 5 [(0, .ref a_t), (2, .int (z4 v35_2)), (3, .int (z4 v45_3))] → va_P D vwCl [(a_t, .inr (12, [.ref a_t_now, .ref a_t_read, .ref a_t_past, .int (z4 t_deeds), .ref a_t_images, .ref a_t_isKept, .ref a_t_text, .int (z4 t_letters), .int (z4 t_at), .int (z4 t_tokenAt), .int (z4 t_tokenSort), .int (z4 t_tokenValue), .int (z4 t_items), .int (z4 t_isChanceTold), .int (z4 t_areSumsTold), .ref a_t_metAt, .ref a_t_memoryAt, .ref a_t_upAt, .ref a_t_downAt, .ref a_t_isSignal, .ref a_t_memories, .ref a_t_placeOf, .ref a_t_nextPlace, .int (z4 t_places_l45), .ref a_t_kindOf, .ref a_t_newKind, .int (z4 t_kinds), .ref a_t_stateOfKind, .ref a_t_stateAt, .ref a_t_stepTo, .int (z4 t_states), .ref a_t_far, .ref a_t_ways, .ref a_t_nextWays, .ref a_t_table])), (a_t_placeOf, .inl (E 0, 64, .inl (A4 t_placeOf_l45))), (a_t_memories, .inl (E 0, 64, .inl (A4 t_memories_l45))), (a_t_now, .inl (E 0, 98, .inl (A4 t_now))), (a_t_nextPlace, .inl (E 0, 320, .inl (A4 t_nextPlace_l45)))] H → va_D A [(a_t, .inr (12, [.ref a_t_now, .ref a_t_read, .ref a_t_past, .int (z4 t_deeds), .ref a_t_images, .ref a_t_isKept, .ref a_t_text, .int (z4 t_letters), .int (z4 t_at), .int (z4 t_tokenAt), .int (z4 t_tokenSort), .int (z4 t_tokenValue), .int (z4 t_items), .int (z4 t_isChanceTold), .int (z4 t_areSumsTold), .ref a_t_metAt, .ref a_t_memoryAt, .ref a_t_upAt, .ref a_t_downAt, .ref a_t_isSignal, .ref a_t_memories, .ref a_t_placeOf, .ref a_t_nextPlace, .int (z4 t_places_l45), .ref a_t_kindOf, .ref a_t_newKind, .int (z4 t_kinds), .ref a_t_stateOfKind, .ref a_t_stateAt, .ref a_t_stepTo, .int (z4 t_states), .ref a_t_far, .ref a_t_ways, .ref a_t_nextWays, .ref a_t_table])), (a_t_placeOf, .inl (E 0, 64, .inl (A4 t_placeOf_l45))), (a_t_memories, .inl (E 0, 64, .inl (A4 t_memories_l45))), (a_t_now, .inl (E 0, 98, .inl (A4 t_now))), (a_t_nextPlace, .inl (E 0, 320, .inl (A4 t_nextPlace_l45)))] → va_S A s.heap H locs → lp_ (fun (q : Int × Int × (Nat → Int) × (Nat → Int) × (Nat → Int)) => F_X12_findMemories_L45 n v35_2 t_now q.1 q.2.1 q.2.2.1 q.2.2.2.1 q.2.2.2.2) k_ (v45_3, t_places_l45, t_placeOf_l45, t_memories_l45, t_nextPlace_l45) = some o7 → W p l e rm_X12_findMemories s m args below meth c H locs 0 0 Q (F0 m 45 ls []) := by
            intro k_
            induction k_ with
            | zero =>
              intro v45_3 t_places_l45 t_placeOf_l45 t_memories_l45 t_nextPlace_l45 H locs ls hl hP hD hS hq_; exact (lp_zero hq_).elim
            | succ k_ ih7 =>
              intro v45_3 t_places_l45 t_placeOf_l45 t_memories_l45 t_nextPlace_l45 H locs ls hl hP hD hS hq_
              obtain ⟨t_7, hb7, hq7⟩ := lp_some hq_
              replace hb7 : F_X12_findMemories_L45 n v35_2 t_now v45_3 t_places_l45 t_placeOf_l45 t_memories_l45 t_nextPlace_l45 = some t_7 := hb7
              unfold F_X12_findMemories_L45 at hb7
              refine lv_iload_n hx hb dX12_findMemories_45 rfl (lv_at hl 2 rfl) ?_
              refine m_iconst X dX12_findMemories_46 ?_
              obtain ⟨h8, hb7⟩ := ck_some hb7
              refine m_icmp_ge X ⟨h8, ⟨by decide, by decide⟩⟩ dX12_findMemories_47 (tgt := 100) (by decide) (fun (hc_ : ¬ (v45_3 < 5)) => ?_) (fun (hc_ : v45_3 < 5) => ?_)
              · rw [if_neg hc_] at hb7
                obtain rfl := Option.some.inj hb7
                exact E7_0 _ (Option.some.inj hq7).symm _ _ _ (lv_sub hl [0, 1] rfl) hP hD hS
              · rw [if_pos hc_] at hb7
                refine lv_aload_n hx hb dX12_findMemories_50 rfl (lv_at hl 0 rfl) ?_
                refine m_get X hK hP cl_X12 iT_X12 20 (by decide) fl_X12_44 0 rfl rfl dX12_findMemories_51 ?_
                refine lv_iload_n hx hb dX12_findMemories_54 rfl (lv_at hl 1 rfl) ?_
                obtain ⟨h9, hb7⟩ := ck_some hb7
                refine m_iald X hK hP 2 rfl (by decide) h9 dX12_findMemories_55 ?_
                refine lv_istore (lv' := [(4, .int (z4 (t_memories_l45 (v35_2).toNat))), (0, .ref a_t), (2, .int (z4 v35_2)), (3, .int (z4 v45_3))]) hx hb dX12_findMemories_56 hl (by decide) rfl (fun ls hl => ?_)
                refine lv_aload_n hx hb dX12_findMemories_58 rfl (lv_at hl 1 rfl) ?_
                refine m_get X hK hP cl_X12 iT_X12 22 (by decide) fl_X12_50 0 rfl rfl dX12_findMemories_59 ?_
                refine m_iconst X dX12_findMemories_62 ?_
                refine lv_iload_n hx hb dX12_findMemories_63 rfl (lv_at hl 2 rfl) ?_
                refine m_imul X dX12_findMemories_64 ?_
                refine lv_iload_n hx hb dX12_findMemories_65 rfl (lv_at hl 3 rfl) ?_
                refine m_iadd X dX12_findMemories_66 ?_
                refine lv_aload_n hx hb dX12_findMemories_67 rfl (lv_at hl 1 rfl) ?_
                refine lv_iload hx hb dX12_findMemories_68 (lv_at hl 0 rfl) ?_
                refine lv_iload_n hx hb dX12_findMemories_70 rfl (lv_at hl 3 rfl) ?_
                obtain ⟨o10, ho, hb7⟩ := bd_some hb7
                refine m_cVR X hK (k_X12_metBy n a_t a_t_now a_t_read a_t_past a_t_images a_t_isKept a_t_text a_t_metAt a_t_memoryAt a_t_upAt a_t_downAt a_t_isSignal a_t_memories a_t_placeOf a_t_nextPlace a_t_kindOf a_t_newKind a_t_stateOfKind a_t_stateAt a_t_stepTo a_t_far a_t_ways a_t_nextWays a_t_table t_deeds t_letters t_at t_tokenAt t_tokenSort t_tokenValue t_items t_isChanceTold t_areSumsTold t_places_l45 t_kinds t_states t_now (t_memories_l45 (v35_2).toNat) v45_3 o10 ho) (hP.sub [0, 3] rfl) rfl cl_X12 lk_X12_178 co_X12_metBy dy_X12_metBy rfl rfl ⟨Nat.le_of_ble_eq_true rfl, Nat.le_of_ble_eq_true rfl⟩ hl.1 rfl (Nat.le_of_ble_eq_true rfl) dX12_findMemories_71 (Nat.zero_le _) (Nat.zero_le _) ?_
                obtain ⟨o11, hj11, hr11⟩ := bd_some hb7
                have J11 : ∀ (o_ : Int × Int × (Nat → Int) × (Nat → Int)), o11 = o_ → ∀ (H : Heap) (locs : List Loc) (ls : Array Slot), lv_has ls 5 [(0, .ref a_t), (2, .int (z4 v35_2)), (3, .int (z4 v45_3))] → va_P D vwCl [(a_t, .inr (12, [.ref a_t_now, .ref a_t_read, .ref a_t_past, .int (z4 t_deeds), .ref a_t_images, .ref a_t_isKept, .ref a_t_text, .int (z4 t_letters), .int (z4 t_at), .int (z4 t_tokenAt), .int (z4 t_tokenSort), .int (z4 t_tokenValue), .int (z4 t_items), .int (z4 t_isChanceTold), .int (z4 t_areSumsTold), .ref a_t_metAt, .ref a_t_memoryAt, .ref a_t_upAt, .ref a_t_downAt, .ref a_t_isSignal, .ref a_t_memories, .ref a_t_placeOf, .ref a_t_nextPlace, .int (z4 o_.2.1), .ref a_t_kindOf, .ref a_t_newKind, .int (z4 t_kinds), .ref a_t_stateOfKind, .ref a_t_stateAt, .ref a_t_stepTo, .int (z4 t_states), .ref a_t_far, .ref a_t_ways, .ref a_t_nextWays, .ref a_t_table])), (a_t_placeOf, .inl (E 0, 64, .inl (A4 o_.2.2.1))), (a_t_memories, .inl (E 0, 64, .inl (A4 o_.2.2.2))), (a_t_now, .inl (E 0, 98, .inl (A4 t_now))), (a_t_nextPlace, .inl (E 0, 320, .inl (A4 t_nextPlace_l45)))] H → va_D A [(a_t, .inr (12, [.ref a_t_now, .ref a_t_read, .ref a_t_past, .int (z4 t_deeds), .ref a_t_images, .ref a_t_isKept, .ref a_t_text, .int (z4 t_letters), .int (z4 t_at), .int (z4 t_tokenAt), .int (z4 t_tokenSort), .int (z4 t_tokenValue), .int (z4 t_items), .int (z4 t_isChanceTold), .int (z4 t_areSumsTold), .ref a_t_metAt, .ref a_t_memoryAt, .ref a_t_upAt, .ref a_t_downAt, .ref a_t_isSignal, .ref a_t_memories, .ref a_t_placeOf, .ref a_t_nextPlace, .int (z4 o_.2.1), .ref a_t_kindOf, .ref a_t_newKind, .int (z4 t_kinds), .ref a_t_stateOfKind, .ref a_t_stateAt, .ref a_t_stepTo, .int (z4 t_states), .ref a_t_far, .ref a_t_ways, .ref a_t_nextWays, .ref a_t_table])), (a_t_placeOf, .inl (E 0, 64, .inl (A4 o_.2.2.1))), (a_t_memories, .inl (E 0, 64, .inl (A4 o_.2.2.2))), (a_t_now, .inl (E 0, 98, .inl (A4 t_now))), (a_t_nextPlace, .inl (E 0, 320, .inl (A4 t_nextPlace_l45)))] → va_S A s.heap H locs → W p l e rm_X12_findMemories s m args below meth c H locs 0 0 Q (F0 m 93 ls [.int (z4 o_.1), .int (z4 ((5 * v35_2) + v45_3)), .ref a_t_nextPlace]) := by
                  intro o_ ho_ H locs ls hl hP hD hS
                  subst ho_
                  obtain ⟨h15, hr11⟩ := ck_some hr11
                  refine m_iast X hK hP hD hS 4 rfl (by decide) h15 [(a_t, .inr (12, [.ref a_t_now, .ref a_t_read, .ref a_t_past, .int (z4 t_deeds), .ref a_t_images, .ref a_t_isKept, .ref a_t_text, .int (z4 t_letters), .int (z4 t_at), .int (z4 t_tokenAt), .int (z4 t_tokenSort), .int (z4 t_tokenValue), .int (z4 t_items), .int (z4 t_isChanceTold), .int (z4 t_areSumsTold), .ref a_t_metAt, .ref a_t_memoryAt, .ref a_t_upAt, .ref a_t_downAt, .ref a_t_isSignal, .ref a_t_memories, .ref a_t_placeOf, .ref a_t_nextPlace, .int (z4 o11.2.1), .ref a_t_kindOf, .ref a_t_newKind, .int (z4 t_kinds), .ref a_t_stateOfKind, .ref a_t_stateAt, .ref a_t_stepTo, .int (z4 t_states), .ref a_t_far, .ref a_t_ways, .ref a_t_nextWays, .ref a_t_table])), (a_t_placeOf, .inl (E 0, 64, .inl (A4 o11.2.2.1))), (a_t_memories, .inl (E 0, 64, .inl (A4 o11.2.2.2))), (a_t_now, .inl (E 0, 98, .inl (A4 t_now))), (a_t_nextPlace, .inl (E 0, 320, .inl (A4 (up_ t_nextPlace_l45 ((5 * v35_2) + v45_3).toNat o11.1))))] rfl dX12_findMemories_93 (fun H locs hP hD hS => ?_)
                  refine m_iinc X 2 [(3, .int (z4 (v45_3 + 1))), (0, .ref a_t), (2, .int (z4 v35_2))] dX12_findMemories_94 hl rfl (by decide) rfl (fun ls hl => ?_)
                  refine lv_goto (tgt := 45) hx hb dX12_findMemories_97 (by decide) ?_
                  obtain rfl := Option.some.inj hr11
                  exact ih7 _ _ _ _ _ _ _ _ (lv_sub hl [1, 2, 0] rfl) hP hD hS hq7
                obtain ⟨h12, hj11⟩ := ck_some hj11
                refine m_if_eq X h12 dX12_findMemories_74 (tgt := 82) (by decide) (fun (hc_ : o10 = 0) => ?_) (fun (hc_ : ¬ (o10 = 0)) => ?_)
                · rw [if_pos hc_] at hj11
                  refine lv_aload_n hx hb dX12_findMemories_82 rfl (lv_at hl 1 rfl) ?_
                  refine lv_aload_n hx hb dX12_findMemories_83 rfl (lv_at hl 1 rfl) ?_
                  refine lv_iload hx hb dX12_findMemories_84 (lv_at hl 0 rfl) ?_
                  refine lv_iload_n hx hb dX12_findMemories_86 rfl (lv_at hl 3 rfl) ?_
                  obtain ⟨o13, ho, hj11⟩ := bd_some hj11
                  refine m_cVR X hK (k_X12_nextBy n a_t a_t_now a_t_read a_t_past a_t_images a_t_isKept a_t_text a_t_metAt a_t_memoryAt a_t_upAt a_t_downAt a_t_isSignal a_t_memories a_t_placeOf a_t_nextPlace a_t_kindOf a_t_newKind a_t_stateOfKind a_t_stateAt a_t_stepTo a_t_far a_t_ways a_t_nextWays a_t_table t_deeds t_letters t_at t_tokenAt t_tokenSort t_tokenValue t_items t_isChanceTold t_areSumsTold t_places_l45 t_kinds t_states t_now (t_memories_l45 (v35_2).toNat) v45_3 o13 ho) (hP.sub [0, 3] rfl) rfl cl_X12 lk_X12_182 co_X12_nextBy dy_X12_nextBy rfl rfl ⟨Nat.le_of_ble_eq_true rfl, Nat.le_of_ble_eq_true rfl⟩ hl.1 rfl (Nat.le_of_ble_eq_true rfl) dX12_findMemories_87 (Nat.zero_le _) (Nat.zero_le _) ?_
                  obtain ⟨o14, ho, hj11⟩ := bd_some hj11
                  refine m_cVW X hK hP hD hS hA (wr := [(a_t_now, .inl (E 0, 98, .inl (A4 t_now))), (a_t_nextPlace, .inl (E 0, 320, .inl (A4 t_nextPlace_l45)))]) (k_X12_placeFor n a_t a_t_now a_t_read a_t_past a_t_images a_t_isKept a_t_text a_t_metAt a_t_memoryAt a_t_upAt a_t_downAt a_t_isSignal a_t_memories a_t_placeOf a_t_nextPlace a_t_kindOf a_t_newKind a_t_stateOfKind a_t_stateAt a_t_stepTo a_t_far a_t_ways a_t_nextWays a_t_table t_deeds t_letters t_at t_tokenAt t_tokenSort t_tokenValue t_items t_isChanceTold t_areSumsTold t_places_l45 t_kinds t_states t_placeOf_l45 t_memories_l45 o13 o14 ho) [0, 1, 2] [3, 4] [2, 3, 4, 0, 1] [(a_t, .inr (12, [.ref a_t_now, .ref a_t_read, .ref a_t_past, .int (z4 t_deeds), .ref a_t_images, .ref a_t_isKept, .ref a_t_text, .int (z4 t_letters), .int (z4 t_at), .int (z4 t_tokenAt), .int (z4 t_tokenSort), .int (z4 t_tokenValue), .int (z4 t_items), .int (z4 t_isChanceTold), .int (z4 t_areSumsTold), .ref a_t_metAt, .ref a_t_memoryAt, .ref a_t_upAt, .ref a_t_downAt, .ref a_t_isSignal, .ref a_t_memories, .ref a_t_placeOf, .ref a_t_nextPlace, .int (z4 o14.2.1), .ref a_t_kindOf, .ref a_t_newKind, .int (z4 t_kinds), .ref a_t_stateOfKind, .ref a_t_stateAt, .ref a_t_stepTo, .int (z4 t_states), .ref a_t_far, .ref a_t_ways, .ref a_t_nextWays, .ref a_t_table])), (a_t_placeOf, .inl (E 0, 64, .inl (A4 o14.2.2.1))), (a_t_memories, .inl (E 0, 64, .inl (A4 o14.2.2.2))), (a_t_now, .inl (E 0, 98, .inl (A4 t_now))), (a_t_nextPlace, .inl (E 0, 320, .inl (A4 t_nextPlace_l45)))] rfl rfl rfl rfl (by decide) rfl rfl rfl cl_X12 lk_X12_188 co_X12_placeFor dy_X12_placeFor rfl rfl ⟨Nat.le_of_ble_eq_true rfl, Nat.le_of_ble_eq_true rfl⟩ hl.1 rfl (Nat.le_of_ble_eq_true rfl) dX12_findMemories_90 (Nat.zero_le _) (Nat.zero_le _) (fun H locs hP hD hS => ?_)
                  exact J11 _ (Option.some.inj hj11).symm _ _ _ (lv_sub hl [1, 2, 3] rfl) hP hD hS
                · rw [if_neg hc_] at hj11
                  refine m_bipush X dX12_findMemories_77 (by decide) ?_
                  refine lv_goto (tgt := 93) hx hb dX12_findMemories_79 (by decide) ?_
                  exact J11 _ (Option.some.inj hj11).symm _ _ _ (lv_sub hl [1, 2, 3] rfl) hP hD hS
          exact L7 n _ _ _ _ _ _ _ _ (lv_sub hl [1, 2, 0] rfl) hP hD hS hj7
    exact L5 n _ _ _ _ _ _ _ _ (lv_sub hl [2, 0] rfl) hP hD hS hj5
  have L1 : ∀ (k_ : Nat) (v2_1 : Int) (t_placeOf_l2 : Nat → Int), ∀ (H : Heap) (locs : List Loc) (ls : Array Slot), lv_has ls 5 [(0, .ref a_t), (1, .int (z4 v2_1))] → va_P D vwCl [(a_t, .inr (12, [.ref a_t_now, .ref a_t_read, .ref a_t_past, .int (z4 t_deeds), .ref a_t_images, .ref a_t_isKept, .ref a_t_text, .int (z4 t_letters), .int (z4 t_at), .int (z4 t_tokenAt), .int (z4 t_tokenSort), .int (z4 t_tokenValue), .int (z4 t_items), .int (z4 t_isChanceTold), .int (z4 t_areSumsTold), .ref a_t_metAt, .ref a_t_memoryAt, .ref a_t_upAt, .ref a_t_downAt, .ref a_t_isSignal, .ref a_t_memories, .ref a_t_placeOf, .ref a_t_nextPlace, .int (z4 t_places), .ref a_t_kindOf, .ref a_t_newKind, .int (z4 t_kinds), .ref a_t_stateOfKind, .ref a_t_stateAt, .ref a_t_stepTo, .int (z4 t_states), .ref a_t_far, .ref a_t_ways, .ref a_t_nextWays, .ref a_t_table])), (a_t_placeOf, .inl (E 0, 64, .inl (A4 t_placeOf_l2))), (a_t_memories, .inl (E 0, 64, .inl (A4 t_memories))), (a_t_now, .inl (E 0, 98, .inl (A4 t_now))), (a_t_nextPlace, .inl (E 0, 320, .inl (A4 t_nextPlace)))] H → va_D A [(a_t, .inr (12, [.ref a_t_now, .ref a_t_read, .ref a_t_past, .int (z4 t_deeds), .ref a_t_images, .ref a_t_isKept, .ref a_t_text, .int (z4 t_letters), .int (z4 t_at), .int (z4 t_tokenAt), .int (z4 t_tokenSort), .int (z4 t_tokenValue), .int (z4 t_items), .int (z4 t_isChanceTold), .int (z4 t_areSumsTold), .ref a_t_metAt, .ref a_t_memoryAt, .ref a_t_upAt, .ref a_t_downAt, .ref a_t_isSignal, .ref a_t_memories, .ref a_t_placeOf, .ref a_t_nextPlace, .int (z4 t_places), .ref a_t_kindOf, .ref a_t_newKind, .int (z4 t_kinds), .ref a_t_stateOfKind, .ref a_t_stateAt, .ref a_t_stepTo, .int (z4 t_states), .ref a_t_far, .ref a_t_ways, .ref a_t_nextWays, .ref a_t_table])), (a_t_placeOf, .inl (E 0, 64, .inl (A4 t_placeOf_l2))), (a_t_memories, .inl (E 0, 64, .inl (A4 t_memories))), (a_t_now, .inl (E 0, 98, .inl (A4 t_now))), (a_t_nextPlace, .inl (E 0, 320, .inl (A4 t_nextPlace)))] → va_S A s.heap H locs → lp_ (fun (q : Int × (Nat → Int)) => F_X12_findMemories_L2 n q.1 q.2) k_ (v2_1, t_placeOf_l2) = some o1 → W p l e rm_X12_findMemories s m args below meth c H locs 0 0 Q (F0 m 2 ls []) := by
    intro k_
    induction k_ with
    | zero =>
      intro v2_1 t_placeOf_l2 H locs ls hl hP hD hS hq_; exact (lp_zero hq_).elim
    | succ k_ ih1 =>
      intro v2_1 t_placeOf_l2 H locs ls hl hP hD hS hq_
      obtain ⟨t_1, hb1, hq1⟩ := lp_some hq_
      replace hb1 : F_X12_findMemories_L2 n v2_1 t_placeOf_l2 = some t_1 := hb1
      unfold F_X12_findMemories_L2 at hb1
      refine lv_iload_n hx hb dX12_findMemories_2 rfl (lv_at hl 1 rfl) ?_
      refine m_bipush X dX12_findMemories_3 (by decide) ?_
      obtain ⟨h2, hb1⟩ := ck_some hb1
      refine m_icmp_ge X ⟨h2, ⟨by decide, by decide⟩⟩ dX12_findMemories_5 (tgt := 22) (by decide) (fun (hc_ : ¬ (v2_1 < 64)) => ?_) (fun (hc_ : v2_1 < 64) => ?_)
      · rw [if_neg hc_] at hb1
        obtain rfl := Option.some.inj hb1
        exact E1_0 _ (Option.some.inj hq1).symm _ _ _ (lv_sub hl [0] rfl) hP hD hS
      · rw [if_pos hc_] at hb1
        refine lv_aload_n hx hb dX12_findMemories_8 rfl (lv_at hl 0 rfl) ?_
        refine m_get X hK hP cl_X12 iT_X12 21 (by decide) fl_X12_47 0 rfl rfl dX12_findMemories_9 ?_
        refine lv_iload_n hx hb dX12_findMemories_12 rfl (lv_at hl 1 rfl) ?_
        refine m_bipush X dX12_findMemories_13 (by decide) ?_
        obtain ⟨h3, hb1⟩ := ck_some hb1
        refine m_iast X hK hP hD hS 1 rfl (by decide) h3 [(a_t, .inr (12, [.ref a_t_now, .ref a_t_read, .ref a_t_past, .int (z4 t_deeds), .ref a_t_images, .ref a_t_isKept, .ref a_t_text, .int (z4 t_letters), .int (z4 t_at), .int (z4 t_tokenAt), .int (z4 t_tokenSort), .int (z4 t_tokenValue), .int (z4 t_items), .int (z4 t_isChanceTold), .int (z4 t_areSumsTold), .ref a_t_metAt, .ref a_t_memoryAt, .ref a_t_upAt, .ref a_t_downAt, .ref a_t_isSignal, .ref a_t_memories, .ref a_t_placeOf, .ref a_t_nextPlace, .int (z4 t_places), .ref a_t_kindOf, .ref a_t_newKind, .int (z4 t_kinds), .ref a_t_stateOfKind, .ref a_t_stateAt, .ref a_t_stepTo, .int (z4 t_states), .ref a_t_far, .ref a_t_ways, .ref a_t_nextWays, .ref a_t_table])), (a_t_placeOf, .inl (E 0, 64, .inl (A4 (up_ t_placeOf_l2 (v2_1).toNat (-9))))), (a_t_memories, .inl (E 0, 64, .inl (A4 t_memories))), (a_t_now, .inl (E 0, 98, .inl (A4 t_now))), (a_t_nextPlace, .inl (E 0, 320, .inl (A4 t_nextPlace)))] rfl dX12_findMemories_15 (fun H locs hP hD hS => ?_)
        refine m_iinc X 1 [(1, .int (z4 (v2_1 + 1))), (0, .ref a_t)] dX12_findMemories_16 hl rfl (by decide) rfl (fun ls hl => ?_)
        refine lv_goto (tgt := 2) hx hb dX12_findMemories_19 (by decide) ?_
        obtain rfl := Option.some.inj hb1
        exact ih1 _ _ _ _ _ (lv_sub hl [1, 0] rfl) hP hD hS hq1
  exact L1 n _ _ _ _ _ (lv_sub hl [1, 0] rfl) hP hD hS hj1
def F_X12_kindBehind (n : Nat)  (t_nextPlace : Nat → Int) (t_kindOf : Nat → Int) (x1 : Int) (x2 : Int) : Option (Int) :=
  ck (ix_ ((5 * x1) + x2) 320) <|
  Option.bind (α := Int) (
    ck (r4 (t_nextPlace ((5 * x1) + x2).toNat)) <|
    if t_nextPlace ((5 * x1) + x2).toNat = (-5) then
      some (-5)
    else
      ck (ix_ (t_nextPlace ((5 * x1) + x2).toNat) 64) <|
      some (t_kindOf (t_nextPlace ((5 * x1) + x2).toNat).toNat)) fun o2 =>
  some o2
def rm_X12_kindBehind : Room := { frames := 0, cells := 0, slots := 0, locals := 0 }
set_option maxHeartbeats 4000000 in
set_option maxRecDepth 100000 in
theorem k_X12_kindBehind {l : Launch} {D : va_G} {E : Nat → ClassId} (n : Nat) (a_t a_t_now a_t_read a_t_past a_t_images a_t_isKept a_t_text a_t_metAt a_t_memoryAt a_t_upAt a_t_downAt a_t_isSignal a_t_memories a_t_placeOf a_t_nextPlace a_t_kindOf a_t_newKind a_t_stateOfKind a_t_stateAt a_t_stepTo a_t_far a_t_ways a_t_nextWays a_t_table : Nat) (t_deeds : Int) (t_letters : Int) (t_at : Int) (t_tokenAt : Int) (t_tokenSort : Int) (t_tokenValue : Int) (t_items : Int) (t_isChanceTold : Int) (t_areSumsTold : Int) (t_places : Int) (t_kinds : Int) (t_states : Int) (t_nextPlace : Nat → Int) (t_kindOf : Nat → Int) (x1 : Int) (x2 : Int) (res : Int) (hf : F_X12_kindBehind n t_nextPlace t_kindOf x1 x2 = some res) : MR l yX12_kindBehind (.code yX12_kindBehind cX12_kindBehind 4 (some .int)) rm_X12_kindBehind D E [.ref a_t, .int (z4 x1), .int (z4 x2)] [(a_t, .inr (12, [.ref a_t_now, .ref a_t_read, .ref a_t_past, .int (z4 t_deeds), .ref a_t_images, .ref a_t_isKept, .ref a_t_text, .int (z4 t_letters), .int (z4 t_at), .int (z4 t_tokenAt), .int (z4 t_tokenSort), .int (z4 t_tokenValue), .int (z4 t_items), .int (z4 t_isChanceTold), .int (z4 t_areSumsTold), .ref a_t_metAt, .ref a_t_memoryAt, .ref a_t_upAt, .ref a_t_downAt, .ref a_t_isSignal, .ref a_t_memories, .ref a_t_placeOf, .ref a_t_nextPlace, .int (z4 t_places), .ref a_t_kindOf, .ref a_t_newKind, .int (z4 t_kinds), .ref a_t_stateOfKind, .ref a_t_stateAt, .ref a_t_stepTo, .int (z4 t_states), .ref a_t_far, .ref a_t_ways, .ref a_t_nextWays, .ref a_t_table])), (a_t_nextPlace, .inl (E 0, 320, .inl (A4 t_nextPlace))), (a_t_kindOf, .inl (E 0, 64, .inl (A4 t_kindOf)))] (some (.int (z4 res))) := by
  refine MRi (by decide) (Nat.le_of_ble_eq_true rfl) ?_
  intro p e s m args below meth c Q X hK hP ret ls hl
  have hx := X.1
  have hb := X.2.1
  have hl : lv_has ls 4 [(0, .ref a_t), (1, .int (z4 x1)), (2, .int (z4 x2))] := hl
  unfold F_X12_kindBehind at hf
  refine lv_aload_n hx hb dX12_kindBehind_0 rfl (lv_at hl 0 rfl) ?_
  refine m_get X hK hP cl_X12 iT_X12 22 (by decide) fl_X12_50 0 rfl rfl dX12_kindBehind_1 ?_
  refine m_iconst X dX12_kindBehind_4 ?_
  refine lv_iload_n hx hb dX12_kindBehind_5 rfl (lv_at hl 1 rfl) ?_
  refine m_imul X dX12_kindBehind_6 ?_
  refine lv_iload_n hx hb dX12_kindBehind_7 rfl (lv_at hl 2 rfl) ?_
  refine m_iadd X dX12_kindBehind_8 ?_
  obtain ⟨h1, hf⟩ := ck_some hf
  refine m_iald X hK hP 1 rfl (by decide) h1 dX12_kindBehind_9 ?_
  refine lv_istore_n (lv' := [(3, .int (z4 (t_nextPlace ((5 * x1) + x2).toNat))), (0, .ref a_t), (1, .int (z4 x1)), (2, .int (z4 x2))]) hx hb dX12_kindBehind_10 rfl hl (by decide) rfl (fun ls hl => ?_)
  refine lv_iload_n hx hb dX12_kindBehind_11 rfl (lv_at hl 0 rfl) ?_
  refine m_bipush X dX12_kindBehind_12 (by decide) ?_
  obtain ⟨o2, hj2, hr2⟩ := bd_some hf
  have J2 : ∀ (o_ : Int), o2 = o_ → ∀ (ls : Array Slot), lv_has ls 4 [] → W p l e rm_X12_kindBehind s m args below meth c s.heap [] 0 0 Q (F0 m 28 ls [.int (z4 o_)]) := by
    intro o_ ho_ ls hl 
    subst ho_
    obtain rfl := Option.some.inj hr2
    exact ret _ _ dX12_kindBehind_28
  obtain ⟨h3, hj2⟩ := ck_some hj2
  refine m_icmp_ne X ⟨h3, ⟨by decide, by decide⟩⟩ dX12_kindBehind_14 (tgt := 22) (by decide) (fun (hc_ : ¬ (t_nextPlace ((5 * x1) + x2).toNat = (-5))) => ?_) (fun (hc_ : t_nextPlace ((5 * x1) + x2).toNat = (-5)) => ?_)
  · rw [if_neg hc_] at hj2
    refine lv_aload_n hx hb dX12_kindBehind_22 rfl (lv_at hl 1 rfl) ?_
    refine m_get X hK hP cl_X12 iT_X12 24 (by decide) fl_X12_53 0 rfl rfl dX12_kindBehind_23 ?_
    refine lv_iload_n hx hb dX12_kindBehind_26 rfl (lv_at hl 0 rfl) ?_
    obtain ⟨h4, hj2⟩ := ck_some hj2
    refine m_iald X hK hP 2 rfl (by decide) h4 dX12_kindBehind_27 ?_
    exact J2 _ (Option.some.inj hj2).symm _ (lv_sub hl [] rfl) 
  · rw [if_pos hc_] at hj2
    refine m_bipush X dX12_kindBehind_17 (by decide) ?_
    refine lv_goto (tgt := 28) hx hb dX12_kindBehind_19 (by decide) ?_
    exact J2 _ (Option.some.inj hj2).symm _ (lv_sub hl [] rfl) 
def F_X12_areLike_L24 (n : Nat) (t_nextPlace : Nat → Int) (t_kindOf : Nat → Int) (x1 : Int) (x2 : Int) (v24_3 : Int) (v24_4 : Int) : Option ((Int × Int) ⊕ (Int)) :=
  ck (r4 v24_4) <|
  if v24_4 < 5 then
    ck (r4 v24_3) <|
    if v24_3 = 0 then
      some (.inr v24_3)
    else
      (F_X12_kindBehind n t_nextPlace t_kindOf x1 v24_4).bind fun o8 =>
      (F_X12_kindBehind n t_nextPlace t_kindOf x2 v24_4).bind fun o9 =>
      Option.bind (α := Int) (
        ck (r4 o8 ∧ r4 o9) <|
        if o8 = o9 then
          some 1
        else
          some 0) fun o10 =>
      some (.inl (o10, v24_4 + 1))
  else
    some (.inr v24_3)
def F_X12_areLike (n : Nat)  (t_kindOf : Nat → Int) (t_nextPlace : Nat → Int) (x1 : Int) (x2 : Int) : Option (Int) :=
  ck (ix_ x1 64) <|
  ck (ix_ x2 64) <|
  Option.bind (α := Int) (
    ck (r4 (t_kindOf (x1).toNat) ∧ r4 (t_kindOf (x2).toNat)) <|
    if t_kindOf (x1).toNat = t_kindOf (x2).toNat then
      some 1
    else
      some 0) fun o3 =>
  (lp_ (fun (q : Int × Int) => F_X12_areLike_L24 n t_nextPlace t_kindOf x1 x2 q.1 q.2) n (o3, 0)).bind fun o5 =>
  ck (o5 = 0 ∨ o5 = 1) <|
  some o5
def rm_X12_areLike : Room := { frames := 1, cells := 0, slots := 0, locals := 23 }
set_option maxHeartbeats 4000000 in
set_option maxRecDepth 100000 in
theorem k_X12_areLike {l : Launch} {D : va_G} {E : Nat → ClassId} (n : Nat) (a_t a_t_now a_t_read a_t_past a_t_images a_t_isKept a_t_text a_t_metAt a_t_memoryAt a_t_upAt a_t_downAt a_t_isSignal a_t_memories a_t_placeOf a_t_nextPlace a_t_kindOf a_t_newKind a_t_stateOfKind a_t_stateAt a_t_stepTo a_t_far a_t_ways a_t_nextWays a_t_table : Nat) (t_deeds : Int) (t_letters : Int) (t_at : Int) (t_tokenAt : Int) (t_tokenSort : Int) (t_tokenValue : Int) (t_items : Int) (t_isChanceTold : Int) (t_areSumsTold : Int) (t_places : Int) (t_kinds : Int) (t_states : Int) (t_kindOf : Nat → Int) (t_nextPlace : Nat → Int) (x1 : Int) (x2 : Int) (res : Int) (hf : F_X12_areLike n t_kindOf t_nextPlace x1 x2 = some res) : MR l yX12_areLike (.code yX12_areLike cX12_areLike 5 (some .boolean)) rm_X12_areLike D E [.ref a_t, .int (z4 x1), .int (z4 x2)] [(a_t, .inr (12, [.ref a_t_now, .ref a_t_read, .ref a_t_past, .int (z4 t_deeds), .ref a_t_images, .ref a_t_isKept, .ref a_t_text, .int (z4 t_letters), .int (z4 t_at), .int (z4 t_tokenAt), .int (z4 t_tokenSort), .int (z4 t_tokenValue), .int (z4 t_items), .int (z4 t_isChanceTold), .int (z4 t_areSumsTold), .ref a_t_metAt, .ref a_t_memoryAt, .ref a_t_upAt, .ref a_t_downAt, .ref a_t_isSignal, .ref a_t_memories, .ref a_t_placeOf, .ref a_t_nextPlace, .int (z4 t_places), .ref a_t_kindOf, .ref a_t_newKind, .int (z4 t_kinds), .ref a_t_stateOfKind, .ref a_t_stateAt, .ref a_t_stepTo, .int (z4 t_states), .ref a_t_far, .ref a_t_ways, .ref a_t_nextWays, .ref a_t_table])), (a_t_kindOf, .inl (E 0, 64, .inl (A4 t_kindOf))), (a_t_nextPlace, .inl (E 0, 320, .inl (A4 t_nextPlace)))] (some (.int (z4 res))) := by
  refine MRz (by decide) (Nat.le_of_ble_eq_true rfl) ?_
  intro p e s m args below meth c Q X hK hP ret ls hl
  have hx := X.1
  have hb := X.2.1
  have hl : lv_has ls 5 [(0, .ref a_t), (1, .int (z4 x1)), (2, .int (z4 x2))] := hl
  unfold F_X12_areLike at hf
  refine lv_aload_n hx hb dX12_areLike_0 rfl (lv_at hl 0 rfl) ?_
  refine m_get X hK hP cl_X12 iT_X12 24 (by decide) fl_X12_53 0 rfl rfl dX12_areLike_1 ?_
  refine lv_iload_n hx hb dX12_areLike_4 rfl (lv_at hl 1 rfl) ?_
  obtain ⟨h1, hf⟩ := ck_some hf
  refine m_iald X hK hP 1 rfl (by decide) h1 dX12_areLike_5 ?_
  refine lv_aload_n hx hb dX12_areLike_6 rfl (lv_at hl 0 rfl) ?_
  refine m_get X hK hP cl_X12 iT_X12 24 (by decide) fl_X12_53 0 rfl rfl dX12_areLike_7 ?_
  refine lv_iload_n hx hb dX12_areLike_10 rfl (lv_at hl 2 rfl) ?_
  obtain ⟨h2, hf⟩ := ck_some hf
  refine m_iald X hK hP 1 rfl (by decide) h2 dX12_areLike_11 ?_
  obtain ⟨o3, hj3, hr3⟩ := bd_some hf
  have J3 : ∀ (o_ : Int), o3 = o_ → ∀ (ls : Array Slot), lv_has ls 5 [(0, .ref a_t), (1, .int (z4 x1)), (2, .int (z4 x2))] → W p l e rm_X12_areLike s m args below meth c s.heap [] 0 0 Q (F0 m 20 ls [.int (z4 o_)]) := by
    intro o_ ho_ ls hl 
    subst ho_
    refine lv_istore_n (lv' := [(3, .int (z4 o3)), (0, .ref a_t), (1, .int (z4 x1)), (2, .int (z4 x2))]) hx hb dX12_areLike_20 rfl hl (by decide) rfl (fun ls hl => ?_)
    refine m_iconst X dX12_areLike_21 ?_
    refine lv_istore (lv' := [(4, .int (z4 0)), (3, .int (z4 o3)), (0, .ref a_t), (1, .int (z4 x1)), (2, .int (z4 x2))]) hx hb dX12_areLike_22 hl (by decide) rfl (fun ls hl => ?_)
    obtain ⟨o5, hj5, hr5⟩ := bd_some hr3
    have E5_0 : ∀ (o_ : Int), o5 = o_ → ∀ (ls : Array Slot), lv_has ls 5 [(3, .int (z4 o_))] → W p l e rm_X12_areLike s m args below meth c s.heap [] 0 0 Q (F0 m 63 ls []) := by
      intro o_ ho_ ls hl 
      subst ho_
      refine lv_iload_n hx hb dX12_areLike_63 rfl (lv_at hl 0 rfl) ?_
      obtain ⟨h12, hr5⟩ := ck_some hr5
      obtain rfl := Option.some.inj hr5
      exact ret _ _ h12 dX12_areLike_64
    have L5 : ∀ (k_ : Nat) (v24_3 : Int) (v24_4 : Int), ∀ (ls : Array Slot), lv_has ls 5 [(0, .ref a_t), (1, .int (z4 x1)), (2, .int (z4 x2)), (3, .int (z4 v24_3)), (4, .int (z4 v24_4))] → lp_ (fun (q : Int × Int) => F_X12_areLike_L24 n t_nextPlace t_kindOf x1 x2 q.1 q.2) k_ (v24_3, v24_4) = some o5 → W p l e rm_X12_areLike s m args below meth c s.heap [] 0 0 Q (F0 m 24 ls []) := by
      intro k_
      induction k_ with
      | zero =>
        intro v24_3 v24_4 ls hl  hq_; exact (lp_zero hq_).elim
      | succ k_ ih5 =>
        intro v24_3 v24_4 ls hl  hq_
        obtain ⟨t_5, hb5, hq5⟩ := lp_some hq_
        replace hb5 : F_X12_areLike_L24 n t_nextPlace t_kindOf x1 x2 v24_3 v24_4 = some t_5 := hb5
        unfold F_X12_areLike_L24 at hb5
        refine lv_iload hx hb dX12_areLike_24 (lv_at hl 4 rfl) ?_
        refine m_iconst X dX12_areLike_26 ?_
        obtain ⟨h6, hb5⟩ := ck_some hb5
        refine m_icmp_ge X ⟨h6, ⟨by decide, by decide⟩⟩ dX12_areLike_27 (tgt := 63) (by decide) (fun (hc_ : ¬ (v24_4 < 5)) => ?_) (fun (hc_ : v24_4 < 5) => ?_)
        · rw [if_neg hc_] at hb5
          obtain rfl := Option.some.inj hb5
          exact E5_0 _ (Option.some.inj hq5).symm _ (lv_sub hl [3] rfl) 
        · rw [if_pos hc_] at hb5
          refine lv_iload_n hx hb dX12_areLike_30 rfl (lv_at hl 3 rfl) ?_
          obtain ⟨h7, hb5⟩ := ck_some hb5
          refine m_if_eq X h7 dX12_areLike_31 (tgt := 63) (by decide) (fun (hc_ : v24_3 = 0) => ?_) (fun (hc_ : ¬ (v24_3 = 0)) => ?_)
          · rw [if_pos hc_] at hb5
            obtain rfl := Option.some.inj hb5
            exact E5_0 _ (Option.some.inj hq5).symm _ (lv_sub hl [3] rfl) 
          · rw [if_neg hc_] at hb5
            refine lv_aload_n hx hb dX12_areLike_34 rfl (lv_at hl 0 rfl) ?_
            refine lv_iload_n hx hb dX12_areLike_35 rfl (lv_at hl 1 rfl) ?_
            refine lv_iload hx hb dX12_areLike_36 (lv_at hl 4 rfl) ?_
            obtain ⟨o8, ho, hb5⟩ := bd_some hb5
            refine m_cVR X hK (k_X12_kindBehind n a_t a_t_now a_t_read a_t_past a_t_images a_t_isKept a_t_text a_t_metAt a_t_memoryAt a_t_upAt a_t_downAt a_t_isSignal a_t_memories a_t_placeOf a_t_nextPlace a_t_kindOf a_t_newKind a_t_stateOfKind a_t_stateAt a_t_stepTo a_t_far a_t_ways a_t_nextWays a_t_table t_deeds t_letters t_at t_tokenAt t_tokenSort t_tokenValue t_items t_isChanceTold t_areSumsTold t_places t_kinds t_states t_nextPlace t_kindOf x1 v24_4 o8 ho) (hP.sub [0, 2, 1] rfl) rfl cl_X12 lk_X12_191 co_X12_kindBehind dy_X12_kindBehind rfl rfl ⟨Nat.le_of_ble_eq_true rfl, Nat.le_of_ble_eq_true rfl⟩ hl.1 rfl (Nat.le_of_ble_eq_true rfl) dX12_areLike_38 (Nat.zero_le _) (Nat.zero_le _) ?_
            refine lv_aload_n hx hb dX12_areLike_41 rfl (lv_at hl 0 rfl) ?_
            refine lv_iload_n hx hb dX12_areLike_42 rfl (lv_at hl 2 rfl) ?_
            refine lv_iload hx hb dX12_areLike_43 (lv_at hl 4 rfl) ?_
            obtain ⟨o9, ho, hb5⟩ := bd_some hb5
            refine m_cVR X hK (k_X12_kindBehind n a_t a_t_now a_t_read a_t_past a_t_images a_t_isKept a_t_text a_t_metAt a_t_memoryAt a_t_upAt a_t_downAt a_t_isSignal a_t_memories a_t_placeOf a_t_nextPlace a_t_kindOf a_t_newKind a_t_stateOfKind a_t_stateAt a_t_stepTo a_t_far a_t_ways a_t_nextWays a_t_table t_deeds t_letters t_at t_tokenAt t_tokenSort t_tokenValue t_items t_isChanceTold t_areSumsTold t_places t_kinds t_states t_nextPlace t_kindOf x2 v24_4 o9 ho) (hP.sub [0, 2, 1] rfl) rfl cl_X12 lk_X12_191 co_X12_kindBehind dy_X12_kindBehind rfl rfl ⟨Nat.le_of_ble_eq_true rfl, Nat.le_of_ble_eq_true rfl⟩ hl.1 rfl (Nat.le_of_ble_eq_true rfl) dX12_areLike_45 (Nat.zero_le _) (Nat.zero_le _) ?_
            obtain ⟨o10, hj10, hr10⟩ := bd_some hb5
            have J10 : ∀ (o_ : Int), o10 = o_ → ∀ (ls : Array Slot), lv_has ls 5 [(0, .ref a_t), (1, .int (z4 x1)), (2, .int (z4 x2)), (4, .int (z4 v24_4))] → W p l e rm_X12_areLike s m args below meth c s.heap [] 0 0 Q (F0 m 56 ls [.int (z4 o_)]) := by
              intro o_ ho_ ls hl 
              subst ho_
              refine lv_istore_n (lv' := [(3, .int (z4 o10)), (0, .ref a_t), (1, .int (z4 x1)), (2, .int (z4 x2)), (4, .int (z4 v24_4))]) hx hb dX12_areLike_56 rfl hl (by decide) rfl (fun ls hl => ?_)
              refine m_iinc X 4 [(4, .int (z4 (v24_4 + 1))), (3, .int (z4 o10)), (0, .ref a_t), (1, .int (z4 x1)), (2, .int (z4 x2))] dX12_areLike_57 hl rfl (by decide) rfl (fun ls hl => ?_)
              refine lv_goto (tgt := 24) hx hb dX12_areLike_60 (by decide) ?_
              obtain rfl := Option.some.inj hr10
              exact ih5 _ _ _ (lv_sub hl [2, 3, 4, 1, 0] rfl)  hq5
            obtain ⟨h11, hj10⟩ := ck_some hj10
            refine m_icmp_ne X h11 dX12_areLike_48 (tgt := 55) (by decide) (fun (hc_ : ¬ (o8 = o9)) => ?_) (fun (hc_ : o8 = o9) => ?_)
            · rw [if_neg hc_] at hj10
              refine m_iconst X dX12_areLike_55 ?_
              exact J10 _ (Option.some.inj hj10).symm _ (lv_sub hl [0, 1, 2, 4] rfl) 
            · rw [if_pos hc_] at hj10
              refine m_iconst X dX12_areLike_51 ?_
              refine lv_goto (tgt := 56) hx hb dX12_areLike_52 (by decide) ?_
              exact J10 _ (Option.some.inj hj10).symm _ (lv_sub hl [0, 1, 2, 4] rfl) 
    exact L5 n _ _ _ (lv_sub hl [2, 3, 4, 1, 0] rfl)  hj5
  obtain ⟨h4, hj3⟩ := ck_some hj3
  refine m_icmp_ne X h4 dX12_areLike_12 (tgt := 19) (by decide) (fun (hc_ : ¬ (t_kindOf (x1).toNat = t_kindOf (x2).toNat)) => ?_) (fun (hc_ : t_kindOf (x1).toNat = t_kindOf (x2).toNat) => ?_)
  · rw [if_neg hc_] at hj3
    refine m_iconst X dX12_areLike_19 ?_
    exact J3 _ (Option.some.inj hj3).symm _ (lv_sub hl [0, 1, 2] rfl) 
  · rw [if_pos hc_] at hj3
    refine m_iconst X dX12_areLike_15 ?_
    refine lv_goto (tgt := 20) hx hb dX12_areLike_16 (by decide) ?_
    exact J3 _ (Option.some.inj hj3).symm _ (lv_sub hl [0, 1, 2] rfl) 
def F_X12_findKinds_L2 (n : Nat) (t_places : Int) (v2_1 : Int) (t_kindOf_l2 : Nat → Int) : Option ((Int × (Nat → Int)) ⊕ ((Nat → Int))) :=
  ck (r4 v2_1 ∧ r4 t_places) <|
  if v2_1 < t_places then
    ck (ix_ v2_1 64) <|
    some (.inl (v2_1 + 1, up_ t_kindOf_l2 (v2_1).toNat 0))
  else
    some (.inr t_kindOf_l2)
def F_X12_findKinds_L65 (n : Nat) (t_kindOf_l30 : Nat → Int) (t_nextPlace : Nat → Int) (v50_2 : Int) (v65_3 : Int) (v65_4 : Int) : Option ((Int × Int) ⊕ (Int)) :=
  ck (r4 v65_4) <|
  if v65_4 < 0 then
    some (.inr v65_3)
  else
    (F_X12_areLike n t_kindOf_l30 t_nextPlace v50_2 v65_4).bind fun o10 =>
    Option.bind (α := Int) (
      ck (r4 o10) <|
      if o10 = 0 then
        some v65_3
      else
        some v65_4) fun o11 =>
    some (.inl (o11, v65_4 + (-1)))
def F_X12_findKinds_L50 (n : Nat) (t_places : Int) (t_kindOf_l30 : Nat → Int) (t_nextPlace : Nat → Int) (v50_2 : Int) (t_kinds_l50 : Int) (t_newKind_l50 : Nat → Int) : Option ((Int × Int × (Nat → Int)) ⊕ (Int × (Nat → Int))) :=
  ck (r4 v50_2 ∧ r4 t_places) <|
  if v50_2 < t_places then
    (lp_ (fun (q : Int × Int) => F_X12_findKinds_L65 n t_kindOf_l30 t_nextPlace v50_2 q.1 q.2) n (v50_2, v50_2 - 1)).bind fun o8 =>
    Option.bind (α := Int) (
      ck (r4 o8 ∧ r4 v50_2) <|
      if o8 = v50_2 then
        some t_kinds_l50
      else
        ck (ix_ o8 64) <|
        some (t_newKind_l50 (o8).toNat)) fun o13 =>
    ck (ix_ v50_2 64) <|
    Option.bind (α := Int) (
      ck (r4 o8 ∧ r4 v50_2) <|
      if o8 = v50_2 then
        some 1
      else
        some 0) fun o17 =>
    some (.inl (v50_2 + 1, t_kinds_l50 + o17, up_ t_newKind_l50 (v50_2).toNat o13))
  else
    some (.inr (t_kinds_l50, t_newKind_l50))
def F_X12_findKinds_L144 (n : Nat) (t_places : Int) (o6 : Int × (Nat → Int)) (v144_2 : Int) (t_kindOf_l144 : Nat → Int) : Option ((Int × (Nat → Int)) ⊕ ((Nat → Int))) :=
  ck (r4 v144_2 ∧ r4 t_places) <|
  if v144_2 < t_places then
    ck (ix_ v144_2 64) <|
    ck (ix_ v144_2 64) <|
    some (.inl (v144_2 + 1, up_ t_kindOf_l144 (v144_2).toNat (o6.2 (v144_2).toNat)))
  else
    some (.inr t_kindOf_l144)
def F_X12_findKinds_L30 (n : Nat) (t_places : Int) (t_nextPlace : Nat → Int) (v30_1 : Int) (t_kinds_l30 : Int) (t_kindOf_l30 : Nat → Int) (t_newKind_l30 : Nat → Int) : Option ((Int × Int × (Nat → Int) × (Nat → Int)) ⊕ (Int × (Nat → Int) × (Nat → Int))) :=
  ck (r4 t_kinds_l30 ∧ r4 v30_1) <|
  if t_kinds_l30 = v30_1 then
    some (.inr (t_kinds_l30, t_kindOf_l30, t_newKind_l30))
  else
    (lp_ (fun (q : Int × Int × (Nat → Int)) => F_X12_findKinds_L50 n t_places t_kindOf_l30 t_nextPlace q.1 q.2.1 q.2.2) n (0, 0, t_newKind_l30)).bind fun o6 =>
    (lp_ (fun (q : Int × (Nat → Int)) => F_X12_findKinds_L144 n t_places o6 q.1 q.2) n (0, t_kindOf_l30)).bind fun o19 =>
    some (.inl (t_kinds_l30, o6.1, o19, o6.2))
def F_X12_findKinds (n : Nat)  (t_places : Int) (t_kindOf : Nat → Int) (t_nextPlace : Nat → Int) (t_newKind : Nat → Int)  : Option (Int × (Nat → Int) × (Nat → Int)) :=
  (lp_ (fun (q : Int × (Nat → Int)) => F_X12_findKinds_L2 n t_places q.1 q.2) n (0, t_kindOf)).bind fun o1 =>
  (lp_ (fun (q : Int × Int × (Nat → Int) × (Nat → Int)) => F_X12_findKinds_L30 n t_places t_nextPlace q.1 q.2.1 q.2.2.1 q.2.2.2) n (0, 1, o1, t_newKind)).bind fun o4 =>
  some (o4.1, o4.2.1, o4.2.2)
def rm_X12_findKinds : Room := { frames := 2, cells := 0, slots := 0, locals := 47 }
set_option maxHeartbeats 4000000 in
set_option maxRecDepth 100000 in
theorem k_X12_findKinds {l : Launch} {D : va_G} {E : Nat → ClassId} (n : Nat) (a_t a_t_now a_t_read a_t_past a_t_images a_t_isKept a_t_text a_t_metAt a_t_memoryAt a_t_upAt a_t_downAt a_t_isSignal a_t_memories a_t_placeOf a_t_nextPlace a_t_kindOf a_t_newKind a_t_stateOfKind a_t_stateAt a_t_stepTo a_t_far a_t_ways a_t_nextWays a_t_table : Nat) (t_deeds : Int) (t_letters : Int) (t_at : Int) (t_tokenAt : Int) (t_tokenSort : Int) (t_tokenValue : Int) (t_items : Int) (t_isChanceTold : Int) (t_areSumsTold : Int) (t_places : Int) (t_kinds : Int) (t_states : Int) (t_kindOf : Nat → Int) (t_nextPlace : Nat → Int) (t_newKind : Nat → Int) (res : Int × (Nat → Int) × (Nat → Int)) (hf : F_X12_findKinds n t_places t_kindOf t_nextPlace t_newKind = some res) : MW l yX12_findKinds (.code yX12_findKinds cX12_findKinds 5 none) rm_X12_findKinds D E [.ref a_t] [(a_t, .inr (12, [.ref a_t_now, .ref a_t_read, .ref a_t_past, .int (z4 t_deeds), .ref a_t_images, .ref a_t_isKept, .ref a_t_text, .int (z4 t_letters), .int (z4 t_at), .int (z4 t_tokenAt), .int (z4 t_tokenSort), .int (z4 t_tokenValue), .int (z4 t_items), .int (z4 t_isChanceTold), .int (z4 t_areSumsTold), .ref a_t_metAt, .ref a_t_memoryAt, .ref a_t_upAt, .ref a_t_downAt, .ref a_t_isSignal, .ref a_t_memories, .ref a_t_placeOf, .ref a_t_nextPlace, .int (z4 t_places), .ref a_t_kindOf, .ref a_t_newKind, .int (z4 t_kinds), .ref a_t_stateOfKind, .ref a_t_stateAt, .ref a_t_stepTo, .int (z4 t_states), .ref a_t_far, .ref a_t_ways, .ref a_t_nextWays, .ref a_t_table])), (a_t_kindOf, .inl (E 0, 64, .inl (A4 t_kindOf))), (a_t_nextPlace, .inl (E 0, 320, .inl (A4 t_nextPlace))), (a_t_newKind, .inl (E 0, 64, .inl (A4 t_newKind)))] none [(a_t, .inr (12, [.ref a_t_now, .ref a_t_read, .ref a_t_past, .int (z4 t_deeds), .ref a_t_images, .ref a_t_isKept, .ref a_t_text, .int (z4 t_letters), .int (z4 t_at), .int (z4 t_tokenAt), .int (z4 t_tokenSort), .int (z4 t_tokenValue), .int (z4 t_items), .int (z4 t_isChanceTold), .int (z4 t_areSumsTold), .ref a_t_metAt, .ref a_t_memoryAt, .ref a_t_upAt, .ref a_t_downAt, .ref a_t_isSignal, .ref a_t_memories, .ref a_t_placeOf, .ref a_t_nextPlace, .int (z4 t_places), .ref a_t_kindOf, .ref a_t_newKind, .int (z4 res.1), .ref a_t_stateOfKind, .ref a_t_stateAt, .ref a_t_stepTo, .int (z4 t_states), .ref a_t_far, .ref a_t_ways, .ref a_t_nextWays, .ref a_t_table])), (a_t_kindOf, .inl (E 0, 64, .inl (A4 res.2.1))), (a_t_nextPlace, .inl (E 0, 320, .inl (A4 t_nextPlace))), (a_t_newKind, .inl (E 0, 64, .inl (A4 res.2.2)))] := by
  refine MWv (by decide) (Nat.le_of_ble_eq_true rfl) ?_
  intro p e s m args below meth c A Q X hK hP hD hA ret ls hl
  have hS : va_S A s.heap s.heap [] := va_S.rf
  have hx := X.1
  have hb := X.2.1
  have hl : lv_has ls 5 [(0, .ref a_t)] := hl
  unfold F_X12_findKinds at hf
  refine m_iconst X dX12_findKinds_0 ?_
  refine lv_istore_n (lv' := [(1, .int (z4 0)), (0, .ref a_t)]) hx hb dX12_findKinds_1 rfl hl (by decide) rfl (fun ls hl => ?_)
  obtain ⟨o1, hj1, hr1⟩ := bd_some hf
  have E1_0 : ∀ (o_ : (Nat → Int)), o1 = o_ → ∀ (H : Heap) (locs : List Loc) (ls : Array Slot), lv_has ls 5 [(0, .ref a_t)] → va_P D vwCl [(a_t, .inr (12, [.ref a_t_now, .ref a_t_read, .ref a_t_past, .int (z4 t_deeds), .ref a_t_images, .ref a_t_isKept, .ref a_t_text, .int (z4 t_letters), .int (z4 t_at), .int (z4 t_tokenAt), .int (z4 t_tokenSort), .int (z4 t_tokenValue), .int (z4 t_items), .int (z4 t_isChanceTold), .int (z4 t_areSumsTold), .ref a_t_metAt, .ref a_t_memoryAt, .ref a_t_upAt, .ref a_t_downAt, .ref a_t_isSignal, .ref a_t_memories, .ref a_t_placeOf, .ref a_t_nextPlace, .int (z4 t_places), .ref a_t_kindOf, .ref a_t_newKind, .int (z4 t_kinds), .ref a_t_stateOfKind, .ref a_t_stateAt, .ref a_t_stepTo, .int (z4 t_states), .ref a_t_far, .ref a_t_ways, .ref a_t_nextWays, .ref a_t_table])), (a_t_kindOf, .inl (E 0, 64, .inl (A4 o_))), (a_t_nextPlace, .inl (E 0, 320, .inl (A4 t_nextPlace))), (a_t_newKind, .inl (E 0, 64, .inl (A4 t_newKind)))] H → va_D A [(a_t, .inr (12, [.ref a_t_now, .ref a_t_read, .ref a_t_past, .int (z4 t_deeds), .ref a_t_images, .ref a_t_isKept, .ref a_t_text, .int (z4 t_letters), .int (z4 t_at), .int (z4 t_tokenAt), .int (z4 t_tokenSort), .int (z4 t_tokenValue), .int (z4 t_items), .int (z4 t_isChanceTold), .int (z4 t_areSumsTold), .ref a_t_metAt, .ref a_t_memoryAt, .ref a_t_upAt, .ref a_t_downAt, .ref a_t_isSignal, .ref a_t_memories, .ref a_t_placeOf, .ref a_t_nextPlace, .int (z4 t_places), .ref a_t_kindOf, .ref a_t_newKind, .int (z4 t_kinds), .ref a_t_stateOfKind, .ref a_t_stateAt, .ref a_t_stepTo, .int (z4 t_states), .ref a_t_far, .ref a_t_ways, .ref a_t_nextWays, .ref a_t_table])), (a_t_kindOf, .inl (E 0, 64, .inl (A4 o_))), (a_t_nextPlace, .inl (E 0, 320, .inl (A4 t_nextPlace))), (a_t_newKind, .inl (E 0, 64, .inl (A4 t_newKind)))] → va_S A s.heap H locs → W p l e rm_X12_findKinds s m args below meth c H locs 0 0 Q (F0 m 23 ls []) := by
    intro o_ ho_ H locs ls hl hP hD hS
    subst ho_
    refine lv_aload_n hx hb dX12_findKinds_23 rfl (lv_at hl 0 rfl) ?_
    refine m_iconst X dX12_findKinds_24 ?_
    refine m_put X hK hP hD hS cl_X12 iT_X12 tyX12 tyX12_ok nmX12 26 (by decide) fl_X12_194 rfl 0 rfl rfl rfl (Nat.le_of_ble_eq_true rfl) [(a_t, .inr (12, [.ref a_t_now, .ref a_t_read, .ref a_t_past, .int (z4 t_deeds), .ref a_t_images, .ref a_t_isKept, .ref a_t_text, .int (z4 t_letters), .int (z4 t_at), .int (z4 t_tokenAt), .int (z4 t_tokenSort), .int (z4 t_tokenValue), .int (z4 t_items), .int (z4 t_isChanceTold), .int (z4 t_areSumsTold), .ref a_t_metAt, .ref a_t_memoryAt, .ref a_t_upAt, .ref a_t_downAt, .ref a_t_isSignal, .ref a_t_memories, .ref a_t_placeOf, .ref a_t_nextPlace, .int (z4 t_places), .ref a_t_kindOf, .ref a_t_newKind, .int (z4 1), .ref a_t_stateOfKind, .ref a_t_stateAt, .ref a_t_stepTo, .int (z4 t_states), .ref a_t_far, .ref a_t_ways, .ref a_t_nextWays, .ref a_t_table])), (a_t_kindOf, .inl (E 0, 64, .inl (A4 o1))), (a_t_nextPlace, .inl (E 0, 320, .inl (A4 t_nextPlace))), (a_t_newKind, .inl (E 0, 64, .inl (A4 t_newKind)))] rfl dX12_findKinds_25 (fun H locs hP hD hS => ?_)
    refine m_iconst X dX12_findKinds_28 ?_
    refine lv_istore_n (lv' := [(1, .int (z4 0)), (0, .ref a_t)]) hx hb dX12_findKinds_29 rfl hl (by decide) rfl (fun ls hl => ?_)
    obtain ⟨o4, hj4, hr4⟩ := bd_some hr1
    have E4_0 : ∀ (o_ : Int × (Nat → Int) × (Nat → Int)), o4 = o_ → ∀ (H : Heap) (locs : List Loc) (ls : Array Slot), lv_has ls 5 [] → va_P D vwCl [(a_t, .inr (12, [.ref a_t_now, .ref a_t_read, .ref a_t_past, .int (z4 t_deeds), .ref a_t_images, .ref a_t_isKept, .ref a_t_text, .int (z4 t_letters), .int (z4 t_at), .int (z4 t_tokenAt), .int (z4 t_tokenSort), .int (z4 t_tokenValue), .int (z4 t_items), .int (z4 t_isChanceTold), .int (z4 t_areSumsTold), .ref a_t_metAt, .ref a_t_memoryAt, .ref a_t_upAt, .ref a_t_downAt, .ref a_t_isSignal, .ref a_t_memories, .ref a_t_placeOf, .ref a_t_nextPlace, .int (z4 t_places), .ref a_t_kindOf, .ref a_t_newKind, .int (z4 o_.1), .ref a_t_stateOfKind, .ref a_t_stateAt, .ref a_t_stepTo, .int (z4 t_states), .ref a_t_far, .ref a_t_ways, .ref a_t_nextWays, .ref a_t_table])), (a_t_kindOf, .inl (E 0, 64, .inl (A4 o_.2.1))), (a_t_nextPlace, .inl (E 0, 320, .inl (A4 t_nextPlace))), (a_t_newKind, .inl (E 0, 64, .inl (A4 o_.2.2)))] H → va_D A [(a_t, .inr (12, [.ref a_t_now, .ref a_t_read, .ref a_t_past, .int (z4 t_deeds), .ref a_t_images, .ref a_t_isKept, .ref a_t_text, .int (z4 t_letters), .int (z4 t_at), .int (z4 t_tokenAt), .int (z4 t_tokenSort), .int (z4 t_tokenValue), .int (z4 t_items), .int (z4 t_isChanceTold), .int (z4 t_areSumsTold), .ref a_t_metAt, .ref a_t_memoryAt, .ref a_t_upAt, .ref a_t_downAt, .ref a_t_isSignal, .ref a_t_memories, .ref a_t_placeOf, .ref a_t_nextPlace, .int (z4 t_places), .ref a_t_kindOf, .ref a_t_newKind, .int (z4 o_.1), .ref a_t_stateOfKind, .ref a_t_stateAt, .ref a_t_stepTo, .int (z4 t_states), .ref a_t_far, .ref a_t_ways, .ref a_t_nextWays, .ref a_t_table])), (a_t_kindOf, .inl (E 0, 64, .inl (A4 o_.2.1))), (a_t_nextPlace, .inl (E 0, 320, .inl (A4 t_nextPlace))), (a_t_newKind, .inl (E 0, 64, .inl (A4 o_.2.2)))] → va_S A s.heap H locs → W p l e rm_X12_findKinds s m args below meth c H locs 0 0 Q (F0 m 173 ls []) := by
      intro o_ ho_ H locs ls hl hP hD hS
      subst ho_
      obtain rfl := Option.some.inj hr4
      exact ret _ _ _ _ hP hD hS dX12_findKinds_173
    have L4 : ∀ (k_ : Nat) (v30_1 : Int) (t_kinds_l30 : Int) (t_kindOf_l30 : Nat → Int) (t_newKind_l30 : Nat → Int), ∀ (H : Heap) (locs : List Loc) (ls : Array Slot), lv_has ls 5 [(0, .ref a_t), (1, .int (z4 v30_1))] → va_P D vwCl [(a_t, .inr (12, [.ref a_t_now, .ref a_t_read, .ref a_t_past, .int (z4 t_deeds), .ref a_t_images, .ref a_t_isKept, .ref a_t_text, .int (z4 t_letters), .int (z4 t_at), .int (z4 t_tokenAt), .int (z4 t_tokenSort), .int (z4 t_tokenValue), .int (z4 t_items), .int (z4 t_isChanceTold), .int (z4 t_areSumsTold), .ref a_t_metAt, .ref a_t_memoryAt, .ref a_t_upAt, .ref a_t_downAt, .ref a_t_isSignal, .ref a_t_memories, .ref a_t_placeOf, .ref a_t_nextPlace, .int (z4 t_places), .ref a_t_kindOf, .ref a_t_newKind, .int (z4 t_kinds_l30), .ref a_t_stateOfKind, .ref a_t_stateAt, .ref a_t_stepTo, .int (z4 t_states), .ref a_t_far, .ref a_t_ways, .ref a_t_nextWays, .ref a_t_table])), (a_t_kindOf, .inl (E 0, 64, .inl (A4 t_kindOf_l30))), (a_t_nextPlace, .inl (E 0, 320, .inl (A4 t_nextPlace))), (a_t_newKind, .inl (E 0, 64, .inl (A4 t_newKind_l30)))] H → va_D A [(a_t, .inr (12, [.ref a_t_now, .ref a_t_read, .ref a_t_past, .int (z4 t_deeds), .ref a_t_images, .ref a_t_isKept, .ref a_t_text, .int (z4 t_letters), .int (z4 t_at), .int (z4 t_tokenAt), .int (z4 t_tokenSort), .int (z4 t_tokenValue), .int (z4 t_items), .int (z4 t_isChanceTold), .int (z4 t_areSumsTold), .ref a_t_metAt, .ref a_t_memoryAt, .ref a_t_upAt, .ref a_t_downAt, .ref a_t_isSignal, .ref a_t_memories, .ref a_t_placeOf, .ref a_t_nextPlace, .int (z4 t_places), .ref a_t_kindOf, .ref a_t_newKind, .int (z4 t_kinds_l30), .ref a_t_stateOfKind, .ref a_t_stateAt, .ref a_t_stepTo, .int (z4 t_states), .ref a_t_far, .ref a_t_ways, .ref a_t_nextWays, .ref a_t_table])), (a_t_kindOf, .inl (E 0, 64, .inl (A4 t_kindOf_l30))), (a_t_nextPlace, .inl (E 0, 320, .inl (A4 t_nextPlace))), (a_t_newKind, .inl (E 0, 64, .inl (A4 t_newKind_l30)))] → va_S A s.heap H locs → lp_ (fun (q : Int × Int × (Nat → Int) × (Nat → Int)) => F_X12_findKinds_L30 n t_places t_nextPlace q.1 q.2.1 q.2.2.1 q.2.2.2) k_ (v30_1, t_kinds_l30, t_kindOf_l30, t_newKind_l30) = some o4 → W p l e rm_X12_findKinds s m args below meth c H locs 0 0 Q (F0 m 30 ls []) := by
      intro k_
      induction k_ with
      | zero =>
        intro v30_1 t_kinds_l30 t_kindOf_l30 t_newKind_l30 H locs ls hl hP hD hS hq_; exact (lp_zero hq_).elim
      | succ k_ ih4 =>
        intro v30_1 t_kinds_l30 t_kindOf_l30 t_newKind_l30 H locs ls hl hP hD hS hq_
        obtain ⟨t_4, hb4, hq4⟩ := lp_some hq_
        replace hb4 : F_X12_findKinds_L30 n t_places t_nextPlace v30_1 t_kinds_l30 t_kindOf_l30 t_newKind_l30 = some t_4 := hb4
        unfold F_X12_findKinds_L30 at hb4
        refine lv_aload_n hx hb dX12_findKinds_30 rfl (lv_at hl 0 rfl) ?_
        refine m_get X hK hP cl_X12 iT_X12 26 (by decide) fl_X12_194 0 rfl rfl dX12_findKinds_31 ?_
        refine lv_iload_n hx hb dX12_findKinds_34 rfl (lv_at hl 1 rfl) ?_
        obtain ⟨h5, hb4⟩ := ck_some hb4
        refine m_icmp_eq X h5 dX12_findKinds_35 (tgt := 173) (by decide) (fun (hc_ : t_kinds_l30 = v30_1) => ?_) (fun (hc_ : ¬ (t_kinds_l30 = v30_1)) => ?_)
        · rw [if_pos hc_] at hb4
          obtain rfl := Option.some.inj hb4
          exact E4_0 _ (Option.some.inj hq4).symm _ _ _ (lv_sub hl [] rfl) hP hD hS
        · rw [if_neg hc_] at hb4
          refine lv_aload_n hx hb dX12_findKinds_38 rfl (lv_at hl 0 rfl) ?_
          refine m_get X hK hP cl_X12 iT_X12 26 (by decide) fl_X12_194 0 rfl rfl dX12_findKinds_39 ?_
          refine lv_istore_n (lv' := [(1, .int (z4 t_kinds_l30)), (0, .ref a_t)]) hx hb dX12_findKinds_42 rfl hl (by decide) rfl (fun ls hl => ?_)
          refine lv_aload_n hx hb dX12_findKinds_43 rfl (lv_at hl 1 rfl) ?_
          refine m_iconst X dX12_findKinds_44 ?_
          refine m_put X hK hP hD hS cl_X12 iT_X12 tyX12 tyX12_ok nmX12 26 (by decide) fl_X12_194 rfl 0 rfl rfl rfl (Nat.le_of_ble_eq_true rfl) [(a_t, .inr (12, [.ref a_t_now, .ref a_t_read, .ref a_t_past, .int (z4 t_deeds), .ref a_t_images, .ref a_t_isKept, .ref a_t_text, .int (z4 t_letters), .int (z4 t_at), .int (z4 t_tokenAt), .int (z4 t_tokenSort), .int (z4 t_tokenValue), .int (z4 t_items), .int (z4 t_isChanceTold), .int (z4 t_areSumsTold), .ref a_t_metAt, .ref a_t_memoryAt, .ref a_t_upAt, .ref a_t_downAt, .ref a_t_isSignal, .ref a_t_memories, .ref a_t_placeOf, .ref a_t_nextPlace, .int (z4 t_places), .ref a_t_kindOf, .ref a_t_newKind, .int (z4 0), .ref a_t_stateOfKind, .ref a_t_stateAt, .ref a_t_stepTo, .int (z4 t_states), .ref a_t_far, .ref a_t_ways, .ref a_t_nextWays, .ref a_t_table])), (a_t_kindOf, .inl (E 0, 64, .inl (A4 t_kindOf_l30))), (a_t_nextPlace, .inl (E 0, 320, .inl (A4 t_nextPlace))), (a_t_newKind, .inl (E 0, 64, .inl (A4 t_newKind_l30)))] rfl dX12_findKinds_45 (fun H locs hP hD hS => ?_)
          refine m_iconst X dX12_findKinds_48 ?_
          refine lv_istore_n (lv' := [(2, .int (z4 0)), (1, .int (z4 t_kinds_l30)), (0, .ref a_t)]) hx hb dX12_findKinds_49 rfl hl (by decide) rfl (fun ls hl => ?_)
          obtain ⟨o6, hj6, hr6⟩ := bd_some hb4
          have E6_0 : ∀ (o_ : Int × (Nat → Int)), o6 = o_ → ∀ (H : Heap) (locs : List Loc) (ls : Array Slot), lv_has ls 5 [(0, .ref a_t), (1, .int (z4 t_kinds_l30))] → va_P D vwCl [(a_t, .inr (12, [.ref a_t_now, .ref a_t_read, .ref a_t_past, .int (z4 t_deeds), .ref a_t_images, .ref a_t_isKept, .ref a_t_text, .int (z4 t_letters), .int (z4 t_at), .int (z4 t_tokenAt), .int (z4 t_tokenSort), .int (z4 t_tokenValue), .int (z4 t_items), .int (z4 t_isChanceTold), .int (z4 t_areSumsTold), .ref a_t_metAt, .ref a_t_memoryAt, .ref a_t_upAt, .ref a_t_downAt, .ref a_t_isSignal, .ref a_t_memories, .ref a_t_placeOf, .ref a_t_nextPlace, .int (z4 t_places), .ref a_t_kindOf, .ref a_t_newKind, .int (z4 o_.1), .ref a_t_stateOfKind, .ref a_t_stateAt, .ref a_t_stepTo, .int (z4 t_states), .ref a_t_far, .ref a_t_ways, .ref a_t_nextWays, .ref a_t_table])), (a_t_kindOf, .inl (E 0, 64, .inl (A4 t_kindOf_l30))), (a_t_nextPlace, .inl (E 0, 320, .inl (A4 t_nextPlace))), (a_t_newKind, .inl (E 0, 64, .inl (A4 o_.2)))] H → va_D A [(a_t, .inr (12, [.ref a_t_now, .ref a_t_read, .ref a_t_past, .int (z4 t_deeds), .ref a_t_images, .ref a_t_isKept, .ref a_t_text, .int (z4 t_letters), .int (z4 t_at), .int (z4 t_tokenAt), .int (z4 t_tokenSort), .int (z4 t_tokenValue), .int (z4 t_items), .int (z4 t_isChanceTold), .int (z4 t_areSumsTold), .ref a_t_metAt, .ref a_t_memoryAt, .ref a_t_upAt, .ref a_t_downAt, .ref a_t_isSignal, .ref a_t_memories, .ref a_t_placeOf, .ref a_t_nextPlace, .int (z4 t_places), .ref a_t_kindOf, .ref a_t_newKind, .int (z4 o_.1), .ref a_t_stateOfKind, .ref a_t_stateAt, .ref a_t_stepTo, .int (z4 t_states), .ref a_t_far, .ref a_t_ways, .ref a_t_nextWays, .ref a_t_table])), (a_t_kindOf, .inl (E 0, 64, .inl (A4 t_kindOf_l30))), (a_t_nextPlace, .inl (E 0, 320, .inl (A4 t_nextPlace))), (a_t_newKind, .inl (E 0, 64, .inl (A4 o_.2)))] → va_S A s.heap H locs → W p l e rm_X12_findKinds s m args below meth c H locs 0 0 Q (F0 m 142 ls []) := by
            intro o_ ho_ H locs ls hl hP hD hS
            subst ho_
            refine m_iconst X dX12_findKinds_142 ?_
            refine lv_istore_n (lv' := [(2, .int (z4 0)), (0, .ref a_t), (1, .int (z4 t_kinds_l30))]) hx hb dX12_findKinds_143 rfl hl (by decide) rfl (fun ls hl => ?_)
            obtain ⟨o19, hj19, hr19⟩ := bd_some hr6
            have E19_0 : ∀ (o_ : (Nat → Int)), o19 = o_ → ∀ (H : Heap) (locs : List Loc) (ls : Array Slot), lv_has ls 5 [(0, .ref a_t), (1, .int (z4 t_kinds_l30))] → va_P D vwCl [(a_t, .inr (12, [.ref a_t_now, .ref a_t_read, .ref a_t_past, .int (z4 t_deeds), .ref a_t_images, .ref a_t_isKept, .ref a_t_text, .int (z4 t_letters), .int (z4 t_at), .int (z4 t_tokenAt), .int (z4 t_tokenSort), .int (z4 t_tokenValue), .int (z4 t_items), .int (z4 t_isChanceTold), .int (z4 t_areSumsTold), .ref a_t_metAt, .ref a_t_memoryAt, .ref a_t_upAt, .ref a_t_downAt, .ref a_t_isSignal, .ref a_t_memories, .ref a_t_placeOf, .ref a_t_nextPlace, .int (z4 t_places), .ref a_t_kindOf, .ref a_t_newKind, .int (z4 o6.1), .ref a_t_stateOfKind, .ref a_t_stateAt, .ref a_t_stepTo, .int (z4 t_states), .ref a_t_far, .ref a_t_ways, .ref a_t_nextWays, .ref a_t_table])), (a_t_kindOf, .inl (E 0, 64, .inl (A4 o_))), (a_t_nextPlace, .inl (E 0, 320, .inl (A4 t_nextPlace))), (a_t_newKind, .inl (E 0, 64, .inl (A4 o6.2)))] H → va_D A [(a_t, .inr (12, [.ref a_t_now, .ref a_t_read, .ref a_t_past, .int (z4 t_deeds), .ref a_t_images, .ref a_t_isKept, .ref a_t_text, .int (z4 t_letters), .int (z4 t_at), .int (z4 t_tokenAt), .int (z4 t_tokenSort), .int (z4 t_tokenValue), .int (z4 t_items), .int (z4 t_isChanceTold), .int (z4 t_areSumsTold), .ref a_t_metAt, .ref a_t_memoryAt, .ref a_t_upAt, .ref a_t_downAt, .ref a_t_isSignal, .ref a_t_memories, .ref a_t_placeOf, .ref a_t_nextPlace, .int (z4 t_places), .ref a_t_kindOf, .ref a_t_newKind, .int (z4 o6.1), .ref a_t_stateOfKind, .ref a_t_stateAt, .ref a_t_stepTo, .int (z4 t_states), .ref a_t_far, .ref a_t_ways, .ref a_t_nextWays, .ref a_t_table])), (a_t_kindOf, .inl (E 0, 64, .inl (A4 o_))), (a_t_nextPlace, .inl (E 0, 320, .inl (A4 t_nextPlace))), (a_t_newKind, .inl (E 0, 64, .inl (A4 o6.2)))] → va_S A s.heap H locs → W p l e rm_X12_findKinds s m args below meth c H locs 0 0 Q (F0 m 170 ls []) := by
              intro o_ ho_ H locs ls hl hP hD hS
              subst ho_
              refine lv_goto (tgt := 30) hx hb dX12_findKinds_170 (by decide) ?_
              obtain rfl := Option.some.inj hr19
              exact ih4 _ _ _ _ _ _ _ (lv_sub hl [0, 1] rfl) hP hD hS hq4
            have L19 : ∀ (k_ : Nat) (v144_2 : Int) (t_kindOf_l144 : Nat → Int), ∀ (H : Heap) (locs : List Loc) (ls : Array Slot), lv_has ls 5 [(0, .ref a_t), (1, .int (z4 t_kinds_l30)), (2, .int (z4 v144_2))] → va_P D vwCl [(a_t, .inr (12, [.ref a_t_now, .ref a_t_read, .ref a_t_past, .int (z4 t_deeds), .ref a_t_images, .ref a_t_isKept, .ref a_t_text, .int (z4 t_letters), .int (z4 t_at), .int (z4 t_tokenAt), .int (z4 t_tokenSort), .int (z4 t_tokenValue), .int (z4 t_items), .int (z4 t_isChanceTold), .int (z4 t_areSumsTold), .ref a_t_metAt, .ref a_t_memoryAt, .ref a_t_upAt, .ref a_t_downAt, .ref a_t_isSignal, .ref a_t_memories, .ref a_t_placeOf, .ref a_t_nextPlace, .int (z4 t_places), .ref a_t_kindOf, .ref a_t_newKind, .int (z4 o6.1), .ref a_t_stateOfKind, .ref a_t_stateAt, .ref a_t_stepTo, .int (z4 t_states), .ref a_t_far, .ref a_t_ways, .ref a_t_nextWays, .ref a_t_table])), (a_t_kindOf, .inl (E 0, 64, .inl (A4 t_kindOf_l144))), (a_t_nextPlace, .inl (E 0, 320, .inl (A4 t_nextPlace))), (a_t_newKind, .inl (E 0, 64, .inl (A4 o6.2)))] H → va_D A [(a_t, .inr (12, [.ref a_t_now, .ref a_t_read, .ref a_t_past, .int (z4 t_deeds), .ref a_t_images, .ref a_t_isKept, .ref a_t_text, .int (z4 t_letters), .int (z4 t_at), .int (z4 t_tokenAt), .int (z4 t_tokenSort), .int (z4 t_tokenValue), .int (z4 t_items), .int (z4 t_isChanceTold), .int (z4 t_areSumsTold), .ref a_t_metAt, .ref a_t_memoryAt, .ref a_t_upAt, .ref a_t_downAt, .ref a_t_isSignal, .ref a_t_memories, .ref a_t_placeOf, .ref a_t_nextPlace, .int (z4 t_places), .ref a_t_kindOf, .ref a_t_newKind, .int (z4 o6.1), .ref a_t_stateOfKind, .ref a_t_stateAt, .ref a_t_stepTo, .int (z4 t_states), .ref a_t_far, .ref a_t_ways, .ref a_t_nextWays, .ref a_t_table])), (a_t_kindOf, .inl (E 0, 64, .inl (A4 t_kindOf_l144))), (a_t_nextPlace, .inl (E 0, 320, .inl (A4 t_nextPlace))), (a_t_newKind, .inl (E 0, 64, .inl (A4 o6.2)))] → va_S A s.heap H locs → lp_ (fun (q : Int × (Nat → Int)) => F_X12_findKinds_L144 n t_places o6 q.1 q.2) k_ (v144_2, t_kindOf_l144) = some o19 → W p l e rm_X12_findKinds s m args below meth c H locs 0 0 Q (F0 m 144 ls []) := by
              intro k_
              induction k_ with
              | zero =>
                intro v144_2 t_kindOf_l144 H locs ls hl hP hD hS hq_; exact (lp_zero hq_).elim
              | succ k_ ih19 =>
                intro v144_2 t_kindOf_l144 H locs ls hl hP hD hS hq_
                obtain ⟨t_19, hb19, hq19⟩ := lp_some hq_
                replace hb19 : F_X12_findKinds_L144 n t_places o6 v144_2 t_kindOf_l144 = some t_19 := hb19
                unfold F_X12_findKinds_L144 at hb19
                refine lv_iload_n hx hb dX12_findKinds_144 rfl (lv_at hl 2 rfl) ?_
                refine lv_aload_n hx hb dX12_findKinds_145 rfl (lv_at hl 0 rfl) ?_
                refine m_get X hK hP cl_X12 iT_X12 23 (by decide) fl_X12_185 0 rfl rfl dX12_findKinds_146 ?_
                obtain ⟨h20, hb19⟩ := ck_some hb19
                refine m_icmp_ge X h20 dX12_findKinds_149 (tgt := 170) (by decide) (fun (hc_ : ¬ (v144_2 < t_places)) => ?_) (fun (hc_ : v144_2 < t_places) => ?_)
                · rw [if_neg hc_] at hb19
                  obtain rfl := Option.some.inj hb19
                  exact E19_0 _ (Option.some.inj hq19).symm _ _ _ (lv_sub hl [0, 1] rfl) hP hD hS
                · rw [if_pos hc_] at hb19
                  refine lv_aload_n hx hb dX12_findKinds_152 rfl (lv_at hl 0 rfl) ?_
                  refine m_get X hK hP cl_X12 iT_X12 24 (by decide) fl_X12_53 0 rfl rfl dX12_findKinds_153 ?_
                  refine lv_iload_n hx hb dX12_findKinds_156 rfl (lv_at hl 2 rfl) ?_
                  refine lv_aload_n hx hb dX12_findKinds_157 rfl (lv_at hl 0 rfl) ?_
                  refine m_get X hK hP cl_X12 iT_X12 25 (by decide) fl_X12_56 0 rfl rfl dX12_findKinds_158 ?_
                  refine lv_iload_n hx hb dX12_findKinds_161 rfl (lv_at hl 2 rfl) ?_
                  obtain ⟨h21, hb19⟩ := ck_some hb19
                  refine m_iald X hK hP 3 rfl (by decide) h21 dX12_findKinds_162 ?_
                  obtain ⟨h22, hb19⟩ := ck_some hb19
                  refine m_iast X hK hP hD hS 1 rfl (by decide) h22 [(a_t, .inr (12, [.ref a_t_now, .ref a_t_read, .ref a_t_past, .int (z4 t_deeds), .ref a_t_images, .ref a_t_isKept, .ref a_t_text, .int (z4 t_letters), .int (z4 t_at), .int (z4 t_tokenAt), .int (z4 t_tokenSort), .int (z4 t_tokenValue), .int (z4 t_items), .int (z4 t_isChanceTold), .int (z4 t_areSumsTold), .ref a_t_metAt, .ref a_t_memoryAt, .ref a_t_upAt, .ref a_t_downAt, .ref a_t_isSignal, .ref a_t_memories, .ref a_t_placeOf, .ref a_t_nextPlace, .int (z4 t_places), .ref a_t_kindOf, .ref a_t_newKind, .int (z4 o6.1), .ref a_t_stateOfKind, .ref a_t_stateAt, .ref a_t_stepTo, .int (z4 t_states), .ref a_t_far, .ref a_t_ways, .ref a_t_nextWays, .ref a_t_table])), (a_t_kindOf, .inl (E 0, 64, .inl (A4 (up_ t_kindOf_l144 (v144_2).toNat (o6.2 (v144_2).toNat))))), (a_t_nextPlace, .inl (E 0, 320, .inl (A4 t_nextPlace))), (a_t_newKind, .inl (E 0, 64, .inl (A4 o6.2)))] rfl dX12_findKinds_163 (fun H locs hP hD hS => ?_)
                  refine m_iinc X 2 [(2, .int (z4 (v144_2 + 1))), (0, .ref a_t), (1, .int (z4 t_kinds_l30))] dX12_findKinds_164 hl rfl (by decide) rfl (fun ls hl => ?_)
                  refine lv_goto (tgt := 144) hx hb dX12_findKinds_167 (by decide) ?_
                  obtain rfl := Option.some.inj hb19
                  exact ih19 _ _ _ _ _ (lv_sub hl [1, 2, 0] rfl) hP hD hS hq19
            exact L19 n _ _ _ _ _ (lv_sub hl [1, 2, 0] rfl) hP hD hS hj19
          have L6 : ∀ (k_ : Nat) (v50_2 : Int) (t_kinds_l50 : Int) (t_newKind_l50 : Nat → Int), ∀ (H : Heap) (locs : List Loc) (ls : Array Slot), lv_has ls 5 [(0, .ref a_t), (1, .int (z4 t_kinds_l30)), (2, .int (z4 v50_2))] → va_P D vwCl [(a_t, .inr (12, [.ref a_t_now, .ref a_t_read, .ref a_t_past, .int (z4 t_deeds), .ref a_t_images, .ref a_t_isKept, .ref a_t_text, .int (z4 t_letters), .int (z4 t_at), .int (z4 t_tokenAt), .int (z4 t_tokenSort), .int (z4 t_tokenValue), .int (z4 t_items), .int (z4 t_isChanceTold), .int (z4 t_areSumsTold), .ref a_t_metAt, .ref a_t_memoryAt, .ref a_t_upAt, .ref a_t_downAt, .ref a_t_isSignal, .ref a_t_memories, .ref a_t_placeOf, .ref a_t_nextPlace, .int (z4 t_places), .ref a_t_kindOf, .ref a_t_newKind, .int (z4 t_kinds_l50), .ref a_t_stateOfKind, .ref a_t_stateAt, .ref a_t_stepTo, .int (z4 t_states), .ref a_t_far, .ref a_t_ways, .ref a_t_nextWays, .ref a_t_table])), (a_t_kindOf, .inl (E 0, 64, .inl (A4 t_kindOf_l30))), (a_t_nextPlace, .inl (E 0, 320, .inl (A4 t_nextPlace))), (a_t_newKind, .inl (E 0, 64, .inl (A4 t_newKind_l50)))] H → va_D A [(a_t, .inr (12, [.ref a_t_now, .ref a_t_read, .ref a_t_past, .int (z4 t_deeds), .ref a_t_images, .ref a_t_isKept, .ref a_t_text, .int (z4 t_letters), .int (z4 t_at), .int (z4 t_tokenAt), .int (z4 t_tokenSort), .int (z4 t_tokenValue), .int (z4 t_items), .int (z4 t_isChanceTold), .int (z4 t_areSumsTold), .ref a_t_metAt, .ref a_t_memoryAt, .ref a_t_upAt, .ref a_t_downAt, .ref a_t_isSignal, .ref a_t_memories, .ref a_t_placeOf, .ref a_t_nextPlace, .int (z4 t_places), .ref a_t_kindOf, .ref a_t_newKind, .int (z4 t_kinds_l50), .ref a_t_stateOfKind, .ref a_t_stateAt, .ref a_t_stepTo, .int (z4 t_states), .ref a_t_far, .ref a_t_ways, .ref a_t_nextWays, .ref a_t_table])), (a_t_kindOf, .inl (E 0, 64, .inl (A4 t_kindOf_l30))), (a_t_nextPlace, .inl (E 0, 320, .inl (A4 t_nextPlace))), (a_t_newKind, .inl (E 0, 64, .inl (A4 t_newKind_l50)))] → va_S A s.heap H locs → lp_ (fun (q : Int × Int × (Nat → Int)) => F_X12_findKinds_L50 n t_places t_kindOf_l30 t_nextPlace q.1 q.2.1 q.2.2) k_ (v50_2, t_kinds_l50, t_newKind_l50) = some o6 → W p l e rm_X12_findKinds s m args below meth c H locs 0 0 Q (F0 m 50 ls []) := by
            intro k_
            induction k_ with
            | zero =>
              intro v50_2 t_kinds_l50 t_newKind_l50 H locs ls hl hP hD hS hq_; exact (lp_zero hq_).elim
            | succ k_ ih6 =>
              intro v50_2 t_kinds_l50 t_newKind_l50 H locs ls hl hP hD hS hq_
              obtain ⟨t_6, hb6, hq6⟩ := lp_some hq_
              replace hb6 : F_X12_findKinds_L50 n t_places t_kindOf_l30 t_nextPlace v50_2 t_kinds_l50 t_newKind_l50 = some t_6 := hb6
              unfold F_X12_findKinds_L50 at hb6
              refine lv_iload_n hx hb dX12_findKinds_50 rfl (lv_at hl 2 rfl) ?_
              refine lv_aload_n hx hb dX12_findKinds_51 rfl (lv_at hl 0 rfl) ?_
              refine m_get X hK hP cl_X12 iT_X12 23 (by decide) fl_X12_185 0 rfl rfl dX12_findKinds_52 ?_
              obtain ⟨h7, hb6⟩ := ck_some hb6
              refine m_icmp_ge X h7 dX12_findKinds_55 (tgt := 142) (by decide) (fun (hc_ : ¬ (v50_2 < t_places)) => ?_) (fun (hc_ : v50_2 < t_places) => ?_)
              · rw [if_neg hc_] at hb6
                obtain rfl := Option.some.inj hb6
                exact E6_0 _ (Option.some.inj hq6).symm _ _ _ (lv_sub hl [0, 1] rfl) hP hD hS
              · rw [if_pos hc_] at hb6
                refine lv_iload_n hx hb dX12_findKinds_58 rfl (lv_at hl 2 rfl) ?_
                refine lv_istore_n (lv' := [(3, .int (z4 v50_2)), (0, .ref a_t), (1, .int (z4 t_kinds_l30)), (2, .int (z4 v50_2))]) hx hb dX12_findKinds_59 rfl hl (by decide) rfl (fun ls hl => ?_)
                refine lv_iload_n hx hb dX12_findKinds_60 rfl (lv_at hl 3 rfl) ?_
                refine m_iconst X dX12_findKinds_61 ?_
                refine m_isub X dX12_findKinds_62 ?_
                refine lv_istore (lv' := [(4, .int (z4 (v50_2 - 1))), (3, .int (z4 v50_2)), (0, .ref a_t), (1, .int (z4 t_kinds_l30)), (2, .int (z4 v50_2))]) hx hb dX12_findKinds_63 hl (by decide) rfl (fun ls hl => ?_)
                obtain ⟨o8, hj8, hr8⟩ := bd_some hb6
                have E8_0 : ∀ (o_ : Int), o8 = o_ → ∀ (H : Heap) (locs : List Loc) (ls : Array Slot), lv_has ls 5 [(0, .ref a_t), (1, .int (z4 t_kinds_l30)), (2, .int (z4 v50_2)), (3, .int (z4 o_))] → va_P D vwCl [(a_t, .inr (12, [.ref a_t_now, .ref a_t_read, .ref a_t_past, .int (z4 t_deeds), .ref a_t_images, .ref a_t_isKept, .ref a_t_text, .int (z4 t_letters), .int (z4 t_at), .int (z4 t_tokenAt), .int (z4 t_tokenSort), .int (z4 t_tokenValue), .int (z4 t_items), .int (z4 t_isChanceTold), .int (z4 t_areSumsTold), .ref a_t_metAt, .ref a_t_memoryAt, .ref a_t_upAt, .ref a_t_downAt, .ref a_t_isSignal, .ref a_t_memories, .ref a_t_placeOf, .ref a_t_nextPlace, .int (z4 t_places), .ref a_t_kindOf, .ref a_t_newKind, .int (z4 t_kinds_l50), .ref a_t_stateOfKind, .ref a_t_stateAt, .ref a_t_stepTo, .int (z4 t_states), .ref a_t_far, .ref a_t_ways, .ref a_t_nextWays, .ref a_t_table])), (a_t_kindOf, .inl (E 0, 64, .inl (A4 t_kindOf_l30))), (a_t_nextPlace, .inl (E 0, 320, .inl (A4 t_nextPlace))), (a_t_newKind, .inl (E 0, 64, .inl (A4 t_newKind_l50)))] H → va_D A [(a_t, .inr (12, [.ref a_t_now, .ref a_t_read, .ref a_t_past, .int (z4 t_deeds), .ref a_t_images, .ref a_t_isKept, .ref a_t_text, .int (z4 t_letters), .int (z4 t_at), .int (z4 t_tokenAt), .int (z4 t_tokenSort), .int (z4 t_tokenValue), .int (z4 t_items), .int (z4 t_isChanceTold), .int (z4 t_areSumsTold), .ref a_t_metAt, .ref a_t_memoryAt, .ref a_t_upAt, .ref a_t_downAt, .ref a_t_isSignal, .ref a_t_memories, .ref a_t_placeOf, .ref a_t_nextPlace, .int (z4 t_places), .ref a_t_kindOf, .ref a_t_newKind, .int (z4 t_kinds_l50), .ref a_t_stateOfKind, .ref a_t_stateAt, .ref a_t_stepTo, .int (z4 t_states), .ref a_t_far, .ref a_t_ways, .ref a_t_nextWays, .ref a_t_table])), (a_t_kindOf, .inl (E 0, 64, .inl (A4 t_kindOf_l30))), (a_t_nextPlace, .inl (E 0, 320, .inl (A4 t_nextPlace))), (a_t_newKind, .inl (E 0, 64, .inl (A4 t_newKind_l50)))] → va_S A s.heap H locs → W p l e rm_X12_findKinds s m args below meth c H locs 0 0 Q (F0 m 93 ls []) := by
                  intro o_ ho_ H locs ls hl hP hD hS
                  subst ho_
                  refine lv_aload_n hx hb dX12_findKinds_93 rfl (lv_at hl 0 rfl) ?_
                  refine m_get X hK hP cl_X12 iT_X12 25 (by decide) fl_X12_56 0 rfl rfl dX12_findKinds_94 ?_
                  refine lv_iload_n hx hb dX12_findKinds_97 rfl (lv_at hl 2 rfl) ?_
                  refine lv_iload_n hx hb dX12_findKinds_98 rfl (lv_at hl 3 rfl) ?_
                  refine lv_iload_n hx hb dX12_findKinds_99 rfl (lv_at hl 2 rfl) ?_
                  obtain ⟨o13, hj13, hr13⟩ := bd_some hr8
                  have J13 : ∀ (o_ : Int), o13 = o_ → ∀ (H : Heap) (locs : List Loc) (ls : Array Slot), lv_has ls 5 [(0, .ref a_t), (1, .int (z4 t_kinds_l30)), (2, .int (z4 v50_2)), (3, .int (z4 o8))] → va_P D vwCl [(a_t, .inr (12, [.ref a_t_now, .ref a_t_read, .ref a_t_past, .int (z4 t_deeds), .ref a_t_images, .ref a_t_isKept, .ref a_t_text, .int (z4 t_letters), .int (z4 t_at), .int (z4 t_tokenAt), .int (z4 t_tokenSort), .int (z4 t_tokenValue), .int (z4 t_items), .int (z4 t_isChanceTold), .int (z4 t_areSumsTold), .ref a_t_metAt, .ref a_t_memoryAt, .ref a_t_upAt, .ref a_t_downAt, .ref a_t_isSignal, .ref a_t_memories, .ref a_t_placeOf, .ref a_t_nextPlace, .int (z4 t_places), .ref a_t_kindOf, .ref a_t_newKind, .int (z4 t_kinds_l50), .ref a_t_stateOfKind, .ref a_t_stateAt, .ref a_t_stepTo, .int (z4 t_states), .ref a_t_far, .ref a_t_ways, .ref a_t_nextWays, .ref a_t_table])), (a_t_kindOf, .inl (E 0, 64, .inl (A4 t_kindOf_l30))), (a_t_nextPlace, .inl (E 0, 320, .inl (A4 t_nextPlace))), (a_t_newKind, .inl (E 0, 64, .inl (A4 t_newKind_l50)))] H → va_D A [(a_t, .inr (12, [.ref a_t_now, .ref a_t_read, .ref a_t_past, .int (z4 t_deeds), .ref a_t_images, .ref a_t_isKept, .ref a_t_text, .int (z4 t_letters), .int (z4 t_at), .int (z4 t_tokenAt), .int (z4 t_tokenSort), .int (z4 t_tokenValue), .int (z4 t_items), .int (z4 t_isChanceTold), .int (z4 t_areSumsTold), .ref a_t_metAt, .ref a_t_memoryAt, .ref a_t_upAt, .ref a_t_downAt, .ref a_t_isSignal, .ref a_t_memories, .ref a_t_placeOf, .ref a_t_nextPlace, .int (z4 t_places), .ref a_t_kindOf, .ref a_t_newKind, .int (z4 t_kinds_l50), .ref a_t_stateOfKind, .ref a_t_stateAt, .ref a_t_stepTo, .int (z4 t_states), .ref a_t_far, .ref a_t_ways, .ref a_t_nextWays, .ref a_t_table])), (a_t_kindOf, .inl (E 0, 64, .inl (A4 t_kindOf_l30))), (a_t_nextPlace, .inl (E 0, 320, .inl (A4 t_nextPlace))), (a_t_newKind, .inl (E 0, 64, .inl (A4 t_newKind_l50)))] → va_S A s.heap H locs → W p l e rm_X12_findKinds s m args below meth c H locs 0 0 Q (F0 m 116 ls [.int (z4 o_), .int (z4 v50_2), .ref a_t_newKind]) := by
                    intro o_ ho_ H locs ls hl hP hD hS
                    subst ho_
                    obtain ⟨h16, hr13⟩ := ck_some hr13
                    refine m_iast X hK hP hD hS 3 rfl (by decide) h16 [(a_t, .inr (12, [.ref a_t_now, .ref a_t_read, .ref a_t_past, .int (z4 t_deeds), .ref a_t_images, .ref a_t_isKept, .ref a_t_text, .int (z4 t_letters), .int (z4 t_at), .int (z4 t_tokenAt), .int (z4 t_tokenSort), .int (z4 t_tokenValue), .int (z4 t_items), .int (z4 t_isChanceTold), .int (z4 t_areSumsTold), .ref a_t_metAt, .ref a_t_memoryAt, .ref a_t_upAt, .ref a_t_downAt, .ref a_t_isSignal, .ref a_t_memories, .ref a_t_placeOf, .ref a_t_nextPlace, .int (z4 t_places), .ref a_t_kindOf, .ref a_t_newKind, .int (z4 t_kinds_l50), .ref a_t_stateOfKind, .ref a_t_stateAt, .ref a_t_stepTo, .int (z4 t_states), .ref a_t_far, .ref a_t_ways, .ref a_t_nextWays, .ref a_t_table])), (a_t_kindOf, .inl (E 0, 64, .inl (A4 t_kindOf_l30))), (a_t_nextPlace, .inl (E 0, 320, .inl (A4 t_nextPlace))), (a_t_newKind, .inl (E 0, 64, .inl (A4 (up_ t_newKind_l50 (v50_2).toNat o13))))] rfl dX12_findKinds_116 (fun H locs hP hD hS => ?_)
                    refine lv_aload_n hx hb dX12_findKinds_117 rfl (lv_at hl 0 rfl) ?_
                    refine lv_dup hx hb dX12_findKinds_118 rfl ?_
                    refine m_get X hK hP cl_X12 iT_X12 26 (by decide) fl_X12_194 0 rfl rfl dX12_findKinds_119 ?_
                    refine lv_iload_n hx hb dX12_findKinds_122 rfl (lv_at hl 3 rfl) ?_
                    refine lv_iload_n hx hb dX12_findKinds_123 rfl (lv_at hl 2 rfl) ?_
                    obtain ⟨o17, hj17, hr17⟩ := bd_some hr13
                    have J17 : ∀ (o_ : Int), o17 = o_ → ∀ (H : Heap) (locs : List Loc) (ls : Array Slot), lv_has ls 5 [(0, .ref a_t), (1, .int (z4 t_kinds_l30)), (2, .int (z4 v50_2))] → va_P D vwCl [(a_t, .inr (12, [.ref a_t_now, .ref a_t_read, .ref a_t_past, .int (z4 t_deeds), .ref a_t_images, .ref a_t_isKept, .ref a_t_text, .int (z4 t_letters), .int (z4 t_at), .int (z4 t_tokenAt), .int (z4 t_tokenSort), .int (z4 t_tokenValue), .int (z4 t_items), .int (z4 t_isChanceTold), .int (z4 t_areSumsTold), .ref a_t_metAt, .ref a_t_memoryAt, .ref a_t_upAt, .ref a_t_downAt, .ref a_t_isSignal, .ref a_t_memories, .ref a_t_placeOf, .ref a_t_nextPlace, .int (z4 t_places), .ref a_t_kindOf, .ref a_t_newKind, .int (z4 t_kinds_l50), .ref a_t_stateOfKind, .ref a_t_stateAt, .ref a_t_stepTo, .int (z4 t_states), .ref a_t_far, .ref a_t_ways, .ref a_t_nextWays, .ref a_t_table])), (a_t_kindOf, .inl (E 0, 64, .inl (A4 t_kindOf_l30))), (a_t_nextPlace, .inl (E 0, 320, .inl (A4 t_nextPlace))), (a_t_newKind, .inl (E 0, 64, .inl (A4 (up_ t_newKind_l50 (v50_2).toNat o13))))] H → va_D A [(a_t, .inr (12, [.ref a_t_now, .ref a_t_read, .ref a_t_past, .int (z4 t_deeds), .ref a_t_images, .ref a_t_isKept, .ref a_t_text, .int (z4 t_letters), .int (z4 t_at), .int (z4 t_tokenAt), .int (z4 t_tokenSort), .int (z4 t_tokenValue), .int (z4 t_items), .int (z4 t_isChanceTold), .int (z4 t_areSumsTold), .ref a_t_metAt, .ref a_t_memoryAt, .ref a_t_upAt, .ref a_t_downAt, .ref a_t_isSignal, .ref a_t_memories, .ref a_t_placeOf, .ref a_t_nextPlace, .int (z4 t_places), .ref a_t_kindOf, .ref a_t_newKind, .int (z4 t_kinds_l50), .ref a_t_stateOfKind, .ref a_t_stateAt, .ref a_t_stepTo, .int (z4 t_states), .ref a_t_far, .ref a_t_ways, .ref a_t_nextWays, .ref a_t_table])), (a_t_kindOf, .inl (E 0, 64, .inl (A4 t_kindOf_l30))), (a_t_nextPlace, .inl (E 0, 320, .inl (A4 t_nextPlace))), (a_t_newKind, .inl (E 0, 64, .inl (A4 (up_ t_newKind_l50 (v50_2).toNat o13))))] → va_S A s.heap H locs → W p l e rm_X12_findKinds s m args below meth c H locs 0 0 Q (F0 m 132 ls [.int (z4 o_), .int (z4 t_kinds_l50), .ref a_t]) := by
                      intro o_ ho_ H locs ls hl hP hD hS
                      subst ho_
                      refine m_iadd X dX12_findKinds_132 ?_
                      refine m_put X hK hP hD hS cl_X12 iT_X12 tyX12 tyX12_ok nmX12 26 (by decide) fl_X12_194 rfl 0 rfl rfl rfl (Nat.le_of_ble_eq_true rfl) [(a_t, .inr (12, [.ref a_t_now, .ref a_t_read, .ref a_t_past, .int (z4 t_deeds), .ref a_t_images, .ref a_t_isKept, .ref a_t_text, .int (z4 t_letters), .int (z4 t_at), .int (z4 t_tokenAt), .int (z4 t_tokenSort), .int (z4 t_tokenValue), .int (z4 t_items), .int (z4 t_isChanceTold), .int (z4 t_areSumsTold), .ref a_t_metAt, .ref a_t_memoryAt, .ref a_t_upAt, .ref a_t_downAt, .ref a_t_isSignal, .ref a_t_memories, .ref a_t_placeOf, .ref a_t_nextPlace, .int (z4 t_places), .ref a_t_kindOf, .ref a_t_newKind, .int (z4 (t_kinds_l50 + o17)), .ref a_t_stateOfKind, .ref a_t_stateAt, .ref a_t_stepTo, .int (z4 t_states), .ref a_t_far, .ref a_t_ways, .ref a_t_nextWays, .ref a_t_table])), (a_t_kindOf, .inl (E 0, 64, .inl (A4 t_kindOf_l30))), (a_t_nextPlace, .inl (E 0, 320, .inl (A4 t_nextPlace))), (a_t_newKind, .inl (E 0, 64, .inl (A4 (up_ t_newKind_l50 (v50_2).toNat o13))))] rfl dX12_findKinds_133 (fun H locs hP hD hS => ?_)
                      refine m_iinc X 2 [(2, .int (z4 (v50_2 + 1))), (0, .ref a_t), (1, .int (z4 t_kinds_l30))] dX12_findKinds_136 hl rfl (by decide) rfl (fun ls hl => ?_)
                      refine lv_goto (tgt := 50) hx hb dX12_findKinds_139 (by decide) ?_
                      obtain rfl := Option.some.inj hr17
                      exact ih6 _ _ _ _ _ _ (lv_sub hl [1, 2, 0] rfl) hP hD hS hq6
                    obtain ⟨h18, hj17⟩ := ck_some hj17
                    refine m_icmp_ne X h18 dX12_findKinds_124 (tgt := 131) (by decide) (fun (hc_ : ¬ (o8 = v50_2)) => ?_) (fun (hc_ : o8 = v50_2) => ?_)
                    · rw [if_neg hc_] at hj17
                      refine m_iconst X dX12_findKinds_131 ?_
                      exact J17 _ (Option.some.inj hj17).symm _ _ _ (lv_sub hl [0, 1, 2] rfl) hP hD hS
                    · rw [if_pos hc_] at hj17
                      refine m_iconst X dX12_findKinds_127 ?_
                      refine lv_goto (tgt := 132) hx hb dX12_findKinds_128 (by decide) ?_
                      exact J17 _ (Option.some.inj hj17).symm _ _ _ (lv_sub hl [0, 1, 2] rfl) hP hD hS
                  obtain ⟨h14, hj13⟩ := ck_some hj13
                  refine m_icmp_ne X h14 dX12_findKinds_100 (tgt := 110) (by decide) (fun (hc_ : ¬ (o8 = v50_2)) => ?_) (fun (hc_ : o8 = v50_2) => ?_)
                  · rw [if_neg hc_] at hj13
                    refine lv_aload_n hx hb dX12_findKinds_110 rfl (lv_at hl 0 rfl) ?_
                    refine m_get X hK hP cl_X12 iT_X12 25 (by decide) fl_X12_56 0 rfl rfl dX12_findKinds_111 ?_
                    refine lv_iload_n hx hb dX12_findKinds_114 rfl (lv_at hl 3 rfl) ?_
                    obtain ⟨h15, hj13⟩ := ck_some hj13
                    refine m_iald X hK hP 3 rfl (by decide) h15 dX12_findKinds_115 ?_
                    exact J13 _ (Option.some.inj hj13).symm _ _ _ (lv_sub hl [0, 1, 2, 3] rfl) hP hD hS
                  · rw [if_pos hc_] at hj13
                    refine lv_aload_n hx hb dX12_findKinds_103 rfl (lv_at hl 0 rfl) ?_
                    refine m_get X hK hP cl_X12 iT_X12 26 (by decide) fl_X12_194 0 rfl rfl dX12_findKinds_104 ?_
                    refine lv_goto (tgt := 116) hx hb dX12_findKinds_107 (by decide) ?_
                    exact J13 _ (Option.some.inj hj13).symm _ _ _ (lv_sub hl [0, 1, 2, 3] rfl) hP hD hS
                have L8 : ∀ (k_ : Nat) (v65_3 : Int) (v65_4 : Int), ∀ (H : Heap) (locs : List Loc) (ls : Array Slot), lv_has ls 5 [(0, .ref a_t), (1, .int (z4 t_kinds_l30)), (2, .int (z4 v50_2)), (3, .int (z4 v65_3)), (4, .int (z4 v65_4))] → va_P D vwCl [(a_t, .inr (12, [.ref a_t_now, .ref a_t_read, .ref a_t_past, .int (z4 t_deeds), .ref a_t_images, .ref a_t_isKept, .ref a_t_text, .int (z4 t_letters), .int (z4 t_at), .int (z4 t_tokenAt), .int (z4 t_tokenSort), .int (z4 t_tokenValue), .int (z4 t_items), .int (z4 t_isChanceTold), .int (z4 t_areSumsTold), .ref a_t_metAt, .ref a_t_memoryAt, .ref a_t_upAt, .ref a_t_downAt, .ref a_t_isSignal, .ref a_t_memories, .ref a_t_placeOf, .ref a_t_nextPlace, .int (z4 t_places), .ref a_t_kindOf, .ref a_t_newKind, .int (z4 t_kinds_l50), .ref a_t_stateOfKind, .ref a_t_stateAt, .ref a_t_stepTo, .int (z4 t_states), .ref a_t_far, .ref a_t_ways, .ref a_t_nextWays, .ref a_t_table])), (a_t_kindOf, .inl (E 0, 64, .inl (A4 t_kindOf_l30))), (a_t_nextPlace, .inl (E 0, 320, .inl (A4 t_nextPlace))), (a_t_newKind, .inl (E 0, 64, .inl (A4 t_newKind_l50)))] H → va_D A [(a_t, .inr (12, [.ref a_t_now, .ref a_t_read, .ref a_t_past, .int (z4 t_deeds), .ref a_t_images, .ref a_t_isKept, .ref a_t_text, .int (z4 t_letters), .int (z4 t_at), .int (z4 t_tokenAt), .int (z4 t_tokenSort), .int (z4 t_tokenValue), .int (z4 t_items), .int (z4 t_isChanceTold), .int (z4 t_areSumsTold), .ref a_t_metAt, .ref a_t_memoryAt, .ref a_t_upAt, .ref a_t_downAt, .ref a_t_isSignal, .ref a_t_memories, .ref a_t_placeOf, .ref a_t_nextPlace, .int (z4 t_places), .ref a_t_kindOf, .ref a_t_newKind, .int (z4 t_kinds_l50), .ref a_t_stateOfKind, .ref a_t_stateAt, .ref a_t_stepTo, .int (z4 t_states), .ref a_t_far, .ref a_t_ways, .ref a_t_nextWays, .ref a_t_table])), (a_t_kindOf, .inl (E 0, 64, .inl (A4 t_kindOf_l30))), (a_t_nextPlace, .inl (E 0, 320, .inl (A4 t_nextPlace))), (a_t_newKind, .inl (E 0, 64, .inl (A4 t_newKind_l50)))] → va_S A s.heap H locs → lp_ (fun (q : Int × Int) => F_X12_findKinds_L65 n t_kindOf_l30 t_nextPlace v50_2 q.1 q.2) k_ (v65_3, v65_4) = some o8 → W p l e rm_X12_findKinds s m args below meth c H locs 0 0 Q (F0 m 65 ls []) := by
                  intro k_
                  induction k_ with
                  | zero =>
                    intro v65_3 v65_4 H locs ls hl hP hD hS hq_; exact (lp_zero hq_).elim
                  | succ k_ ih8 =>
                    intro v65_3 v65_4 H locs ls hl hP hD hS hq_
                    obtain ⟨t_8, hb8, hq8⟩ := lp_some hq_
                    replace hb8 : F_X12_findKinds_L65 n t_kindOf_l30 t_nextPlace v50_2 v65_3 v65_4 = some t_8 := hb8
                    unfold F_X12_findKinds_L65 at hb8
                    refine lv_iload hx hb dX12_findKinds_65 (lv_at hl 4 rfl) ?_
                    obtain ⟨h9, hb8⟩ := ck_some hb8
                    refine m_if_lt X h9 dX12_findKinds_67 (tgt := 93) (by decide) (fun (hc_ : v65_4 < 0) => ?_) (fun (hc_ : ¬ (v65_4 < 0)) => ?_)
                    · rw [if_pos hc_] at hb8
                      obtain rfl := Option.some.inj hb8
                      exact E8_0 _ (Option.some.inj hq8).symm _ _ _ (lv_sub hl [0, 1, 2, 3] rfl) hP hD hS
                    · rw [if_neg hc_] at hb8
                      refine lv_aload_n hx hb dX12_findKinds_70 rfl (lv_at hl 0 rfl) ?_
                      refine lv_iload_n hx hb dX12_findKinds_71 rfl (lv_at hl 2 rfl) ?_
                      refine lv_iload hx hb dX12_findKinds_72 (lv_at hl 4 rfl) ?_
                      obtain ⟨o10, ho, hb8⟩ := bd_some hb8
                      refine m_cVR X hK (k_X12_areLike n a_t a_t_now a_t_read a_t_past a_t_images a_t_isKept a_t_text a_t_metAt a_t_memoryAt a_t_upAt a_t_downAt a_t_isSignal a_t_memories a_t_placeOf a_t_nextPlace a_t_kindOf a_t_newKind a_t_stateOfKind a_t_stateAt a_t_stepTo a_t_far a_t_ways a_t_nextWays a_t_table t_deeds t_letters t_at t_tokenAt t_tokenSort t_tokenValue t_items t_isChanceTold t_areSumsTold t_places t_kinds_l50 t_states t_kindOf_l30 t_nextPlace v50_2 v65_4 o10 ho) (hP.sub [0, 1, 2] rfl) rfl cl_X12 lk_X12_197 co_X12_areLike dy_X12_areLike rfl rfl ⟨Nat.le_of_ble_eq_true rfl, Nat.le_of_ble_eq_true rfl⟩ hl.1 rfl (Nat.le_of_ble_eq_true rfl) dX12_findKinds_74 (Nat.zero_le _) (Nat.zero_le _) ?_
                      obtain ⟨o11, hj11, hr11⟩ := bd_some hb8
                      have J11 : ∀ (o_ : Int), o11 = o_ → ∀ (H : Heap) (locs : List Loc) (ls : Array Slot), lv_has ls 5 [(0, .ref a_t), (1, .int (z4 t_kinds_l30)), (2, .int (z4 v50_2)), (4, .int (z4 v65_4))] → va_P D vwCl [(a_t, .inr (12, [.ref a_t_now, .ref a_t_read, .ref a_t_past, .int (z4 t_deeds), .ref a_t_images, .ref a_t_isKept, .ref a_t_text, .int (z4 t_letters), .int (z4 t_at), .int (z4 t_tokenAt), .int (z4 t_tokenSort), .int (z4 t_tokenValue), .int (z4 t_items), .int (z4 t_isChanceTold), .int (z4 t_areSumsTold), .ref a_t_metAt, .ref a_t_memoryAt, .ref a_t_upAt, .ref a_t_downAt, .ref a_t_isSignal, .ref a_t_memories, .ref a_t_placeOf, .ref a_t_nextPlace, .int (z4 t_places), .ref a_t_kindOf, .ref a_t_newKind, .int (z4 t_kinds_l50), .ref a_t_stateOfKind, .ref a_t_stateAt, .ref a_t_stepTo, .int (z4 t_states), .ref a_t_far, .ref a_t_ways, .ref a_t_nextWays, .ref a_t_table])), (a_t_kindOf, .inl (E 0, 64, .inl (A4 t_kindOf_l30))), (a_t_nextPlace, .inl (E 0, 320, .inl (A4 t_nextPlace))), (a_t_newKind, .inl (E 0, 64, .inl (A4 t_newKind_l50)))] H → va_D A [(a_t, .inr (12, [.ref a_t_now, .ref a_t_read, .ref a_t_past, .int (z4 t_deeds), .ref a_t_images, .ref a_t_isKept, .ref a_t_text, .int (z4 t_letters), .int (z4 t_at), .int (z4 t_tokenAt), .int (z4 t_tokenSort), .int (z4 t_tokenValue), .int (z4 t_items), .int (z4 t_isChanceTold), .int (z4 t_areSumsTold), .ref a_t_metAt, .ref a_t_memoryAt, .ref a_t_upAt, .ref a_t_downAt, .ref a_t_isSignal, .ref a_t_memories, .ref a_t_placeOf, .ref a_t_nextPlace, .int (z4 t_places), .ref a_t_kindOf, .ref a_t_newKind, .int (z4 t_kinds_l50), .ref a_t_stateOfKind, .ref a_t_stateAt, .ref a_t_stepTo, .int (z4 t_states), .ref a_t_far, .ref a_t_ways, .ref a_t_nextWays, .ref a_t_table])), (a_t_kindOf, .inl (E 0, 64, .inl (A4 t_kindOf_l30))), (a_t_nextPlace, .inl (E 0, 320, .inl (A4 t_nextPlace))), (a_t_newKind, .inl (E 0, 64, .inl (A4 t_newKind_l50)))] → va_S A s.heap H locs → W p l e rm_X12_findKinds s m args below meth c H locs 0 0 Q (F0 m 86 ls [.int (z4 o_)]) := by
                        intro o_ ho_ H locs ls hl hP hD hS
                        subst ho_
                        refine lv_istore_n (lv' := [(3, .int (z4 o11)), (0, .ref a_t), (1, .int (z4 t_kinds_l30)), (2, .int (z4 v50_2)), (4, .int (z4 v65_4))]) hx hb dX12_findKinds_86 rfl hl (by decide) rfl (fun ls hl => ?_)
                        refine m_iinc X 4 [(4, .int (z4 (v65_4 + (-1)))), (3, .int (z4 o11)), (0, .ref a_t), (1, .int (z4 t_kinds_l30)), (2, .int (z4 v50_2))] dX12_findKinds_87 hl rfl (by decide) rfl (fun ls hl => ?_)
                        refine lv_goto (tgt := 65) hx hb dX12_findKinds_90 (by decide) ?_
                        obtain rfl := Option.some.inj hr11
                        exact ih8 _ _ _ _ _ (lv_sub hl [2, 3, 4, 1, 0] rfl) hP hD hS hq8
                      obtain ⟨h12, hj11⟩ := ck_some hj11
                      refine m_if_eq X h12 dX12_findKinds_77 (tgt := 85) (by decide) (fun (hc_ : o10 = 0) => ?_) (fun (hc_ : ¬ (o10 = 0)) => ?_)
                      · rw [if_pos hc_] at hj11
                        refine lv_iload_n hx hb dX12_findKinds_85 rfl (lv_at hl 3 rfl) ?_
                        exact J11 _ (Option.some.inj hj11).symm _ _ _ (lv_sub hl [0, 1, 2, 4] rfl) hP hD hS
                      · rw [if_neg hc_] at hj11
                        refine lv_iload hx hb dX12_findKinds_80 (lv_at hl 4 rfl) ?_
                        refine lv_goto (tgt := 86) hx hb dX12_findKinds_82 (by decide) ?_
                        exact J11 _ (Option.some.inj hj11).symm _ _ _ (lv_sub hl [0, 1, 2, 4] rfl) hP hD hS
                exact L8 n _ _ _ _ _ (lv_sub hl [2, 3, 4, 1, 0] rfl) hP hD hS hj8
          exact L6 n _ _ _ _ _ _ (lv_sub hl [2, 1, 0] rfl) hP hD hS hj6
    exact L4 n _ _ _ _ _ _ _ (lv_sub hl [1, 0] rfl) hP hD hS hj4
  have L1 : ∀ (k_ : Nat) (v2_1 : Int) (t_kindOf_l2 : Nat → Int), ∀ (H : Heap) (locs : List Loc) (ls : Array Slot), lv_has ls 5 [(0, .ref a_t), (1, .int (z4 v2_1))] → va_P D vwCl [(a_t, .inr (12, [.ref a_t_now, .ref a_t_read, .ref a_t_past, .int (z4 t_deeds), .ref a_t_images, .ref a_t_isKept, .ref a_t_text, .int (z4 t_letters), .int (z4 t_at), .int (z4 t_tokenAt), .int (z4 t_tokenSort), .int (z4 t_tokenValue), .int (z4 t_items), .int (z4 t_isChanceTold), .int (z4 t_areSumsTold), .ref a_t_metAt, .ref a_t_memoryAt, .ref a_t_upAt, .ref a_t_downAt, .ref a_t_isSignal, .ref a_t_memories, .ref a_t_placeOf, .ref a_t_nextPlace, .int (z4 t_places), .ref a_t_kindOf, .ref a_t_newKind, .int (z4 t_kinds), .ref a_t_stateOfKind, .ref a_t_stateAt, .ref a_t_stepTo, .int (z4 t_states), .ref a_t_far, .ref a_t_ways, .ref a_t_nextWays, .ref a_t_table])), (a_t_kindOf, .inl (E 0, 64, .inl (A4 t_kindOf_l2))), (a_t_nextPlace, .inl (E 0, 320, .inl (A4 t_nextPlace))), (a_t_newKind, .inl (E 0, 64, .inl (A4 t_newKind)))] H → va_D A [(a_t, .inr (12, [.ref a_t_now, .ref a_t_read, .ref a_t_past, .int (z4 t_deeds), .ref a_t_images, .ref a_t_isKept, .ref a_t_text, .int (z4 t_letters), .int (z4 t_at), .int (z4 t_tokenAt), .int (z4 t_tokenSort), .int (z4 t_tokenValue), .int (z4 t_items), .int (z4 t_isChanceTold), .int (z4 t_areSumsTold), .ref a_t_metAt, .ref a_t_memoryAt, .ref a_t_upAt, .ref a_t_downAt, .ref a_t_isSignal, .ref a_t_memories, .ref a_t_placeOf, .ref a_t_nextPlace, .int (z4 t_places), .ref a_t_kindOf, .ref a_t_newKind, .int (z4 t_kinds), .ref a_t_stateOfKind, .ref a_t_stateAt, .ref a_t_stepTo, .int (z4 t_states), .ref a_t_far, .ref a_t_ways, .ref a_t_nextWays, .ref a_t_table])), (a_t_kindOf, .inl (E 0, 64, .inl (A4 t_kindOf_l2))), (a_t_nextPlace, .inl (E 0, 320, .inl (A4 t_nextPlace))), (a_t_newKind, .inl (E 0, 64, .inl (A4 t_newKind)))] → va_S A s.heap H locs → lp_ (fun (q : Int × (Nat → Int)) => F_X12_findKinds_L2 n t_places q.1 q.2) k_ (v2_1, t_kindOf_l2) = some o1 → W p l e rm_X12_findKinds s m args below meth c H locs 0 0 Q (F0 m 2 ls []) := by
    intro k_
    induction k_ with
    | zero =>
      intro v2_1 t_kindOf_l2 H locs ls hl hP hD hS hq_; exact (lp_zero hq_).elim
    | succ k_ ih1 =>
      intro v2_1 t_kindOf_l2 H locs ls hl hP hD hS hq_
      obtain ⟨t_1, hb1, hq1⟩ := lp_some hq_
      replace hb1 : F_X12_findKinds_L2 n t_places v2_1 t_kindOf_l2 = some t_1 := hb1
      unfold F_X12_findKinds_L2 at hb1
      refine lv_iload_n hx hb dX12_findKinds_2 rfl (lv_at hl 1 rfl) ?_
      refine lv_aload_n hx hb dX12_findKinds_3 rfl (lv_at hl 0 rfl) ?_
      refine m_get X hK hP cl_X12 iT_X12 23 (by decide) fl_X12_185 0 rfl rfl dX12_findKinds_4 ?_
      obtain ⟨h2, hb1⟩ := ck_some hb1
      refine m_icmp_ge X h2 dX12_findKinds_7 (tgt := 23) (by decide) (fun (hc_ : ¬ (v2_1 < t_places)) => ?_) (fun (hc_ : v2_1 < t_places) => ?_)
      · rw [if_neg hc_] at hb1
        obtain rfl := Option.some.inj hb1
        exact E1_0 _ (Option.some.inj hq1).symm _ _ _ (lv_sub hl [0] rfl) hP hD hS
      · rw [if_pos hc_] at hb1
        refine lv_aload_n hx hb dX12_findKinds_10 rfl (lv_at hl 0 rfl) ?_
        refine m_get X hK hP cl_X12 iT_X12 24 (by decide) fl_X12_53 0 rfl rfl dX12_findKinds_11 ?_
        refine lv_iload_n hx hb dX12_findKinds_14 rfl (lv_at hl 1 rfl) ?_
        refine m_iconst X dX12_findKinds_15 ?_
        obtain ⟨h3, hb1⟩ := ck_some hb1
        refine m_iast X hK hP hD hS 1 rfl (by decide) h3 [(a_t, .inr (12, [.ref a_t_now, .ref a_t_read, .ref a_t_past, .int (z4 t_deeds), .ref a_t_images, .ref a_t_isKept, .ref a_t_text, .int (z4 t_letters), .int (z4 t_at), .int (z4 t_tokenAt), .int (z4 t_tokenSort), .int (z4 t_tokenValue), .int (z4 t_items), .int (z4 t_isChanceTold), .int (z4 t_areSumsTold), .ref a_t_metAt, .ref a_t_memoryAt, .ref a_t_upAt, .ref a_t_downAt, .ref a_t_isSignal, .ref a_t_memories, .ref a_t_placeOf, .ref a_t_nextPlace, .int (z4 t_places), .ref a_t_kindOf, .ref a_t_newKind, .int (z4 t_kinds), .ref a_t_stateOfKind, .ref a_t_stateAt, .ref a_t_stepTo, .int (z4 t_states), .ref a_t_far, .ref a_t_ways, .ref a_t_nextWays, .ref a_t_table])), (a_t_kindOf, .inl (E 0, 64, .inl (A4 (up_ t_kindOf_l2 (v2_1).toNat 0)))), (a_t_nextPlace, .inl (E 0, 320, .inl (A4 t_nextPlace))), (a_t_newKind, .inl (E 0, 64, .inl (A4 t_newKind)))] rfl dX12_findKinds_16 (fun H locs hP hD hS => ?_)
        refine m_iinc X 1 [(1, .int (z4 (v2_1 + 1))), (0, .ref a_t)] dX12_findKinds_17 hl rfl (by decide) rfl (fun ls hl => ?_)
        refine lv_goto (tgt := 2) hx hb dX12_findKinds_20 (by decide) ?_
        obtain rfl := Option.some.inj hb1
        exact ih1 _ _ _ _ _ (lv_sub hl [1, 0] rfl) hP hD hS hq1
  exact L1 n _ _ _ _ _ (lv_sub hl [1, 0] rfl) hP hD hS hj1
def F_X12_stateFor (n : Nat)  (t_states : Int) (t_kindOf : Nat → Int) (t_stateOfKind : Nat → Int) (t_stateAt : Nat → Int) (x1 : Int) : Option (Int × Int × (Nat → Int) × (Nat → Int)) :=
  ck (ix_ x1 64) <|
  ck (ix_ (t_kindOf (x1).toNat) 64) <|
  Option.bind (α := Int × (Nat → Int) × (Nat → Int)) (
    ck (r4 (t_stateOfKind (t_kindOf (x1).toNat).toNat)) <|
    if t_stateOfKind (t_kindOf (x1).toNat).toNat = (-9) then
      ck (ix_ (t_kindOf (x1).toNat) 64) <|
      ck (ix_ t_states 64) <|
      some (t_states + 1, up_ t_stateOfKind (t_kindOf (x1).toNat).toNat t_states, up_ t_stateAt (t_states).toNat x1)
    else
      some (t_states, t_stateOfKind, t_stateAt)) fun o3 =>
  ck (ix_ (t_kindOf (x1).toNat) 64) <|
  some (o3.2.1 (t_kindOf (x1).toNat).toNat, o3.1, o3.2.1, o3.2.2)
def rm_X12_stateFor : Room := { frames := 0, cells := 0, slots := 0, locals := 0 }
set_option maxHeartbeats 4000000 in
set_option maxRecDepth 100000 in
theorem k_X12_stateFor {l : Launch} {D : va_G} {E : Nat → ClassId} (n : Nat) (a_t a_t_now a_t_read a_t_past a_t_images a_t_isKept a_t_text a_t_metAt a_t_memoryAt a_t_upAt a_t_downAt a_t_isSignal a_t_memories a_t_placeOf a_t_nextPlace a_t_kindOf a_t_newKind a_t_stateOfKind a_t_stateAt a_t_stepTo a_t_far a_t_ways a_t_nextWays a_t_table : Nat) (t_deeds : Int) (t_letters : Int) (t_at : Int) (t_tokenAt : Int) (t_tokenSort : Int) (t_tokenValue : Int) (t_items : Int) (t_isChanceTold : Int) (t_areSumsTold : Int) (t_places : Int) (t_kinds : Int) (t_states : Int) (t_kindOf : Nat → Int) (t_stateOfKind : Nat → Int) (t_stateAt : Nat → Int) (x1 : Int) (res : Int × Int × (Nat → Int) × (Nat → Int)) (hf : F_X12_stateFor n t_states t_kindOf t_stateOfKind t_stateAt x1 = some res) : MW l yX12_stateFor (.code yX12_stateFor cX12_stateFor 3 (some .int)) rm_X12_stateFor D E [.ref a_t, .int (z4 x1)] [(a_t, .inr (12, [.ref a_t_now, .ref a_t_read, .ref a_t_past, .int (z4 t_deeds), .ref a_t_images, .ref a_t_isKept, .ref a_t_text, .int (z4 t_letters), .int (z4 t_at), .int (z4 t_tokenAt), .int (z4 t_tokenSort), .int (z4 t_tokenValue), .int (z4 t_items), .int (z4 t_isChanceTold), .int (z4 t_areSumsTold), .ref a_t_metAt, .ref a_t_memoryAt, .ref a_t_upAt, .ref a_t_downAt, .ref a_t_isSignal, .ref a_t_memories, .ref a_t_placeOf, .ref a_t_nextPlace, .int (z4 t_places), .ref a_t_kindOf, .ref a_t_newKind, .int (z4 t_kinds), .ref a_t_stateOfKind, .ref a_t_stateAt, .ref a_t_stepTo, .int (z4 t_states), .ref a_t_far, .ref a_t_ways, .ref a_t_nextWays, .ref a_t_table])), (a_t_kindOf, .inl (E 0, 64, .inl (A4 t_kindOf))), (a_t_stateOfKind, .inl (E 0, 64, .inl (A4 t_stateOfKind))), (a_t_stateAt, .inl (E 0, 64, .inl (A4 t_stateAt)))] (some (.int (z4 res.1))) [(a_t, .inr (12, [.ref a_t_now, .ref a_t_read, .ref a_t_past, .int (z4 t_deeds), .ref a_t_images, .ref a_t_isKept, .ref a_t_text, .int (z4 t_letters), .int (z4 t_at), .int (z4 t_tokenAt), .int (z4 t_tokenSort), .int (z4 t_tokenValue), .int (z4 t_items), .int (z4 t_isChanceTold), .int (z4 t_areSumsTold), .ref a_t_metAt, .ref a_t_memoryAt, .ref a_t_upAt, .ref a_t_downAt, .ref a_t_isSignal, .ref a_t_memories, .ref a_t_placeOf, .ref a_t_nextPlace, .int (z4 t_places), .ref a_t_kindOf, .ref a_t_newKind, .int (z4 t_kinds), .ref a_t_stateOfKind, .ref a_t_stateAt, .ref a_t_stepTo, .int (z4 res.2.1), .ref a_t_far, .ref a_t_ways, .ref a_t_nextWays, .ref a_t_table])), (a_t_kindOf, .inl (E 0, 64, .inl (A4 t_kindOf))), (a_t_stateOfKind, .inl (E 0, 64, .inl (A4 res.2.2.1))), (a_t_stateAt, .inl (E 0, 64, .inl (A4 res.2.2.2)))] := by
  refine MWi (by decide) (Nat.le_of_ble_eq_true rfl) ?_
  intro p e s m args below meth c A Q X hK hP hD hA ret ls hl
  have hS : va_S A s.heap s.heap [] := va_S.rf
  have hx := X.1
  have hb := X.2.1
  have hl : lv_has ls 3 [(0, .ref a_t), (1, .int (z4 x1))] := hl
  unfold F_X12_stateFor at hf
  refine lv_aload_n hx hb dX12_stateFor_0 rfl (lv_at hl 0 rfl) ?_
  refine m_get X hK hP cl_X12 iT_X12 24 (by decide) fl_X12_53 0 rfl rfl dX12_stateFor_1 ?_
  refine lv_iload_n hx hb dX12_stateFor_4 rfl (lv_at hl 1 rfl) ?_
  obtain ⟨h1, hf⟩ := ck_some hf
  refine m_iald X hK hP 1 rfl (by decide) h1 dX12_stateFor_5 ?_
  refine lv_istore_n (lv' := [(2, .int (z4 (t_kindOf (x1).toNat))), (0, .ref a_t), (1, .int (z4 x1))]) hx hb dX12_stateFor_6 rfl hl (by decide) rfl (fun ls hl => ?_)
  refine lv_aload_n hx hb dX12_stateFor_7 rfl (lv_at hl 1 rfl) ?_
  refine m_get X hK hP cl_X12 iT_X12 27 (by decide) fl_X12_59 0 rfl rfl dX12_stateFor_8 ?_
  refine lv_iload_n hx hb dX12_stateFor_11 rfl (lv_at hl 0 rfl) ?_
  obtain ⟨h2, hf⟩ := ck_some hf
  refine m_iald X hK hP 2 rfl (by decide) h2 dX12_stateFor_12 ?_
  refine m_bipush X dX12_stateFor_13 (by decide) ?_
  obtain ⟨o3, hj3, hr3⟩ := bd_some hf
  have J3 : ∀ (o_ : Int × (Nat → Int) × (Nat → Int)), o3 = o_ → ∀ (H : Heap) (locs : List Loc) (ls : Array Slot), lv_has ls 3 [(0, .ref a_t), (2, .int (z4 (t_kindOf (x1).toNat)))] → va_P D vwCl [(a_t, .inr (12, [.ref a_t_now, .ref a_t_read, .ref a_t_past, .int (z4 t_deeds), .ref a_t_images, .ref a_t_isKept, .ref a_t_text, .int (z4 t_letters), .int (z4 t_at), .int (z4 t_tokenAt), .int (z4 t_tokenSort), .int (z4 t_tokenValue), .int (z4 t_items), .int (z4 t_isChanceTold), .int (z4 t_areSumsTold), .ref a_t_metAt, .ref a_t_memoryAt, .ref a_t_upAt, .ref a_t_downAt, .ref a_t_isSignal, .ref a_t_memories, .ref a_t_placeOf, .ref a_t_nextPlace, .int (z4 t_places), .ref a_t_kindOf, .ref a_t_newKind, .int (z4 t_kinds), .ref a_t_stateOfKind, .ref a_t_stateAt, .ref a_t_stepTo, .int (z4 o_.1), .ref a_t_far, .ref a_t_ways, .ref a_t_nextWays, .ref a_t_table])), (a_t_kindOf, .inl (E 0, 64, .inl (A4 t_kindOf))), (a_t_stateOfKind, .inl (E 0, 64, .inl (A4 o_.2.1))), (a_t_stateAt, .inl (E 0, 64, .inl (A4 o_.2.2)))] H → va_D A [(a_t, .inr (12, [.ref a_t_now, .ref a_t_read, .ref a_t_past, .int (z4 t_deeds), .ref a_t_images, .ref a_t_isKept, .ref a_t_text, .int (z4 t_letters), .int (z4 t_at), .int (z4 t_tokenAt), .int (z4 t_tokenSort), .int (z4 t_tokenValue), .int (z4 t_items), .int (z4 t_isChanceTold), .int (z4 t_areSumsTold), .ref a_t_metAt, .ref a_t_memoryAt, .ref a_t_upAt, .ref a_t_downAt, .ref a_t_isSignal, .ref a_t_memories, .ref a_t_placeOf, .ref a_t_nextPlace, .int (z4 t_places), .ref a_t_kindOf, .ref a_t_newKind, .int (z4 t_kinds), .ref a_t_stateOfKind, .ref a_t_stateAt, .ref a_t_stepTo, .int (z4 o_.1), .ref a_t_far, .ref a_t_ways, .ref a_t_nextWays, .ref a_t_table])), (a_t_kindOf, .inl (E 0, 64, .inl (A4 t_kindOf))), (a_t_stateOfKind, .inl (E 0, 64, .inl (A4 o_.2.1))), (a_t_stateAt, .inl (E 0, 64, .inl (A4 o_.2.2)))] → va_S A s.heap H locs → W p l e rm_X12_stateFor s m args below meth c H locs 0 0 Q (F0 m 48 ls []) := by
    intro o_ ho_ H locs ls hl hP hD hS
    subst ho_
    refine lv_aload_n hx hb dX12_stateFor_48 rfl (lv_at hl 0 rfl) ?_
    refine m_get X hK hP cl_X12 iT_X12 27 (by decide) fl_X12_59 0 rfl rfl dX12_stateFor_49 ?_
    refine lv_iload_n hx hb dX12_stateFor_52 rfl (lv_at hl 1 rfl) ?_
    obtain ⟨h7, hr3⟩ := ck_some hr3
    refine m_iald X hK hP 2 rfl (by decide) h7 dX12_stateFor_53 ?_
    obtain rfl := Option.some.inj hr3
    exact ret _ _ _ _ hP hD hS dX12_stateFor_54
  obtain ⟨h4, hj3⟩ := ck_some hj3
  refine m_icmp_ne X ⟨h4, ⟨by decide, by decide⟩⟩ dX12_stateFor_15 (tgt := 48) (by decide) (fun (hc_ : ¬ (t_stateOfKind (t_kindOf (x1).toNat).toNat = (-9))) => ?_) (fun (hc_ : t_stateOfKind (t_kindOf (x1).toNat).toNat = (-9)) => ?_)
  · rw [if_neg hc_] at hj3
    exact J3 _ (Option.some.inj hj3).symm _ _ _ (lv_sub hl [1, 0] rfl) hP hD hS
  · rw [if_pos hc_] at hj3
    refine lv_aload_n hx hb dX12_stateFor_18 rfl (lv_at hl 1 rfl) ?_
    refine m_get X hK hP cl_X12 iT_X12 27 (by decide) fl_X12_59 0 rfl rfl dX12_stateFor_19 ?_
    refine lv_iload_n hx hb dX12_stateFor_22 rfl (lv_at hl 0 rfl) ?_
    refine lv_aload_n hx hb dX12_stateFor_23 rfl (lv_at hl 1 rfl) ?_
    refine m_get X hK hP cl_X12 iT_X12 30 (by decide) fl_X12_200 0 rfl rfl dX12_stateFor_24 ?_
    obtain ⟨h5, hj3⟩ := ck_some hj3
    refine m_iast X hK hP hD hS 2 rfl (by decide) h5 [(a_t, .inr (12, [.ref a_t_now, .ref a_t_read, .ref a_t_past, .int (z4 t_deeds), .ref a_t_images, .ref a_t_isKept, .ref a_t_text, .int (z4 t_letters), .int (z4 t_at), .int (z4 t_tokenAt), .int (z4 t_tokenSort), .int (z4 t_tokenValue), .int (z4 t_items), .int (z4 t_isChanceTold), .int (z4 t_areSumsTold), .ref a_t_metAt, .ref a_t_memoryAt, .ref a_t_upAt, .ref a_t_downAt, .ref a_t_isSignal, .ref a_t_memories, .ref a_t_placeOf, .ref a_t_nextPlace, .int (z4 t_places), .ref a_t_kindOf, .ref a_t_newKind, .int (z4 t_kinds), .ref a_t_stateOfKind, .ref a_t_stateAt, .ref a_t_stepTo, .int (z4 t_states), .ref a_t_far, .ref a_t_ways, .ref a_t_nextWays, .ref a_t_table])), (a_t_kindOf, .inl (E 0, 64, .inl (A4 t_kindOf))), (a_t_stateOfKind, .inl (E 0, 64, .inl (A4 (up_ t_stateOfKind (t_kindOf (x1).toNat).toNat t_states)))), (a_t_stateAt, .inl (E 0, 64, .inl (A4 t_stateAt)))] rfl dX12_stateFor_27 (fun H locs hP hD hS => ?_)
    refine lv_aload_n hx hb dX12_stateFor_28 rfl (lv_at hl 1 rfl) ?_
    refine m_get X hK hP cl_X12 iT_X12 28 (by decide) fl_X12_62 0 rfl rfl dX12_stateFor_29 ?_
    refine lv_aload_n hx hb dX12_stateFor_32 rfl (lv_at hl 1 rfl) ?_
    refine m_get X hK hP cl_X12 iT_X12 30 (by decide) fl_X12_200 0 rfl rfl dX12_stateFor_33 ?_
    refine lv_iload_n hx hb dX12_stateFor_36 rfl (lv_at hl 2 rfl) ?_
    obtain ⟨h6, hj3⟩ := ck_some hj3
    refine m_iast X hK hP hD hS 3 rfl (by decide) h6 [(a_t, .inr (12, [.ref a_t_now, .ref a_t_read, .ref a_t_past, .int (z4 t_deeds), .ref a_t_images, .ref a_t_isKept, .ref a_t_text, .int (z4 t_letters), .int (z4 t_at), .int (z4 t_tokenAt), .int (z4 t_tokenSort), .int (z4 t_tokenValue), .int (z4 t_items), .int (z4 t_isChanceTold), .int (z4 t_areSumsTold), .ref a_t_metAt, .ref a_t_memoryAt, .ref a_t_upAt, .ref a_t_downAt, .ref a_t_isSignal, .ref a_t_memories, .ref a_t_placeOf, .ref a_t_nextPlace, .int (z4 t_places), .ref a_t_kindOf, .ref a_t_newKind, .int (z4 t_kinds), .ref a_t_stateOfKind, .ref a_t_stateAt, .ref a_t_stepTo, .int (z4 t_states), .ref a_t_far, .ref a_t_ways, .ref a_t_nextWays, .ref a_t_table])), (a_t_kindOf, .inl (E 0, 64, .inl (A4 t_kindOf))), (a_t_stateOfKind, .inl (E 0, 64, .inl (A4 (up_ t_stateOfKind (t_kindOf (x1).toNat).toNat t_states)))), (a_t_stateAt, .inl (E 0, 64, .inl (A4 (up_ t_stateAt (t_states).toNat x1))))] rfl dX12_stateFor_37 (fun H locs hP hD hS => ?_)
    refine lv_aload_n hx hb dX12_stateFor_38 rfl (lv_at hl 1 rfl) ?_
    refine lv_dup hx hb dX12_stateFor_39 rfl ?_
    refine m_get X hK hP cl_X12 iT_X12 30 (by decide) fl_X12_200 0 rfl rfl dX12_stateFor_40 ?_
    refine m_iconst X dX12_stateFor_43 ?_
    refine m_iadd X dX12_stateFor_44 ?_
    refine m_put X hK hP hD hS cl_X12 iT_X12 tyX12 tyX12_ok nmX12 30 (by decide) fl_X12_200 rfl 0 rfl rfl rfl (Nat.le_of_ble_eq_true rfl) [(a_t, .inr (12, [.ref a_t_now, .ref a_t_read, .ref a_t_past, .int (z4 t_deeds), .ref a_t_images, .ref a_t_isKept, .ref a_t_text, .int (z4 t_letters), .int (z4 t_at), .int (z4 t_tokenAt), .int (z4 t_tokenSort), .int (z4 t_tokenValue), .int (z4 t_items), .int (z4 t_isChanceTold), .int (z4 t_areSumsTold), .ref a_t_metAt, .ref a_t_memoryAt, .ref a_t_upAt, .ref a_t_downAt, .ref a_t_isSignal, .ref a_t_memories, .ref a_t_placeOf, .ref a_t_nextPlace, .int (z4 t_places), .ref a_t_kindOf, .ref a_t_newKind, .int (z4 t_kinds), .ref a_t_stateOfKind, .ref a_t_stateAt, .ref a_t_stepTo, .int (z4 (t_states + 1)), .ref a_t_far, .ref a_t_ways, .ref a_t_nextWays, .ref a_t_table])), (a_t_kindOf, .inl (E 0, 64, .inl (A4 t_kindOf))), (a_t_stateOfKind, .inl (E 0, 64, .inl (A4 (up_ t_stateOfKind (t_kindOf (x1).toNat).toNat t_states)))), (a_t_stateAt, .inl (E 0, 64, .inl (A4 (up_ t_stateAt (t_states).toNat x1))))] rfl dX12_stateFor_45 (fun H locs hP hD hS => ?_)
    exact J3 _ (Option.some.inj hj3).symm _ _ _ (lv_sub hl [1, 0] rfl) hP hD hS
def F_X12_build_L10 (n : Nat) (v10_1 : Int) (t_stateOfKind_l10 : Nat → Int) : Option ((Int × (Nat → Int)) ⊕ ((Nat → Int))) :=
  ck (r4 v10_1) <|
  if v10_1 < 64 then
    ck (ix_ v10_1 64) <|
    some (.inl (v10_1 + 1, up_ t_stateOfKind_l10 (v10_1).toNat (-9)))
  else
    some (.inr t_stateOfKind_l10)
def F_X12_build_L53 (n : Nat) (v43_2 : Int) (o1 : Int × (Nat → Int) × (Nat → Int) × (Nat → Int)) (o2 : Int × (Nat → Int) × (Nat → Int)) (v53_3 : Int) (t_states_l53 : Int) (t_stateOfKind_l53 : Nat → Int) (t_stateAt_l53 : Nat → Int) (t_stepTo_l53 : Nat → Int) : Option ((Int × Int × (Nat → Int) × (Nat → Int) × (Nat → Int)) ⊕ (Int × (Nat → Int) × (Nat → Int) × (Nat → Int))) :=
  ck (r4 v53_3) <|
  if v53_3 < 5 then
    ck (ix_ v43_2 64) <|
    ck (ix_ ((5 * (t_stateAt_l53 (v43_2).toNat)) + v53_3) 320) <|
    Option.bind (α := Int × Int × (Nat → Int) × (Nat → Int)) (
      ck (r4 (o1.2.2.2 ((5 * (t_stateAt_l53 (v43_2).toNat)) + v53_3).toNat)) <|
      if o1.2.2.2 ((5 * (t_stateAt_l53 (v43_2).toNat)) + v53_3).toNat = (-5) then
        some ((-5), t_states_l53, t_stateOfKind_l53, t_stateAt_l53)
      else
        (F_X12_stateFor n t_states_l53 o2.2.1 t_stateOfKind_l53 t_stateAt_l53 (o1.2.2.2 ((5 * (t_stateAt_l53 (v43_2).toNat)) + v53_3).toNat)).bind fun o15 =>
        some (o15.1, o15.2.1, o15.2.2.1, o15.2.2.2)) fun o13 =>
    ck (ix_ ((5 * v43_2) + v53_3) 320) <|
    some (.inl (v53_3 + 1, o13.2.1, o13.2.2.1, o13.2.2.2, up_ t_stepTo_l53 ((5 * v43_2) + v53_3).toNat o13.1))
  else
    some (.inr (t_states_l53, t_stateOfKind_l53, t_stateAt_l53, t_stepTo_l53))
def F_X12_build_L43 (n : Nat) (o1 : Int × (Nat → Int) × (Nat → Int) × (Nat → Int)) (o2 : Int × (Nat → Int) × (Nat → Int)) (v43_2 : Int) (t_states_l43 : Int) (t_stateOfKind_l43 : Nat → Int) (t_stateAt_l43 : Nat → Int) (t_stepTo_l43 : Nat → Int) : Option ((Int × Int × (Nat → Int) × (Nat → Int) × (Nat → Int)) ⊕ (Int × (Nat → Int) × (Nat → Int) × (Nat → Int))) :=
  ck (r4 v43_2 ∧ r4 t_states_l43) <|
  if v43_2 < t_states_l43 then
    (lp_ (fun (q : Int × Int × (Nat → Int) × (Nat → Int) × (Nat → Int)) => F_X12_build_L53 n v43_2 o1 o2 q.1 q.2.1 q.2.2.1 q.2.2.2.1 q.2.2.2.2) n (0, t_states_l43, t_stateOfKind_l43, t_stateAt_l43, t_stepTo_l43)).bind fun o9 =>
    some (.inl (v43_2 + 1, o9.1, o9.2.1, o9.2.2.1, o9.2.2.2))
  else
    some (.inr (t_states_l43, t_stateOfKind_l43, t_stateAt_l43, t_stepTo_l43))
def F_X12_build (n : Nat)  (t_placeOf : Nat → Int) (t_memories : Nat → Int) (t_now : Nat → Int) (t_nextPlace : Nat → Int) (t_kindOf : Nat → Int) (t_newKind : Nat → Int) (t_stateOfKind : Nat → Int) (t_stateAt : Nat → Int) (t_stepTo : Nat → Int)  : Option (Int × Int × Int × (Nat → Int) × (Nat → Int) × (Nat → Int) × (Nat → Int) × (Nat → Int) × (Nat → Int) × (Nat → Int) × (Nat → Int)) :=
  (F_X12_findMemories n t_placeOf t_memories t_now t_nextPlace).bind fun o1 =>
  (F_X12_findKinds n o1.1 t_kindOf o1.2.2.2 t_newKind).bind fun o2 =>
  (lp_ (fun (q : Int × (Nat → Int)) => F_X12_build_L10 n q.1 q.2) n (0, t_stateOfKind)).bind fun o3 =>
  (F_X12_stateFor n 0 o2.2.1 o3 t_stateAt 0).bind fun o6 =>
  (lp_ (fun (q : Int × Int × (Nat → Int) × (Nat → Int) × (Nat → Int)) => F_X12_build_L43 n o1 o2 q.1 q.2.1 q.2.2.1 q.2.2.2.1 q.2.2.2.2) n (o6.1, o6.2.1, o6.2.2.1, o6.2.2.2, t_stepTo)).bind fun o7 =>
  some (o1.1, o2.1, o7.1, o1.2.1, o1.2.2.1, o1.2.2.2, o2.2.1, o2.2.2, o7.2.1, o7.2.2.1, o7.2.2.2)
def rm_X12_build : Room := { frames := 3, cells := 0, slots := 0, locals := 74 }
set_option maxHeartbeats 4000000 in
set_option maxRecDepth 100000 in
theorem k_X12_build {l : Launch} {D : va_G} {E : Nat → ClassId} (n : Nat) (a_t a_t_now a_t_read a_t_past a_t_images a_t_isKept a_t_text a_t_metAt a_t_memoryAt a_t_upAt a_t_downAt a_t_isSignal a_t_memories a_t_placeOf a_t_nextPlace a_t_kindOf a_t_newKind a_t_stateOfKind a_t_stateAt a_t_stepTo a_t_far a_t_ways a_t_nextWays a_t_table : Nat) (t_deeds : Int) (t_letters : Int) (t_at : Int) (t_tokenAt : Int) (t_tokenSort : Int) (t_tokenValue : Int) (t_items : Int) (t_isChanceTold : Int) (t_areSumsTold : Int) (t_places : Int) (t_kinds : Int) (t_states : Int) (t_placeOf : Nat → Int) (t_memories : Nat → Int) (t_now : Nat → Int) (t_nextPlace : Nat → Int) (t_kindOf : Nat → Int) (t_newKind : Nat → Int) (t_stateOfKind : Nat → Int) (t_stateAt : Nat → Int) (t_stepTo : Nat → Int) (res : Int × Int × Int × (Nat → Int) × (Nat → Int) × (Nat → Int) × (Nat → Int) × (Nat → Int) × (Nat → Int) × (Nat → Int) × (Nat → Int)) (hf : F_X12_build n t_placeOf t_memories t_now t_nextPlace t_kindOf t_newKind t_stateOfKind t_stateAt t_stepTo = some res) : MW l yX12_build (.code yX12_build cX12_build 5 none) rm_X12_build D E [.ref a_t] [(a_t, .inr (12, [.ref a_t_now, .ref a_t_read, .ref a_t_past, .int (z4 t_deeds), .ref a_t_images, .ref a_t_isKept, .ref a_t_text, .int (z4 t_letters), .int (z4 t_at), .int (z4 t_tokenAt), .int (z4 t_tokenSort), .int (z4 t_tokenValue), .int (z4 t_items), .int (z4 t_isChanceTold), .int (z4 t_areSumsTold), .ref a_t_metAt, .ref a_t_memoryAt, .ref a_t_upAt, .ref a_t_downAt, .ref a_t_isSignal, .ref a_t_memories, .ref a_t_placeOf, .ref a_t_nextPlace, .int (z4 t_places), .ref a_t_kindOf, .ref a_t_newKind, .int (z4 t_kinds), .ref a_t_stateOfKind, .ref a_t_stateAt, .ref a_t_stepTo, .int (z4 t_states), .ref a_t_far, .ref a_t_ways, .ref a_t_nextWays, .ref a_t_table])), (a_t_placeOf, .inl (E 0, 64, .inl (A4 t_placeOf))), (a_t_memories, .inl (E 0, 64, .inl (A4 t_memories))), (a_t_now, .inl (E 0, 98, .inl (A4 t_now))), (a_t_nextPlace, .inl (E 0, 320, .inl (A4 t_nextPlace))), (a_t_kindOf, .inl (E 0, 64, .inl (A4 t_kindOf))), (a_t_newKind, .inl (E 0, 64, .inl (A4 t_newKind))), (a_t_stateOfKind, .inl (E 0, 64, .inl (A4 t_stateOfKind))), (a_t_stateAt, .inl (E 0, 64, .inl (A4 t_stateAt))), (a_t_stepTo, .inl (E 0, 320, .inl (A4 t_stepTo)))] none [(a_t, .inr (12, [.ref a_t_now, .ref a_t_read, .ref a_t_past, .int (z4 t_deeds), .ref a_t_images, .ref a_t_isKept, .ref a_t_text, .int (z4 t_letters), .int (z4 t_at), .int (z4 t_tokenAt), .int (z4 t_tokenSort), .int (z4 t_tokenValue), .int (z4 t_items), .int (z4 t_isChanceTold), .int (z4 t_areSumsTold), .ref a_t_metAt, .ref a_t_memoryAt, .ref a_t_upAt, .ref a_t_downAt, .ref a_t_isSignal, .ref a_t_memories, .ref a_t_placeOf, .ref a_t_nextPlace, .int (z4 res.1), .ref a_t_kindOf, .ref a_t_newKind, .int (z4 res.2.1), .ref a_t_stateOfKind, .ref a_t_stateAt, .ref a_t_stepTo, .int (z4 res.2.2.1), .ref a_t_far, .ref a_t_ways, .ref a_t_nextWays, .ref a_t_table])), (a_t_placeOf, .inl (E 0, 64, .inl (A4 res.2.2.2.1))), (a_t_memories, .inl (E 0, 64, .inl (A4 res.2.2.2.2.1))), (a_t_now, .inl (E 0, 98, .inl (A4 t_now))), (a_t_nextPlace, .inl (E 0, 320, .inl (A4 res.2.2.2.2.2.1))), (a_t_kindOf, .inl (E 0, 64, .inl (A4 res.2.2.2.2.2.2.1))), (a_t_newKind, .inl (E 0, 64, .inl (A4 res.2.2.2.2.2.2.2.1))), (a_t_stateOfKind, .inl (E 0, 64, .inl (A4 res.2.2.2.2.2.2.2.2.1))), (a_t_stateAt, .inl (E 0, 64, .inl (A4 res.2.2.2.2.2.2.2.2.2.1))), (a_t_stepTo, .inl (E 0, 320, .inl (A4 res.2.2.2.2.2.2.2.2.2.2)))] := by
  refine MWv (by decide) (Nat.le_of_ble_eq_true rfl) ?_
  intro p e s m args below meth c A Q X hK hP hD hA ret ls hl
  have hS : va_S A s.heap s.heap [] := va_S.rf
  have hx := X.1
  have hb := X.2.1
  have hl : lv_has ls 5 [(0, .ref a_t)] := hl
  unfold F_X12_build at hf
  refine lv_aload_n hx hb dX12_build_0 rfl (lv_at hl 0 rfl) ?_
  obtain ⟨o1, ho, hf⟩ := bd_some hf
  refine m_cVW X hK hP hD hS hA (wr := [(a_t_kindOf, .inl (E 0, 64, .inl (A4 t_kindOf))), (a_t_newKind, .inl (E 0, 64, .inl (A4 t_newKind))), (a_t_stateOfKind, .inl (E 0, 64, .inl (A4 t_stateOfKind))), (a_t_stateAt, .inl (E 0, 64, .inl (A4 t_stateAt))), (a_t_stepTo, .inl (E 0, 320, .inl (A4 t_stepTo)))]) (k_X12_findMemories n a_t a_t_now a_t_read a_t_past a_t_images a_t_isKept a_t_text a_t_metAt a_t_memoryAt a_t_upAt a_t_downAt a_t_isSignal a_t_memories a_t_placeOf a_t_nextPlace a_t_kindOf a_t_newKind a_t_stateOfKind a_t_stateAt a_t_stepTo a_t_far a_t_ways a_t_nextWays a_t_table t_deeds t_letters t_at t_tokenAt t_tokenSort t_tokenValue t_items t_isChanceTold t_areSumsTold t_places t_kinds t_states t_placeOf t_memories t_now t_nextPlace o1 ho) [0, 1, 2, 3, 4] [5, 6, 7, 8, 9] [5, 6, 7, 8, 9, 0, 1, 2, 3, 4] [(a_t, .inr (12, [.ref a_t_now, .ref a_t_read, .ref a_t_past, .int (z4 t_deeds), .ref a_t_images, .ref a_t_isKept, .ref a_t_text, .int (z4 t_letters), .int (z4 t_at), .int (z4 t_tokenAt), .int (z4 t_tokenSort), .int (z4 t_tokenValue), .int (z4 t_items), .int (z4 t_isChanceTold), .int (z4 t_areSumsTold), .ref a_t_metAt, .ref a_t_memoryAt, .ref a_t_upAt, .ref a_t_downAt, .ref a_t_isSignal, .ref a_t_memories, .ref a_t_placeOf, .ref a_t_nextPlace, .int (z4 o1.1), .ref a_t_kindOf, .ref a_t_newKind, .int (z4 t_kinds), .ref a_t_stateOfKind, .ref a_t_stateAt, .ref a_t_stepTo, .int (z4 t_states), .ref a_t_far, .ref a_t_ways, .ref a_t_nextWays, .ref a_t_table])), (a_t_placeOf, .inl (E 0, 64, .inl (A4 o1.2.1))), (a_t_memories, .inl (E 0, 64, .inl (A4 o1.2.2.1))), (a_t_now, .inl (E 0, 98, .inl (A4 t_now))), (a_t_nextPlace, .inl (E 0, 320, .inl (A4 o1.2.2.2))), (a_t_kindOf, .inl (E 0, 64, .inl (A4 t_kindOf))), (a_t_newKind, .inl (E 0, 64, .inl (A4 t_newKind))), (a_t_stateOfKind, .inl (E 0, 64, .inl (A4 t_stateOfKind))), (a_t_stateAt, .inl (E 0, 64, .inl (A4 t_stateAt))), (a_t_stepTo, .inl (E 0, 320, .inl (A4 t_stepTo)))] rfl rfl rfl rfl (by decide) rfl rfl rfl cl_X12 lk_X12_203 co_X12_findMemories dy_X12_findMemories rfl rfl ⟨Nat.le_of_ble_eq_true rfl, Nat.le_of_ble_eq_true rfl⟩ hl.1 rfl (Nat.le_of_ble_eq_true rfl) dX12_build_1 (Nat.zero_le _) (Nat.zero_le _) (fun H locs hP hD hS => ?_)
  refine lv_aload_n hx hb dX12_build_4 rfl (lv_at hl 0 rfl) ?_
  obtain ⟨o2, ho, hf⟩ := bd_some hf
  refine m_cVW X hK hP hD hS hA (wr := [(a_t_placeOf, .inl (E 0, 64, .inl (A4 o1.2.1))), (a_t_memories, .inl (E 0, 64, .inl (A4 o1.2.2.1))), (a_t_now, .inl (E 0, 98, .inl (A4 t_now))), (a_t_stateOfKind, .inl (E 0, 64, .inl (A4 t_stateOfKind))), (a_t_stateAt, .inl (E 0, 64, .inl (A4 t_stateAt))), (a_t_stepTo, .inl (E 0, 320, .inl (A4 t_stepTo)))]) (k_X12_findKinds n a_t a_t_now a_t_read a_t_past a_t_images a_t_isKept a_t_text a_t_metAt a_t_memoryAt a_t_upAt a_t_downAt a_t_isSignal a_t_memories a_t_placeOf a_t_nextPlace a_t_kindOf a_t_newKind a_t_stateOfKind a_t_stateAt a_t_stepTo a_t_far a_t_ways a_t_nextWays a_t_table t_deeds t_letters t_at t_tokenAt t_tokenSort t_tokenValue t_items t_isChanceTold t_areSumsTold o1.1 t_kinds t_states t_kindOf o1.2.2.2 t_newKind o2 ho) [0, 5, 4, 6] [1, 2, 3, 7, 8, 9] [6, 0, 1, 2, 8, 7, 9, 3, 4, 5] [(a_t, .inr (12, [.ref a_t_now, .ref a_t_read, .ref a_t_past, .int (z4 t_deeds), .ref a_t_images, .ref a_t_isKept, .ref a_t_text, .int (z4 t_letters), .int (z4 t_at), .int (z4 t_tokenAt), .int (z4 t_tokenSort), .int (z4 t_tokenValue), .int (z4 t_items), .int (z4 t_isChanceTold), .int (z4 t_areSumsTold), .ref a_t_metAt, .ref a_t_memoryAt, .ref a_t_upAt, .ref a_t_downAt, .ref a_t_isSignal, .ref a_t_memories, .ref a_t_placeOf, .ref a_t_nextPlace, .int (z4 o1.1), .ref a_t_kindOf, .ref a_t_newKind, .int (z4 o2.1), .ref a_t_stateOfKind, .ref a_t_stateAt, .ref a_t_stepTo, .int (z4 t_states), .ref a_t_far, .ref a_t_ways, .ref a_t_nextWays, .ref a_t_table])), (a_t_placeOf, .inl (E 0, 64, .inl (A4 o1.2.1))), (a_t_memories, .inl (E 0, 64, .inl (A4 o1.2.2.1))), (a_t_now, .inl (E 0, 98, .inl (A4 t_now))), (a_t_nextPlace, .inl (E 0, 320, .inl (A4 o1.2.2.2))), (a_t_kindOf, .inl (E 0, 64, .inl (A4 o2.2.1))), (a_t_newKind, .inl (E 0, 64, .inl (A4 o2.2.2))), (a_t_stateOfKind, .inl (E 0, 64, .inl (A4 t_stateOfKind))), (a_t_stateAt, .inl (E 0, 64, .inl (A4 t_stateAt))), (a_t_stepTo, .inl (E 0, 320, .inl (A4 t_stepTo)))] rfl rfl rfl rfl (by decide) rfl rfl rfl cl_X12 lk_X12_206 co_X12_findKinds dy_X12_findKinds rfl rfl ⟨Nat.le_of_ble_eq_true rfl, Nat.le_of_ble_eq_true rfl⟩ hl.1 rfl (Nat.le_of_ble_eq_true rfl) dX12_build_5 (Nat.zero_le _) (Nat.zero_le _) (fun H locs hP hD hS => ?_)
  refine m_iconst X dX12_build_8 ?_
  refine lv_istore_n (lv' := [(1, .int (z4 0)), (0, .ref a_t)]) hx hb dX12_build_9 rfl hl (by decide) rfl (fun ls hl => ?_)
  obtain ⟨o3, hj3, hr3⟩ := bd_some hf
  have E3_0 : ∀ (o_ : (Nat → Int)), o3 = o_ → ∀ (H : Heap) (locs : List Loc) (ls : Array Slot), lv_has ls 5 [(0, .ref a_t)] → va_P D vwCl [(a_t, .inr (12, [.ref a_t_now, .ref a_t_read, .ref a_t_past, .int (z4 t_deeds), .ref a_t_images, .ref a_t_isKept, .ref a_t_text, .int (z4 t_letters), .int (z4 t_at), .int (z4 t_tokenAt), .int (z4 t_tokenSort), .int (z4 t_tokenValue), .int (z4 t_items), .int (z4 t_isChanceTold), .int (z4 t_areSumsTold), .ref a_t_metAt, .ref a_t_memoryAt, .ref a_t_upAt, .ref a_t_downAt, .ref a_t_isSignal, .ref a_t_memories, .ref a_t_placeOf, .ref a_t_nextPlace, .int (z4 o1.1), .ref a_t_kindOf, .ref a_t_newKind, .int (z4 o2.1), .ref a_t_stateOfKind, .ref a_t_stateAt, .ref a_t_stepTo, .int (z4 t_states), .ref a_t_far, .ref a_t_ways, .ref a_t_nextWays, .ref a_t_table])), (a_t_placeOf, .inl (E 0, 64, .inl (A4 o1.2.1))), (a_t_memories, .inl (E 0, 64, .inl (A4 o1.2.2.1))), (a_t_now, .inl (E 0, 98, .inl (A4 t_now))), (a_t_nextPlace, .inl (E 0, 320, .inl (A4 o1.2.2.2))), (a_t_kindOf, .inl (E 0, 64, .inl (A4 o2.2.1))), (a_t_newKind, .inl (E 0, 64, .inl (A4 o2.2.2))), (a_t_stateOfKind, .inl (E 0, 64, .inl (A4 o_))), (a_t_stateAt, .inl (E 0, 64, .inl (A4 t_stateAt))), (a_t_stepTo, .inl (E 0, 320, .inl (A4 t_stepTo)))] H → va_D A [(a_t, .inr (12, [.ref a_t_now, .ref a_t_read, .ref a_t_past, .int (z4 t_deeds), .ref a_t_images, .ref a_t_isKept, .ref a_t_text, .int (z4 t_letters), .int (z4 t_at), .int (z4 t_tokenAt), .int (z4 t_tokenSort), .int (z4 t_tokenValue), .int (z4 t_items), .int (z4 t_isChanceTold), .int (z4 t_areSumsTold), .ref a_t_metAt, .ref a_t_memoryAt, .ref a_t_upAt, .ref a_t_downAt, .ref a_t_isSignal, .ref a_t_memories, .ref a_t_placeOf, .ref a_t_nextPlace, .int (z4 o1.1), .ref a_t_kindOf, .ref a_t_newKind, .int (z4 o2.1), .ref a_t_stateOfKind, .ref a_t_stateAt, .ref a_t_stepTo, .int (z4 t_states), .ref a_t_far, .ref a_t_ways, .ref a_t_nextWays, .ref a_t_table])), (a_t_placeOf, .inl (E 0, 64, .inl (A4 o1.2.1))), (a_t_memories, .inl (E 0, 64, .inl (A4 o1.2.2.1))), (a_t_now, .inl (E 0, 98, .inl (A4 t_now))), (a_t_nextPlace, .inl (E 0, 320, .inl (A4 o1.2.2.2))), (a_t_kindOf, .inl (E 0, 64, .inl (A4 o2.2.1))), (a_t_newKind, .inl (E 0, 64, .inl (A4 o2.2.2))), (a_t_stateOfKind, .inl (E 0, 64, .inl (A4 o_))), (a_t_stateAt, .inl (E 0, 64, .inl (A4 t_stateAt))), (a_t_stepTo, .inl (E 0, 320, .inl (A4 t_stepTo)))] → va_S A s.heap H locs → W p l e rm_X12_build s m args below meth c H locs 0 0 Q (F0 m 30 ls []) := by
    intro o_ ho_ H locs ls hl hP hD hS
    subst ho_
    refine lv_aload_n hx hb dX12_build_30 rfl (lv_at hl 0 rfl) ?_
    refine m_iconst X dX12_build_31 ?_
    refine m_put X hK hP hD hS cl_X12 iT_X12 tyX12 tyX12_ok nmX12 30 (by decide) fl_X12_200 rfl 0 rfl rfl rfl (Nat.le_of_ble_eq_true rfl) [(a_t, .inr (12, [.ref a_t_now, .ref a_t_read, .ref a_t_past, .int (z4 t_deeds), .ref a_t_images, .ref a_t_isKept, .ref a_t_text, .int (z4 t_letters), .int (z4 t_at), .int (z4 t_tokenAt), .int (z4 t_tokenSort), .int (z4 t_tokenValue), .int (z4 t_items), .int (z4 t_isChanceTold), .int (z4 t_areSumsTold), .ref a_t_metAt, .ref a_t_memoryAt, .ref a_t_upAt, .ref a_t_downAt, .ref a_t_isSignal, .ref a_t_memories, .ref a_t_placeOf, .ref a_t_nextPlace, .int (z4 o1.1), .ref a_t_kindOf, .ref a_t_newKind, .int (z4 o2.1), .ref a_t_stateOfKind, .ref a_t_stateAt, .ref a_t_stepTo, .int (z4 0), .ref a_t_far, .ref a_t_ways, .ref a_t_nextWays, .ref a_t_table])), (a_t_placeOf, .inl (E 0, 64, .inl (A4 o1.2.1))), (a_t_memories, .inl (E 0, 64, .inl (A4 o1.2.2.1))), (a_t_now, .inl (E 0, 98, .inl (A4 t_now))), (a_t_nextPlace, .inl (E 0, 320, .inl (A4 o1.2.2.2))), (a_t_kindOf, .inl (E 0, 64, .inl (A4 o2.2.1))), (a_t_newKind, .inl (E 0, 64, .inl (A4 o2.2.2))), (a_t_stateOfKind, .inl (E 0, 64, .inl (A4 o3))), (a_t_stateAt, .inl (E 0, 64, .inl (A4 t_stateAt))), (a_t_stepTo, .inl (E 0, 320, .inl (A4 t_stepTo)))] rfl dX12_build_32 (fun H locs hP hD hS => ?_)
    refine lv_aload_n hx hb dX12_build_35 rfl (lv_at hl 0 rfl) ?_
    refine m_iconst X dX12_build_36 ?_
    obtain ⟨o6, ho, hr3⟩ := bd_some hr3
    refine m_cVW X hK hP hD hS hA (wr := [(a_t_placeOf, .inl (E 0, 64, .inl (A4 o1.2.1))), (a_t_memories, .inl (E 0, 64, .inl (A4 o1.2.2.1))), (a_t_now, .inl (E 0, 98, .inl (A4 t_now))), (a_t_nextPlace, .inl (E 0, 320, .inl (A4 o1.2.2.2))), (a_t_newKind, .inl (E 0, 64, .inl (A4 o2.2.2))), (a_t_stepTo, .inl (E 0, 320, .inl (A4 t_stepTo)))]) (k_X12_stateFor n a_t a_t_now a_t_read a_t_past a_t_images a_t_isKept a_t_text a_t_metAt a_t_memoryAt a_t_upAt a_t_downAt a_t_isSignal a_t_memories a_t_placeOf a_t_nextPlace a_t_kindOf a_t_newKind a_t_stateOfKind a_t_stateAt a_t_stepTo a_t_far a_t_ways a_t_nextWays a_t_table t_deeds t_letters t_at t_tokenAt t_tokenSort t_tokenValue t_items t_isChanceTold t_areSumsTold o1.1 o2.1 0 o2.2.1 o3 t_stateAt 0 o6 ho) [0, 5, 7, 8] [1, 2, 3, 4, 6, 9] [6, 0, 1, 2, 3, 7, 4, 8, 9, 5] [(a_t, .inr (12, [.ref a_t_now, .ref a_t_read, .ref a_t_past, .int (z4 t_deeds), .ref a_t_images, .ref a_t_isKept, .ref a_t_text, .int (z4 t_letters), .int (z4 t_at), .int (z4 t_tokenAt), .int (z4 t_tokenSort), .int (z4 t_tokenValue), .int (z4 t_items), .int (z4 t_isChanceTold), .int (z4 t_areSumsTold), .ref a_t_metAt, .ref a_t_memoryAt, .ref a_t_upAt, .ref a_t_downAt, .ref a_t_isSignal, .ref a_t_memories, .ref a_t_placeOf, .ref a_t_nextPlace, .int (z4 o1.1), .ref a_t_kindOf, .ref a_t_newKind, .int (z4 o2.1), .ref a_t_stateOfKind, .ref a_t_stateAt, .ref a_t_stepTo, .int (z4 o6.2.1), .ref a_t_far, .ref a_t_ways, .ref a_t_nextWays, .ref a_t_table])), (a_t_placeOf, .inl (E 0, 64, .inl (A4 o1.2.1))), (a_t_memories, .inl (E 0, 64, .inl (A4 o1.2.2.1))), (a_t_now, .inl (E 0, 98, .inl (A4 t_now))), (a_t_nextPlace, .inl (E 0, 320, .inl (A4 o1.2.2.2))), (a_t_kindOf, .inl (E 0, 64, .inl (A4 o2.2.1))), (a_t_newKind, .inl (E 0, 64, .inl (A4 o2.2.2))), (a_t_stateOfKind, .inl (E 0, 64, .inl (A4 o6.2.2.1))), (a_t_stateAt, .inl (E 0, 64, .inl (A4 o6.2.2.2))), (a_t_stepTo, .inl (E 0, 320, .inl (A4 t_stepTo)))] rfl rfl rfl rfl (by decide) rfl rfl rfl cl_X12 lk_X12_209 co_X12_stateFor dy_X12_stateFor rfl rfl ⟨Nat.le_of_ble_eq_true rfl, Nat.le_of_ble_eq_true rfl⟩ hl.1 rfl (Nat.le_of_ble_eq_true rfl) dX12_build_37 (Nat.zero_le _) (Nat.zero_le _) (fun H locs hP hD hS => ?_)
    refine lv_istore_n (lv' := [(1, .int (z4 o6.1)), (0, .ref a_t)]) hx hb dX12_build_40 rfl hl (by decide) rfl (fun ls hl => ?_)
    refine lv_iload_n hx hb dX12_build_41 rfl (lv_at hl 0 rfl) ?_
    refine lv_istore_n (lv' := [(2, .int (z4 o6.1)), (1, .int (z4 o6.1)), (0, .ref a_t)]) hx hb dX12_build_42 rfl hl (by decide) rfl (fun ls hl => ?_)
    obtain ⟨o7, hj7, hr7⟩ := bd_some hr3
    have E7_0 : ∀ (o_ : Int × (Nat → Int) × (Nat → Int) × (Nat → Int)), o7 = o_ → ∀ (H : Heap) (locs : List Loc) (ls : Array Slot), lv_has ls 5 [] → va_P D vwCl [(a_t, .inr (12, [.ref a_t_now, .ref a_t_read, .ref a_t_past, .int (z4 t_deeds), .ref a_t_images, .ref a_t_isKept, .ref a_t_text, .int (z4 t_letters), .int (z4 t_at), .int (z4 t_tokenAt), .int (z4 t_tokenSort), .int (z4 t_tokenValue), .int (z4 t_items), .int (z4 t_isChanceTold), .int (z4 t_areSumsTold), .ref a_t_metAt, .ref a_t_memoryAt, .ref a_t_upAt, .ref a_t_downAt, .ref a_t_isSignal, .ref a_t_memories, .ref a_t_placeOf, .ref a_t_nextPlace, .int (z4 o1.1), .ref a_t_kindOf, .ref a_t_newKind, .int (z4 o2.1), .ref a_t_stateOfKind, .ref a_t_stateAt, .ref a_t_stepTo, .int (z4 o_.1), .ref a_t_far, .ref a_t_ways, .ref a_t_nextWays, .ref a_t_table])), (a_t_placeOf, .inl (E 0, 64, .inl (A4 o1.2.1))), (a_t_memories, .inl (E 0, 64, .inl (A4 o1.2.2.1))), (a_t_now, .inl (E 0, 98, .inl (A4 t_now))), (a_t_nextPlace, .inl (E 0, 320, .inl (A4 o1.2.2.2))), (a_t_kindOf, .inl (E 0, 64, .inl (A4 o2.2.1))), (a_t_newKind, .inl (E 0, 64, .inl (A4 o2.2.2))), (a_t_stateOfKind, .inl (E 0, 64, .inl (A4 o_.2.1))), (a_t_stateAt, .inl (E 0, 64, .inl (A4 o_.2.2.1))), (a_t_stepTo, .inl (E 0, 320, .inl (A4 o_.2.2.2)))] H → va_D A [(a_t, .inr (12, [.ref a_t_now, .ref a_t_read, .ref a_t_past, .int (z4 t_deeds), .ref a_t_images, .ref a_t_isKept, .ref a_t_text, .int (z4 t_letters), .int (z4 t_at), .int (z4 t_tokenAt), .int (z4 t_tokenSort), .int (z4 t_tokenValue), .int (z4 t_items), .int (z4 t_isChanceTold), .int (z4 t_areSumsTold), .ref a_t_metAt, .ref a_t_memoryAt, .ref a_t_upAt, .ref a_t_downAt, .ref a_t_isSignal, .ref a_t_memories, .ref a_t_placeOf, .ref a_t_nextPlace, .int (z4 o1.1), .ref a_t_kindOf, .ref a_t_newKind, .int (z4 o2.1), .ref a_t_stateOfKind, .ref a_t_stateAt, .ref a_t_stepTo, .int (z4 o_.1), .ref a_t_far, .ref a_t_ways, .ref a_t_nextWays, .ref a_t_table])), (a_t_placeOf, .inl (E 0, 64, .inl (A4 o1.2.1))), (a_t_memories, .inl (E 0, 64, .inl (A4 o1.2.2.1))), (a_t_now, .inl (E 0, 98, .inl (A4 t_now))), (a_t_nextPlace, .inl (E 0, 320, .inl (A4 o1.2.2.2))), (a_t_kindOf, .inl (E 0, 64, .inl (A4 o2.2.1))), (a_t_newKind, .inl (E 0, 64, .inl (A4 o2.2.2))), (a_t_stateOfKind, .inl (E 0, 64, .inl (A4 o_.2.1))), (a_t_stateAt, .inl (E 0, 64, .inl (A4 o_.2.2.1))), (a_t_stepTo, .inl (E 0, 320, .inl (A4 o_.2.2.2)))] → va_S A s.heap H locs → W p l e rm_X12_build s m args below meth c H locs 0 0 Q (F0 m 115 ls []) := by
      intro o_ ho_ H locs ls hl hP hD hS
      subst ho_
      obtain rfl := Option.some.inj hr7
      exact ret _ _ _ _ hP hD hS dX12_build_115
    have L7 : ∀ (k_ : Nat) (v43_2 : Int) (t_states_l43 : Int) (t_stateOfKind_l43 : Nat → Int) (t_stateAt_l43 : Nat → Int) (t_stepTo_l43 : Nat → Int), ∀ (H : Heap) (locs : List Loc) (ls : Array Slot), lv_has ls 5 [(0, .ref a_t), (2, .int (z4 v43_2))] → va_P D vwCl [(a_t, .inr (12, [.ref a_t_now, .ref a_t_read, .ref a_t_past, .int (z4 t_deeds), .ref a_t_images, .ref a_t_isKept, .ref a_t_text, .int (z4 t_letters), .int (z4 t_at), .int (z4 t_tokenAt), .int (z4 t_tokenSort), .int (z4 t_tokenValue), .int (z4 t_items), .int (z4 t_isChanceTold), .int (z4 t_areSumsTold), .ref a_t_metAt, .ref a_t_memoryAt, .ref a_t_upAt, .ref a_t_downAt, .ref a_t_isSignal, .ref a_t_memories, .ref a_t_placeOf, .ref a_t_nextPlace, .int (z4 o1.1), .ref a_t_kindOf, .ref a_t_newKind, .int (z4 o2.1), .ref a_t_stateOfKind, .ref a_t_stateAt, .ref a_t_stepTo, .int (z4 t_states_l43), .ref a_t_far, .ref a_t_ways, .ref a_t_nextWays, .ref a_t_table])), (a_t_placeOf, .inl (E 0, 64, .inl (A4 o1.2.1))), (a_t_memories, .inl (E 0, 64, .inl (A4 o1.2.2.1))), (a_t_now, .inl (E 0, 98, .inl (A4 t_now))), (a_t_nextPlace, .inl (E 0, 320, .inl (A4 o1.2.2.2))), (a_t_kindOf, .inl (E 0, 64, .inl (A4 o2.2.1))), (a_t_newKind, .inl (E 0, 64, .inl (A4 o2.2.2))), (a_t_stateOfKind, .inl (E 0, 64, .inl (A4 t_stateOfKind_l43))), (a_t_stateAt, .inl (E 0, 64, .inl (A4 t_stateAt_l43))), (a_t_stepTo, .inl (E 0, 320, .inl (A4 t_stepTo_l43)))] H → va_D A [(a_t, .inr (12, [.ref a_t_now, .ref a_t_read, .ref a_t_past, .int (z4 t_deeds), .ref a_t_images, .ref a_t_isKept, .ref a_t_text, .int (z4 t_letters), .int (z4 t_at), .int (z4 t_tokenAt), .int (z4 t_tokenSort), .int (z4 t_tokenValue), .int (z4 t_items), .int (z4 t_isChanceTold), .int (z4 t_areSumsTold), .ref a_t_metAt, .ref a_t_memoryAt, .ref a_t_upAt, .ref a_t_downAt, .ref a_t_isSignal, .ref a_t_memories, .ref a_t_placeOf, .ref a_t_nextPlace, .int (z4 o1.1), .ref a_t_kindOf, .ref a_t_newKind, .int (z4 o2.1), .ref a_t_stateOfKind, .ref a_t_stateAt, .ref a_t_stepTo, .int (z4 t_states_l43), .ref a_t_far, .ref a_t_ways, .ref a_t_nextWays, .ref a_t_table])), (a_t_placeOf, .inl (E 0, 64, .inl (A4 o1.2.1))), (a_t_memories, .inl (E 0, 64, .inl (A4 o1.2.2.1))), (a_t_now, .inl (E 0, 98, .inl (A4 t_now))), (a_t_nextPlace, .inl (E 0, 320, .inl (A4 o1.2.2.2))), (a_t_kindOf, .inl (E 0, 64, .inl (A4 o2.2.1))), (a_t_newKind, .inl (E 0, 64, .inl (A4 o2.2.2))), (a_t_stateOfKind, .inl (E 0, 64, .inl (A4 t_stateOfKind_l43))), (a_t_stateAt, .inl (E 0, 64, .inl (A4 t_stateAt_l43))), (a_t_stepTo, .inl (E 0, 320, .inl (A4 t_stepTo_l43)))] → va_S A s.heap H locs → lp_ (fun (q : Int × Int × (Nat → Int) × (Nat → Int) × (Nat → Int)) => F_X12_build_L43 n o1 o2 q.1 q.2.1 q.2.2.1 q.2.2.2.1 q.2.2.2.2) k_ (v43_2, t_states_l43, t_stateOfKind_l43, t_stateAt_l43, t_stepTo_l43) = some o7 → W p l e rm_X12_build s m args below meth c H locs 0 0 Q (F0 m 43 ls []) := by
      intro k_
      induction k_ with
      | zero =>
        intro v43_2 t_states_l43 t_stateOfKind_l43 t_stateAt_l43 t_stepTo_l43 H locs ls hl hP hD hS hq_; exact (lp_zero hq_).elim
      | succ k_ ih7 =>
        intro v43_2 t_states_l43 t_stateOfKind_l43 t_stateAt_l43 t_stepTo_l43 H locs ls hl hP hD hS hq_
        obtain ⟨t_7, hb7, hq7⟩ := lp_some hq_
        replace hb7 : F_X12_build_L43 n o1 o2 v43_2 t_states_l43 t_stateOfKind_l43 t_stateAt_l43 t_stepTo_l43 = some t_7 := hb7
        unfold F_X12_build_L43 at hb7
        refine lv_iload_n hx hb dX12_build_43 rfl (lv_at hl 1 rfl) ?_
        refine lv_aload_n hx hb dX12_build_44 rfl (lv_at hl 0 rfl) ?_
        refine m_get X hK hP cl_X12 iT_X12 30 (by decide) fl_X12_200 0 rfl rfl dX12_build_45 ?_
        obtain ⟨h8, hb7⟩ := ck_some hb7
        refine m_icmp_ge X h8 dX12_build_48 (tgt := 115) (by decide) (fun (hc_ : ¬ (v43_2 < t_states_l43)) => ?_) (fun (hc_ : v43_2 < t_states_l43) => ?_)
        · rw [if_neg hc_] at hb7
          obtain rfl := Option.some.inj hb7
          exact E7_0 _ (Option.some.inj hq7).symm _ _ _ (lv_sub hl [] rfl) hP hD hS
        · rw [if_pos hc_] at hb7
          refine m_iconst X dX12_build_51 ?_
          refine lv_istore_n (lv' := [(3, .int (z4 0)), (0, .ref a_t), (2, .int (z4 v43_2))]) hx hb dX12_build_52 rfl hl (by decide) rfl (fun ls hl => ?_)
          obtain ⟨o9, hj9, hr9⟩ := bd_some hb7
          have E9_0 : ∀ (o_ : Int × (Nat → Int) × (Nat → Int) × (Nat → Int)), o9 = o_ → ∀ (H : Heap) (locs : List Loc) (ls : Array Slot), lv_has ls 5 [(0, .ref a_t), (2, .int (z4 v43_2))] → va_P D vwCl [(a_t, .inr (12, [.ref a_t_now, .ref a_t_read, .ref a_t_past, .int (z4 t_deeds), .ref a_t_images, .ref a_t_isKept, .ref a_t_text, .int (z4 t_letters), .int (z4 t_at), .int (z4 t_tokenAt), .int (z4 t_tokenSort), .int (z4 t_tokenValue), .int (z4 t_items), .int (z4 t_isChanceTold), .int (z4 t_areSumsTold), .ref a_t_metAt, .ref a_t_memoryAt, .ref a_t_upAt, .ref a_t_downAt, .ref a_t_isSignal, .ref a_t_memories, .ref a_t_placeOf, .ref a_t_nextPlace, .int (z4 o1.1), .ref a_t_kindOf, .ref a_t_newKind, .int (z4 o2.1), .ref a_t_stateOfKind, .ref a_t_stateAt, .ref a_t_stepTo, .int (z4 o_.1), .ref a_t_far, .ref a_t_ways, .ref a_t_nextWays, .ref a_t_table])), (a_t_placeOf, .inl (E 0, 64, .inl (A4 o1.2.1))), (a_t_memories, .inl (E 0, 64, .inl (A4 o1.2.2.1))), (a_t_now, .inl (E 0, 98, .inl (A4 t_now))), (a_t_nextPlace, .inl (E 0, 320, .inl (A4 o1.2.2.2))), (a_t_kindOf, .inl (E 0, 64, .inl (A4 o2.2.1))), (a_t_newKind, .inl (E 0, 64, .inl (A4 o2.2.2))), (a_t_stateOfKind, .inl (E 0, 64, .inl (A4 o_.2.1))), (a_t_stateAt, .inl (E 0, 64, .inl (A4 o_.2.2.1))), (a_t_stepTo, .inl (E 0, 320, .inl (A4 o_.2.2.2)))] H → va_D A [(a_t, .inr (12, [.ref a_t_now, .ref a_t_read, .ref a_t_past, .int (z4 t_deeds), .ref a_t_images, .ref a_t_isKept, .ref a_t_text, .int (z4 t_letters), .int (z4 t_at), .int (z4 t_tokenAt), .int (z4 t_tokenSort), .int (z4 t_tokenValue), .int (z4 t_items), .int (z4 t_isChanceTold), .int (z4 t_areSumsTold), .ref a_t_metAt, .ref a_t_memoryAt, .ref a_t_upAt, .ref a_t_downAt, .ref a_t_isSignal, .ref a_t_memories, .ref a_t_placeOf, .ref a_t_nextPlace, .int (z4 o1.1), .ref a_t_kindOf, .ref a_t_newKind, .int (z4 o2.1), .ref a_t_stateOfKind, .ref a_t_stateAt, .ref a_t_stepTo, .int (z4 o_.1), .ref a_t_far, .ref a_t_ways, .ref a_t_nextWays, .ref a_t_table])), (a_t_placeOf, .inl (E 0, 64, .inl (A4 o1.2.1))), (a_t_memories, .inl (E 0, 64, .inl (A4 o1.2.2.1))), (a_t_now, .inl (E 0, 98, .inl (A4 t_now))), (a_t_nextPlace, .inl (E 0, 320, .inl (A4 o1.2.2.2))), (a_t_kindOf, .inl (E 0, 64, .inl (A4 o2.2.1))), (a_t_newKind, .inl (E 0, 64, .inl (A4 o2.2.2))), (a_t_stateOfKind, .inl (E 0, 64, .inl (A4 o_.2.1))), (a_t_stateAt, .inl (E 0, 64, .inl (A4 o_.2.2.1))), (a_t_stepTo, .inl (E 0, 320, .inl (A4 o_.2.2.2)))] → va_S A s.heap H locs → W p l e rm_X12_build s m args below meth c H locs 0 0 Q (F0 m 109 ls []) := by
            intro o_ ho_ H locs ls hl hP hD hS
            subst ho_
            refine m_iinc X 1 [(2, .int (z4 (v43_2 + 1))), (0, .ref a_t)] dX12_build_109 hl rfl (by decide) rfl (fun ls hl => ?_)
            refine lv_goto (tgt := 43) hx hb dX12_build_112 (by decide) ?_
            obtain rfl := Option.some.inj hr9
            exact ih7 _ _ _ _ _ _ _ _ (lv_sub hl [1, 0] rfl) hP hD hS hq7
          have L9 : ∀ (k_ : Nat) (v53_3 : Int) (t_states_l53 : Int) (t_stateOfKind_l53 : Nat → Int) (t_stateAt_l53 : Nat → Int) (t_stepTo_l53 : Nat → Int), ∀ (H : Heap) (locs : List Loc) (ls : Array Slot), lv_has ls 5 [(0, .ref a_t), (2, .int (z4 v43_2)), (3, .int (z4 v53_3))] → va_P D vwCl [(a_t, .inr (12, [.ref a_t_now, .ref a_t_read, .ref a_t_past, .int (z4 t_deeds), .ref a_t_images, .ref a_t_isKept, .ref a_t_text, .int (z4 t_letters), .int (z4 t_at), .int (z4 t_tokenAt), .int (z4 t_tokenSort), .int (z4 t_tokenValue), .int (z4 t_items), .int (z4 t_isChanceTold), .int (z4 t_areSumsTold), .ref a_t_metAt, .ref a_t_memoryAt, .ref a_t_upAt, .ref a_t_downAt, .ref a_t_isSignal, .ref a_t_memories, .ref a_t_placeOf, .ref a_t_nextPlace, .int (z4 o1.1), .ref a_t_kindOf, .ref a_t_newKind, .int (z4 o2.1), .ref a_t_stateOfKind, .ref a_t_stateAt, .ref a_t_stepTo, .int (z4 t_states_l53), .ref a_t_far, .ref a_t_ways, .ref a_t_nextWays, .ref a_t_table])), (a_t_placeOf, .inl (E 0, 64, .inl (A4 o1.2.1))), (a_t_memories, .inl (E 0, 64, .inl (A4 o1.2.2.1))), (a_t_now, .inl (E 0, 98, .inl (A4 t_now))), (a_t_nextPlace, .inl (E 0, 320, .inl (A4 o1.2.2.2))), (a_t_kindOf, .inl (E 0, 64, .inl (A4 o2.2.1))), (a_t_newKind, .inl (E 0, 64, .inl (A4 o2.2.2))), (a_t_stateOfKind, .inl (E 0, 64, .inl (A4 t_stateOfKind_l53))), (a_t_stateAt, .inl (E 0, 64, .inl (A4 t_stateAt_l53))), (a_t_stepTo, .inl (E 0, 320, .inl (A4 t_stepTo_l53)))] H → va_D A [(a_t, .inr (12, [.ref a_t_now, .ref a_t_read, .ref a_t_past, .int (z4 t_deeds), .ref a_t_images, .ref a_t_isKept, .ref a_t_text, .int (z4 t_letters), .int (z4 t_at), .int (z4 t_tokenAt), .int (z4 t_tokenSort), .int (z4 t_tokenValue), .int (z4 t_items), .int (z4 t_isChanceTold), .int (z4 t_areSumsTold), .ref a_t_metAt, .ref a_t_memoryAt, .ref a_t_upAt, .ref a_t_downAt, .ref a_t_isSignal, .ref a_t_memories, .ref a_t_placeOf, .ref a_t_nextPlace, .int (z4 o1.1), .ref a_t_kindOf, .ref a_t_newKind, .int (z4 o2.1), .ref a_t_stateOfKind, .ref a_t_stateAt, .ref a_t_stepTo, .int (z4 t_states_l53), .ref a_t_far, .ref a_t_ways, .ref a_t_nextWays, .ref a_t_table])), (a_t_placeOf, .inl (E 0, 64, .inl (A4 o1.2.1))), (a_t_memories, .inl (E 0, 64, .inl (A4 o1.2.2.1))), (a_t_now, .inl (E 0, 98, .inl (A4 t_now))), (a_t_nextPlace, .inl (E 0, 320, .inl (A4 o1.2.2.2))), (a_t_kindOf, .inl (E 0, 64, .inl (A4 o2.2.1))), (a_t_newKind, .inl (E 0, 64, .inl (A4 o2.2.2))), (a_t_stateOfKind, .inl (E 0, 64, .inl (A4 t_stateOfKind_l53))), (a_t_stateAt, .inl (E 0, 64, .inl (A4 t_stateAt_l53))), (a_t_stepTo, .inl (E 0, 320, .inl (A4 t_stepTo_l53)))] → va_S A s.heap H locs → lp_ (fun (q : Int × Int × (Nat → Int) × (Nat → Int) × (Nat → Int)) => F_X12_build_L53 n v43_2 o1 o2 q.1 q.2.1 q.2.2.1 q.2.2.2.1 q.2.2.2.2) k_ (v53_3, t_states_l53, t_stateOfKind_l53, t_stateAt_l53, t_stepTo_l53) = some o9 → W p l e rm_X12_build s m args below meth c H locs 0 0 Q (F0 m 53 ls []) := by
            intro k_
            induction k_ with
            | zero =>
              intro v53_3 t_states_l53 t_stateOfKind_l53 t_stateAt_l53 t_stepTo_l53 H locs ls hl hP hD hS hq_; exact (lp_zero hq_).elim
            | succ k_ ih9 =>
              intro v53_3 t_states_l53 t_stateOfKind_l53 t_stateAt_l53 t_stepTo_l53 H locs ls hl hP hD hS hq_
              obtain ⟨t_9, hb9, hq9⟩ := lp_some hq_
              replace hb9 : F_X12_build_L53 n v43_2 o1 o2 v53_3 t_states_l53 t_stateOfKind_l53 t_stateAt_l53 t_stepTo_l53 = some t_9 := hb9
              unfold F_X12_build_L53 at hb9
              refine lv_iload_n hx hb dX12_build_53 rfl (lv_at hl 2 rfl) ?_
              refine m_iconst X dX12_build_54 ?_
              obtain ⟨h10, hb9⟩ := ck_some hb9
              refine m_icmp_ge X ⟨h10, ⟨by decide, by decide⟩⟩ dX12_build_55 (tgt := 109) (by decide) (fun (hc_ : ¬ (v53_3 < 5)) => ?_) (fun (hc_ : v53_3 < 5) => ?_)
              · rw [if_neg hc_] at hb9
                obtain rfl := Option.some.inj hb9
                exact E9_0 _ (Option.some.inj hq9).symm _ _ _ (lv_sub hl [0, 1] rfl) hP hD hS
              · rw [if_pos hc_] at hb9
                refine lv_aload_n hx hb dX12_build_58 rfl (lv_at hl 0 rfl) ?_
                refine m_get X hK hP cl_X12 iT_X12 22 (by decide) fl_X12_50 0 rfl rfl dX12_build_59 ?_
                refine m_iconst X dX12_build_62 ?_
                refine lv_aload_n hx hb dX12_build_63 rfl (lv_at hl 0 rfl) ?_
                refine m_get X hK hP cl_X12 iT_X12 28 (by decide) fl_X12_62 0 rfl rfl dX12_build_64 ?_
                refine lv_iload_n hx hb dX12_build_67 rfl (lv_at hl 1 rfl) ?_
                obtain ⟨h11, hb9⟩ := ck_some hb9
                refine m_iald X hK hP 8 rfl (by decide) h11 dX12_build_68 ?_
                refine m_imul X dX12_build_69 ?_
                refine lv_iload_n hx hb dX12_build_70 rfl (lv_at hl 2 rfl) ?_
                refine m_iadd X dX12_build_71 ?_
                obtain ⟨h12, hb9⟩ := ck_some hb9
                refine m_iald X hK hP 4 rfl (by decide) h12 dX12_build_72 ?_
                refine lv_istore (lv' := [(4, .int (z4 (o1.2.2.2 ((5 * (t_stateAt_l53 (v43_2).toNat)) + v53_3).toNat))), (0, .ref a_t), (2, .int (z4 v43_2)), (3, .int (z4 v53_3))]) hx hb dX12_build_73 hl (by decide) rfl (fun ls hl => ?_)
                refine lv_aload_n hx hb dX12_build_75 rfl (lv_at hl 1 rfl) ?_
                refine m_get X hK hP cl_X12 iT_X12 29 (by decide) fl_X12_65 0 rfl rfl dX12_build_76 ?_
                refine m_iconst X dX12_build_79 ?_
                refine lv_iload_n hx hb dX12_build_80 rfl (lv_at hl 2 rfl) ?_
                refine m_imul X dX12_build_81 ?_
                refine lv_iload_n hx hb dX12_build_82 rfl (lv_at hl 3 rfl) ?_
                refine m_iadd X dX12_build_83 ?_
                refine lv_iload hx hb dX12_build_84 (lv_at hl 0 rfl) ?_
                refine m_bipush X dX12_build_86 (by decide) ?_
                obtain ⟨o13, hj13, hr13⟩ := bd_some hb9
                have J13 : ∀ (o_ : Int × Int × (Nat → Int) × (Nat → Int)), o13 = o_ → ∀ (H : Heap) (locs : List Loc) (ls : Array Slot), lv_has ls 5 [(0, .ref a_t), (2, .int (z4 v43_2)), (3, .int (z4 v53_3))] → va_P D vwCl [(a_t, .inr (12, [.ref a_t_now, .ref a_t_read, .ref a_t_past, .int (z4 t_deeds), .ref a_t_images, .ref a_t_isKept, .ref a_t_text, .int (z4 t_letters), .int (z4 t_at), .int (z4 t_tokenAt), .int (z4 t_tokenSort), .int (z4 t_tokenValue), .int (z4 t_items), .int (z4 t_isChanceTold), .int (z4 t_areSumsTold), .ref a_t_metAt, .ref a_t_memoryAt, .ref a_t_upAt, .ref a_t_downAt, .ref a_t_isSignal, .ref a_t_memories, .ref a_t_placeOf, .ref a_t_nextPlace, .int (z4 o1.1), .ref a_t_kindOf, .ref a_t_newKind, .int (z4 o2.1), .ref a_t_stateOfKind, .ref a_t_stateAt, .ref a_t_stepTo, .int (z4 o_.2.1), .ref a_t_far, .ref a_t_ways, .ref a_t_nextWays, .ref a_t_table])), (a_t_placeOf, .inl (E 0, 64, .inl (A4 o1.2.1))), (a_t_memories, .inl (E 0, 64, .inl (A4 o1.2.2.1))), (a_t_now, .inl (E 0, 98, .inl (A4 t_now))), (a_t_nextPlace, .inl (E 0, 320, .inl (A4 o1.2.2.2))), (a_t_kindOf, .inl (E 0, 64, .inl (A4 o2.2.1))), (a_t_newKind, .inl (E 0, 64, .inl (A4 o2.2.2))), (a_t_stateOfKind, .inl (E 0, 64, .inl (A4 o_.2.2.1))), (a_t_stateAt, .inl (E 0, 64, .inl (A4 o_.2.2.2))), (a_t_stepTo, .inl (E 0, 320, .inl (A4 t_stepTo_l53)))] H → va_D A [(a_t, .inr (12, [.ref a_t_now, .ref a_t_read, .ref a_t_past, .int (z4 t_deeds), .ref a_t_images, .ref a_t_isKept, .ref a_t_text, .int (z4 t_letters), .int (z4 t_at), .int (z4 t_tokenAt), .int (z4 t_tokenSort), .int (z4 t_tokenValue), .int (z4 t_items), .int (z4 t_isChanceTold), .int (z4 t_areSumsTold), .ref a_t_metAt, .ref a_t_memoryAt, .ref a_t_upAt, .ref a_t_downAt, .ref a_t_isSignal, .ref a_t_memories, .ref a_t_placeOf, .ref a_t_nextPlace, .int (z4 o1.1), .ref a_t_kindOf, .ref a_t_newKind, .int (z4 o2.1), .ref a_t_stateOfKind, .ref a_t_stateAt, .ref a_t_stepTo, .int (z4 o_.2.1), .ref a_t_far, .ref a_t_ways, .ref a_t_nextWays, .ref a_t_table])), (a_t_placeOf, .inl (E 0, 64, .inl (A4 o1.2.1))), (a_t_memories, .inl (E 0, 64, .inl (A4 o1.2.2.1))), (a_t_now, .inl (E 0, 98, .inl (A4 t_now))), (a_t_nextPlace, .inl (E 0, 320, .inl (A4 o1.2.2.2))), (a_t_kindOf, .inl (E 0, 64, .inl (A4 o2.2.1))), (a_t_newKind, .inl (E 0, 64, .inl (A4 o2.2.2))), (a_t_stateOfKind, .inl (E 0, 64, .inl (A4 o_.2.2.1))), (a_t_stateAt, .inl (E 0, 64, .inl (A4 o_.2.2.2))), (a_t_stepTo, .inl (E 0, 320, .inl (A4 t_stepTo_l53)))] → va_S A s.heap H locs → W p l e rm_X12_build s m args below meth c H locs 0 0 Q (F0 m 102 ls [.int (z4 o_.1), .int (z4 ((5 * v43_2) + v53_3)), .ref a_t_stepTo]) := by
                  intro o_ ho_ H locs ls hl hP hD hS
                  subst ho_
                  obtain ⟨h16, hr13⟩ := ck_some hr13
                  refine m_iast X hK hP hD hS 9 rfl (by decide) h16 [(a_t, .inr (12, [.ref a_t_now, .ref a_t_read, .ref a_t_past, .int (z4 t_deeds), .ref a_t_images, .ref a_t_isKept, .ref a_t_text, .int (z4 t_letters), .int (z4 t_at), .int (z4 t_tokenAt), .int (z4 t_tokenSort), .int (z4 t_tokenValue), .int (z4 t_items), .int (z4 t_isChanceTold), .int (z4 t_areSumsTold), .ref a_t_metAt, .ref a_t_memoryAt, .ref a_t_upAt, .ref a_t_downAt, .ref a_t_isSignal, .ref a_t_memories, .ref a_t_placeOf, .ref a_t_nextPlace, .int (z4 o1.1), .ref a_t_kindOf, .ref a_t_newKind, .int (z4 o2.1), .ref a_t_stateOfKind, .ref a_t_stateAt, .ref a_t_stepTo, .int (z4 o13.2.1), .ref a_t_far, .ref a_t_ways, .ref a_t_nextWays, .ref a_t_table])), (a_t_placeOf, .inl (E 0, 64, .inl (A4 o1.2.1))), (a_t_memories, .inl (E 0, 64, .inl (A4 o1.2.2.1))), (a_t_now, .inl (E 0, 98, .inl (A4 t_now))), (a_t_nextPlace, .inl (E 0, 320, .inl (A4 o1.2.2.2))), (a_t_kindOf, .inl (E 0, 64, .inl (A4 o2.2.1))), (a_t_newKind, .inl (E 0, 64, .inl (A4 o2.2.2))), (a_t_stateOfKind, .inl (E 0, 64, .inl (A4 o13.2.2.1))), (a_t_stateAt, .inl (E 0, 64, .inl (A4 o13.2.2.2))), (a_t_stepTo, .inl (E 0, 320, .inl (A4 (up_ t_stepTo_l53 ((5 * v43_2) + v53_3).toNat o13.1))))] rfl dX12_build_102 (fun H locs hP hD hS => ?_)
                  refine m_iinc X 2 [(3, .int (z4 (v53_3 + 1))), (0, .ref a_t), (2, .int (z4 v43_2))] dX12_build_103 hl rfl (by decide) rfl (fun ls hl => ?_)
                  refine lv_goto (tgt := 53) hx hb dX12_build_106 (by decide) ?_
                  obtain rfl := Option.some.inj hr13
                  exact ih9 _ _ _ _ _ _ _ _ (lv_sub hl [1, 2, 0] rfl) hP hD hS hq9
                obtain ⟨h14, hj13⟩ := ck_some hj13
                refine m_icmp_ne X ⟨h14, ⟨by decide, by decide⟩⟩ dX12_build_88 (tgt := 96) (by decide) (fun (hc_ : ¬ (o1.2.2.2 ((5 * (t_stateAt_l53 (v43_2).toNat)) + v53_3).toNat = (-5))) => ?_) (fun (hc_ : o1.2.2.2 ((5 * (t_stateAt_l53 (v43_2).toNat)) + v53_3).toNat = (-5)) => ?_)
                · rw [if_neg hc_] at hj13
                  refine lv_aload_n hx hb dX12_build_96 rfl (lv_at hl 1 rfl) ?_
                  refine lv_iload hx hb dX12_build_97 (lv_at hl 0 rfl) ?_
                  obtain ⟨o15, ho, hj13⟩ := bd_some hj13
                  refine m_cVW X hK hP hD hS hA (wr := [(a_t_placeOf, .inl (E 0, 64, .inl (A4 o1.2.1))), (a_t_memories, .inl (E 0, 64, .inl (A4 o1.2.2.1))), (a_t_now, .inl (E 0, 98, .inl (A4 t_now))), (a_t_nextPlace, .inl (E 0, 320, .inl (A4 o1.2.2.2))), (a_t_newKind, .inl (E 0, 64, .inl (A4 o2.2.2))), (a_t_stepTo, .inl (E 0, 320, .inl (A4 t_stepTo_l53)))]) (k_X12_stateFor n a_t a_t_now a_t_read a_t_past a_t_images a_t_isKept a_t_text a_t_metAt a_t_memoryAt a_t_upAt a_t_downAt a_t_isSignal a_t_memories a_t_placeOf a_t_nextPlace a_t_kindOf a_t_newKind a_t_stateOfKind a_t_stateAt a_t_stepTo a_t_far a_t_ways a_t_nextWays a_t_table t_deeds t_letters t_at t_tokenAt t_tokenSort t_tokenValue t_items t_isChanceTold t_areSumsTold o1.1 o2.1 t_states_l53 o2.2.1 t_stateOfKind_l53 t_stateAt_l53 (o1.2.2.2 ((5 * (t_stateAt_l53 (v43_2).toNat)) + v53_3).toNat) o15 ho) [0, 5, 7, 8] [1, 2, 3, 4, 6, 9] [6, 0, 1, 2, 3, 7, 4, 8, 9, 5] [(a_t, .inr (12, [.ref a_t_now, .ref a_t_read, .ref a_t_past, .int (z4 t_deeds), .ref a_t_images, .ref a_t_isKept, .ref a_t_text, .int (z4 t_letters), .int (z4 t_at), .int (z4 t_tokenAt), .int (z4 t_tokenSort), .int (z4 t_tokenValue), .int (z4 t_items), .int (z4 t_isChanceTold), .int (z4 t_areSumsTold), .ref a_t_metAt, .ref a_t_memoryAt, .ref a_t_upAt, .ref a_t_downAt, .ref a_t_isSignal, .ref a_t_memories, .ref a_t_placeOf, .ref a_t_nextPlace, .int (z4 o1.1), .ref a_t_kindOf, .ref a_t_newKind, .int (z4 o2.1), .ref a_t_stateOfKind, .ref a_t_stateAt, .ref a_t_stepTo, .int (z4 o15.2.1), .ref a_t_far, .ref a_t_ways, .ref a_t_nextWays, .ref a_t_table])), (a_t_placeOf, .inl (E 0, 64, .inl (A4 o1.2.1))), (a_t_memories, .inl (E 0, 64, .inl (A4 o1.2.2.1))), (a_t_now, .inl (E 0, 98, .inl (A4 t_now))), (a_t_nextPlace, .inl (E 0, 320, .inl (A4 o1.2.2.2))), (a_t_kindOf, .inl (E 0, 64, .inl (A4 o2.2.1))), (a_t_newKind, .inl (E 0, 64, .inl (A4 o2.2.2))), (a_t_stateOfKind, .inl (E 0, 64, .inl (A4 o15.2.2.1))), (a_t_stateAt, .inl (E 0, 64, .inl (A4 o15.2.2.2))), (a_t_stepTo, .inl (E 0, 320, .inl (A4 t_stepTo_l53)))] rfl rfl rfl rfl (by decide) rfl rfl rfl cl_X12 lk_X12_209 co_X12_stateFor dy_X12_stateFor rfl rfl ⟨Nat.le_of_ble_eq_true rfl, Nat.le_of_ble_eq_true rfl⟩ hl.1 rfl (Nat.le_of_ble_eq_true rfl) dX12_build_99 (Nat.zero_le _) (Nat.zero_le _) (fun H locs hP hD hS => ?_)
                  exact J13 _ (Option.some.inj hj13).symm _ _ _ (lv_sub hl [1, 2, 3] rfl) hP hD hS
                · rw [if_pos hc_] at hj13
                  refine m_bipush X dX12_build_91 (by decide) ?_
                  refine lv_goto (tgt := 102) hx hb dX12_build_93 (by decide) ?_
                  exact J13 _ (Option.some.inj hj13).symm _ _ _ (lv_sub hl [1, 2, 3] rfl) hP hD hS
          exact L9 n _ _ _ _ _ _ _ _ (lv_sub hl [1, 2, 0] rfl) hP hD hS hj9
    exact L7 n _ _ _ _ _ _ _ _ (lv_sub hl [2, 0] rfl) hP hD hS hj7
  have L3 : ∀ (k_ : Nat) (v10_1 : Int) (t_stateOfKind_l10 : Nat → Int), ∀ (H : Heap) (locs : List Loc) (ls : Array Slot), lv_has ls 5 [(0, .ref a_t), (1, .int (z4 v10_1))] → va_P D vwCl [(a_t, .inr (12, [.ref a_t_now, .ref a_t_read, .ref a_t_past, .int (z4 t_deeds), .ref a_t_images, .ref a_t_isKept, .ref a_t_text, .int (z4 t_letters), .int (z4 t_at), .int (z4 t_tokenAt), .int (z4 t_tokenSort), .int (z4 t_tokenValue), .int (z4 t_items), .int (z4 t_isChanceTold), .int (z4 t_areSumsTold), .ref a_t_metAt, .ref a_t_memoryAt, .ref a_t_upAt, .ref a_t_downAt, .ref a_t_isSignal, .ref a_t_memories, .ref a_t_placeOf, .ref a_t_nextPlace, .int (z4 o1.1), .ref a_t_kindOf, .ref a_t_newKind, .int (z4 o2.1), .ref a_t_stateOfKind, .ref a_t_stateAt, .ref a_t_stepTo, .int (z4 t_states), .ref a_t_far, .ref a_t_ways, .ref a_t_nextWays, .ref a_t_table])), (a_t_placeOf, .inl (E 0, 64, .inl (A4 o1.2.1))), (a_t_memories, .inl (E 0, 64, .inl (A4 o1.2.2.1))), (a_t_now, .inl (E 0, 98, .inl (A4 t_now))), (a_t_nextPlace, .inl (E 0, 320, .inl (A4 o1.2.2.2))), (a_t_kindOf, .inl (E 0, 64, .inl (A4 o2.2.1))), (a_t_newKind, .inl (E 0, 64, .inl (A4 o2.2.2))), (a_t_stateOfKind, .inl (E 0, 64, .inl (A4 t_stateOfKind_l10))), (a_t_stateAt, .inl (E 0, 64, .inl (A4 t_stateAt))), (a_t_stepTo, .inl (E 0, 320, .inl (A4 t_stepTo)))] H → va_D A [(a_t, .inr (12, [.ref a_t_now, .ref a_t_read, .ref a_t_past, .int (z4 t_deeds), .ref a_t_images, .ref a_t_isKept, .ref a_t_text, .int (z4 t_letters), .int (z4 t_at), .int (z4 t_tokenAt), .int (z4 t_tokenSort), .int (z4 t_tokenValue), .int (z4 t_items), .int (z4 t_isChanceTold), .int (z4 t_areSumsTold), .ref a_t_metAt, .ref a_t_memoryAt, .ref a_t_upAt, .ref a_t_downAt, .ref a_t_isSignal, .ref a_t_memories, .ref a_t_placeOf, .ref a_t_nextPlace, .int (z4 o1.1), .ref a_t_kindOf, .ref a_t_newKind, .int (z4 o2.1), .ref a_t_stateOfKind, .ref a_t_stateAt, .ref a_t_stepTo, .int (z4 t_states), .ref a_t_far, .ref a_t_ways, .ref a_t_nextWays, .ref a_t_table])), (a_t_placeOf, .inl (E 0, 64, .inl (A4 o1.2.1))), (a_t_memories, .inl (E 0, 64, .inl (A4 o1.2.2.1))), (a_t_now, .inl (E 0, 98, .inl (A4 t_now))), (a_t_nextPlace, .inl (E 0, 320, .inl (A4 o1.2.2.2))), (a_t_kindOf, .inl (E 0, 64, .inl (A4 o2.2.1))), (a_t_newKind, .inl (E 0, 64, .inl (A4 o2.2.2))), (a_t_stateOfKind, .inl (E 0, 64, .inl (A4 t_stateOfKind_l10))), (a_t_stateAt, .inl (E 0, 64, .inl (A4 t_stateAt))), (a_t_stepTo, .inl (E 0, 320, .inl (A4 t_stepTo)))] → va_S A s.heap H locs → lp_ (fun (q : Int × (Nat → Int)) => F_X12_build_L10 n q.1 q.2) k_ (v10_1, t_stateOfKind_l10) = some o3 → W p l e rm_X12_build s m args below meth c H locs 0 0 Q (F0 m 10 ls []) := by
    intro k_
    induction k_ with
    | zero =>
      intro v10_1 t_stateOfKind_l10 H locs ls hl hP hD hS hq_; exact (lp_zero hq_).elim
    | succ k_ ih3 =>
      intro v10_1 t_stateOfKind_l10 H locs ls hl hP hD hS hq_
      obtain ⟨t_3, hb3, hq3⟩ := lp_some hq_
      replace hb3 : F_X12_build_L10 n v10_1 t_stateOfKind_l10 = some t_3 := hb3
      unfold F_X12_build_L10 at hb3
      refine lv_iload_n hx hb dX12_build_10 rfl (lv_at hl 1 rfl) ?_
      refine m_bipush X dX12_build_11 (by decide) ?_
      obtain ⟨h4, hb3⟩ := ck_some hb3
      refine m_icmp_ge X ⟨h4, ⟨by decide, by decide⟩⟩ dX12_build_13 (tgt := 30) (by decide) (fun (hc_ : ¬ (v10_1 < 64)) => ?_) (fun (hc_ : v10_1 < 64) => ?_)
      · rw [if_neg hc_] at hb3
        obtain rfl := Option.some.inj hb3
        exact E3_0 _ (Option.some.inj hq3).symm _ _ _ (lv_sub hl [0] rfl) hP hD hS
      · rw [if_pos hc_] at hb3
        refine lv_aload_n hx hb dX12_build_16 rfl (lv_at hl 0 rfl) ?_
        refine m_get X hK hP cl_X12 iT_X12 27 (by decide) fl_X12_59 0 rfl rfl dX12_build_17 ?_
        refine lv_iload_n hx hb dX12_build_20 rfl (lv_at hl 1 rfl) ?_
        refine m_bipush X dX12_build_21 (by decide) ?_
        obtain ⟨h5, hb3⟩ := ck_some hb3
        refine m_iast X hK hP hD hS 7 rfl (by decide) h5 [(a_t, .inr (12, [.ref a_t_now, .ref a_t_read, .ref a_t_past, .int (z4 t_deeds), .ref a_t_images, .ref a_t_isKept, .ref a_t_text, .int (z4 t_letters), .int (z4 t_at), .int (z4 t_tokenAt), .int (z4 t_tokenSort), .int (z4 t_tokenValue), .int (z4 t_items), .int (z4 t_isChanceTold), .int (z4 t_areSumsTold), .ref a_t_metAt, .ref a_t_memoryAt, .ref a_t_upAt, .ref a_t_downAt, .ref a_t_isSignal, .ref a_t_memories, .ref a_t_placeOf, .ref a_t_nextPlace, .int (z4 o1.1), .ref a_t_kindOf, .ref a_t_newKind, .int (z4 o2.1), .ref a_t_stateOfKind, .ref a_t_stateAt, .ref a_t_stepTo, .int (z4 t_states), .ref a_t_far, .ref a_t_ways, .ref a_t_nextWays, .ref a_t_table])), (a_t_placeOf, .inl (E 0, 64, .inl (A4 o1.2.1))), (a_t_memories, .inl (E 0, 64, .inl (A4 o1.2.2.1))), (a_t_now, .inl (E 0, 98, .inl (A4 t_now))), (a_t_nextPlace, .inl (E 0, 320, .inl (A4 o1.2.2.2))), (a_t_kindOf, .inl (E 0, 64, .inl (A4 o2.2.1))), (a_t_newKind, .inl (E 0, 64, .inl (A4 o2.2.2))), (a_t_stateOfKind, .inl (E 0, 64, .inl (A4 (up_ t_stateOfKind_l10 (v10_1).toNat (-9))))), (a_t_stateAt, .inl (E 0, 64, .inl (A4 t_stateAt))), (a_t_stepTo, .inl (E 0, 320, .inl (A4 t_stepTo)))] rfl dX12_build_23 (fun H locs hP hD hS => ?_)
        refine m_iinc X 1 [(1, .int (z4 (v10_1 + 1))), (0, .ref a_t)] dX12_build_24 hl rfl (by decide) rfl (fun ls hl => ?_)
        refine lv_goto (tgt := 10) hx hb dX12_build_27 (by decide) ?_
        obtain rfl := Option.some.inj hb3
        exact ih3 _ _ _ _ _ (lv_sub hl [1, 0] rfl) hP hD hS hq3
  exact L3 n _ _ _ _ _ (lv_sub hl [1, 0] rfl) hP hD hS hj3
def F_X12_stateOf (n : Nat)  (t_placeOf : Nat → Int) (t_kindOf : Nat → Int) (t_stateOfKind : Nat → Int) (x1 : Int) : Option (Int) :=
  ck (ix_ x1 64) <|
  ck (ix_ (t_placeOf (x1).toNat) 64) <|
  ck (ix_ (t_kindOf (t_placeOf (x1).toNat).toNat) 64) <|
  some (t_stateOfKind (t_kindOf (t_placeOf (x1).toNat).toNat).toNat)
def rm_X12_stateOf : Room := { frames := 0, cells := 0, slots := 0, locals := 0 }
set_option maxHeartbeats 4000000 in
set_option maxRecDepth 100000 in
theorem k_X12_stateOf {l : Launch} {D : va_G} {E : Nat → ClassId} (n : Nat) (a_t a_t_now a_t_read a_t_past a_t_images a_t_isKept a_t_text a_t_metAt a_t_memoryAt a_t_upAt a_t_downAt a_t_isSignal a_t_memories a_t_placeOf a_t_nextPlace a_t_kindOf a_t_newKind a_t_stateOfKind a_t_stateAt a_t_stepTo a_t_far a_t_ways a_t_nextWays a_t_table : Nat) (t_deeds : Int) (t_letters : Int) (t_at : Int) (t_tokenAt : Int) (t_tokenSort : Int) (t_tokenValue : Int) (t_items : Int) (t_isChanceTold : Int) (t_areSumsTold : Int) (t_places : Int) (t_kinds : Int) (t_states : Int) (t_placeOf : Nat → Int) (t_kindOf : Nat → Int) (t_stateOfKind : Nat → Int) (x1 : Int) (res : Int) (hf : F_X12_stateOf n t_placeOf t_kindOf t_stateOfKind x1 = some res) : MR l yX12_stateOf (.code yX12_stateOf cX12_stateOf 2 (some .int)) rm_X12_stateOf D E [.ref a_t, .int (z4 x1)] [(a_t, .inr (12, [.ref a_t_now, .ref a_t_read, .ref a_t_past, .int (z4 t_deeds), .ref a_t_images, .ref a_t_isKept, .ref a_t_text, .int (z4 t_letters), .int (z4 t_at), .int (z4 t_tokenAt), .int (z4 t_tokenSort), .int (z4 t_tokenValue), .int (z4 t_items), .int (z4 t_isChanceTold), .int (z4 t_areSumsTold), .ref a_t_metAt, .ref a_t_memoryAt, .ref a_t_upAt, .ref a_t_downAt, .ref a_t_isSignal, .ref a_t_memories, .ref a_t_placeOf, .ref a_t_nextPlace, .int (z4 t_places), .ref a_t_kindOf, .ref a_t_newKind, .int (z4 t_kinds), .ref a_t_stateOfKind, .ref a_t_stateAt, .ref a_t_stepTo, .int (z4 t_states), .ref a_t_far, .ref a_t_ways, .ref a_t_nextWays, .ref a_t_table])), (a_t_placeOf, .inl (E 0, 64, .inl (A4 t_placeOf))), (a_t_kindOf, .inl (E 0, 64, .inl (A4 t_kindOf))), (a_t_stateOfKind, .inl (E 0, 64, .inl (A4 t_stateOfKind)))] (some (.int (z4 res))) := by
  refine MRi (by decide) (Nat.le_of_ble_eq_true rfl) ?_
  intro p e s m args below meth c Q X hK hP ret ls hl
  have hx := X.1
  have hb := X.2.1
  have hl : lv_has ls 2 [(0, .ref a_t), (1, .int (z4 x1))] := hl
  unfold F_X12_stateOf at hf
  refine lv_aload_n hx hb dX12_stateOf_0 rfl (lv_at hl 0 rfl) ?_
  refine m_get X hK hP cl_X12 iT_X12 27 (by decide) fl_X12_59 0 rfl rfl dX12_stateOf_1 ?_
  refine lv_aload_n hx hb dX12_stateOf_4 rfl (lv_at hl 0 rfl) ?_
  refine m_get X hK hP cl_X12 iT_X12 24 (by decide) fl_X12_53 0 rfl rfl dX12_stateOf_5 ?_
  refine lv_aload_n hx hb dX12_stateOf_8 rfl (lv_at hl 0 rfl) ?_
  refine m_get X hK hP cl_X12 iT_X12 21 (by decide) fl_X12_47 0 rfl rfl dX12_stateOf_9 ?_
  refine lv_iload_n hx hb dX12_stateOf_12 rfl (lv_at hl 1 rfl) ?_
  obtain ⟨h1, hf⟩ := ck_some hf
  refine m_iald X hK hP 1 rfl (by decide) h1 dX12_stateOf_13 ?_
  obtain ⟨h2, hf⟩ := ck_some hf
  refine m_iald X hK hP 2 rfl (by decide) h2 dX12_stateOf_14 ?_
  obtain ⟨h3, hf⟩ := ck_some hf
  refine m_iald X hK hP 3 rfl (by decide) h3 dX12_stateOf_15 ?_
  obtain rfl := Option.some.inj hf
  exact ret _ _ dX12_stateOf_16
def F_X12_stateNow (n : Nat)  (t_now : Nat → Int) (t_metAt : Nat → Int) (t_memoryAt : Nat → Int) (t_isSignal : Nat → Int) (t_upAt : Nat → Int) (t_downAt : Nat → Int) (t_placeOf : Nat → Int) (t_memories : Nat → Int) (t_nextPlace : Nat → Int) (t_kindOf : Nat → Int) (t_newKind : Nat → Int) (t_stateOfKind : Nat → Int) (t_stateAt : Nat → Int) (t_stepTo : Nat → Int)  : Option (Int × Int × Int × Int × (Nat → Int) × (Nat → Int) × (Nat → Int) × (Nat → Int) × (Nat → Int) × (Nat → Int) × (Nat → Int) × (Nat → Int) × (Nat → Int) × (Nat → Int) × (Nat → Int) × (Nat → Int) × (Nat → Int)) :=
  (F_X12_goThrough n t_now t_metAt t_memoryAt t_isSignal t_upAt t_downAt).bind fun o1 =>
  (F_X12_build n t_placeOf t_memories t_now t_nextPlace t_kindOf t_newKind t_stateOfKind t_stateAt t_stepTo).bind fun o2 =>
  Option.bind (α := Int) (
    ck (r4 (t_now 17)) <|
    if t_now 17 = 0 then
      some 0
    else
      ck (ix_ ((t_now 17) - 1) 40) <|
      (F_X12_stateOf n o2.2.2.2.1 o2.2.2.2.2.2.2.1 o2.2.2.2.2.2.2.2.2.1 (o1.2.1 ((t_now 17) - 1).toNat)).bind fun o6 =>
      some o6) fun o3 =>
  some (o3, o2.1, o2.2.1, o2.2.2.1, o1.1, o1.2.1, o1.2.2.1, o1.2.2.2.1, o1.2.2.2.2, o2.2.2.2.1, o2.2.2.2.2.1, o2.2.2.2.2.2.1, o2.2.2.2.2.2.2.1, o2.2.2.2.2.2.2.2.1, o2.2.2.2.2.2.2.2.2.1, o2.2.2.2.2.2.2.2.2.2.1, o2.2.2.2.2.2.2.2.2.2.2)
def rm_X12_stateNow : Room := { frames := 4, cells := 0, slots := 0, locals := 98 }
set_option maxHeartbeats 4000000 in
set_option maxRecDepth 100000 in
theorem k_X12_stateNow {l : Launch} {D : va_G} {E : Nat → ClassId} (n : Nat) (a_t a_t_now a_t_read a_t_past a_t_images a_t_isKept a_t_text a_t_metAt a_t_memoryAt a_t_upAt a_t_downAt a_t_isSignal a_t_memories a_t_placeOf a_t_nextPlace a_t_kindOf a_t_newKind a_t_stateOfKind a_t_stateAt a_t_stepTo a_t_far a_t_ways a_t_nextWays a_t_table : Nat) (t_deeds : Int) (t_letters : Int) (t_at : Int) (t_tokenAt : Int) (t_tokenSort : Int) (t_tokenValue : Int) (t_items : Int) (t_isChanceTold : Int) (t_areSumsTold : Int) (t_places : Int) (t_kinds : Int) (t_states : Int) (t_now : Nat → Int) (t_metAt : Nat → Int) (t_memoryAt : Nat → Int) (t_isSignal : Nat → Int) (t_upAt : Nat → Int) (t_downAt : Nat → Int) (t_placeOf : Nat → Int) (t_memories : Nat → Int) (t_nextPlace : Nat → Int) (t_kindOf : Nat → Int) (t_newKind : Nat → Int) (t_stateOfKind : Nat → Int) (t_stateAt : Nat → Int) (t_stepTo : Nat → Int) (res : Int × Int × Int × Int × (Nat → Int) × (Nat → Int) × (Nat → Int) × (Nat → Int) × (Nat → Int) × (Nat → Int) × (Nat → Int) × (Nat → Int) × (Nat → Int) × (Nat → Int) × (Nat → Int) × (Nat → Int) × (Nat → Int)) (hf : F_X12_stateNow n t_now t_metAt t_memoryAt t_isSignal t_upAt t_downAt t_placeOf t_memories t_nextPlace t_kindOf t_newKind t_stateOfKind t_stateAt t_stepTo = some res) : MW l yX12_stateNow (.code yX12_stateNow cX12_stateNow 1 (some .int)) rm_X12_stateNow D E [.ref a_t] [(a_t, .inr (12, [.ref a_t_now, .ref a_t_read, .ref a_t_past, .int (z4 t_deeds), .ref a_t_images, .ref a_t_isKept, .ref a_t_text, .int (z4 t_letters), .int (z4 t_at), .int (z4 t_tokenAt), .int (z4 t_tokenSort), .int (z4 t_tokenValue), .int (z4 t_items), .int (z4 t_isChanceTold), .int (z4 t_areSumsTold), .ref a_t_metAt, .ref a_t_memoryAt, .ref a_t_upAt, .ref a_t_downAt, .ref a_t_isSignal, .ref a_t_memories, .ref a_t_placeOf, .ref a_t_nextPlace, .int (z4 t_places), .ref a_t_kindOf, .ref a_t_newKind, .int (z4 t_kinds), .ref a_t_stateOfKind, .ref a_t_stateAt, .ref a_t_stepTo, .int (z4 t_states), .ref a_t_far, .ref a_t_ways, .ref a_t_nextWays, .ref a_t_table])), (a_t_now, .inl (E 0, 98, .inl (A4 t_now))), (a_t_metAt, .inl (E 0, 40, .inl (A4 t_metAt))), (a_t_memoryAt, .inl (E 0, 40, .inl (A4 t_memoryAt))), (a_t_isSignal, .inl (E 1, 40, .inl (A4 t_isSignal))), (a_t_upAt, .inl (E 0, 40, .inl (A4 t_upAt))), (a_t_downAt, .inl (E 0, 40, .inl (A4 t_downAt))), (a_t_placeOf, .inl (E 0, 64, .inl (A4 t_placeOf))), (a_t_memories, .inl (E 0, 64, .inl (A4 t_memories))), (a_t_nextPlace, .inl (E 0, 320, .inl (A4 t_nextPlace))), (a_t_kindOf, .inl (E 0, 64, .inl (A4 t_kindOf))), (a_t_newKind, .inl (E 0, 64, .inl (A4 t_newKind))), (a_t_stateOfKind, .inl (E 0, 64, .inl (A4 t_stateOfKind))), (a_t_stateAt, .inl (E 0, 64, .inl (A4 t_stateAt))), (a_t_stepTo, .inl (E 0, 320, .inl (A4 t_stepTo)))] (some (.int (z4 res.1))) [(a_t, .inr (12, [.ref a_t_now, .ref a_t_read, .ref a_t_past, .int (z4 t_deeds), .ref a_t_images, .ref a_t_isKept, .ref a_t_text, .int (z4 t_letters), .int (z4 t_at), .int (z4 t_tokenAt), .int (z4 t_tokenSort), .int (z4 t_tokenValue), .int (z4 t_items), .int (z4 t_isChanceTold), .int (z4 t_areSumsTold), .ref a_t_metAt, .ref a_t_memoryAt, .ref a_t_upAt, .ref a_t_downAt, .ref a_t_isSignal, .ref a_t_memories, .ref a_t_placeOf, .ref a_t_nextPlace, .int (z4 res.2.1), .ref a_t_kindOf, .ref a_t_newKind, .int (z4 res.2.2.1), .ref a_t_stateOfKind, .ref a_t_stateAt, .ref a_t_stepTo, .int (z4 res.2.2.2.1), .ref a_t_far, .ref a_t_ways, .ref a_t_nextWays, .ref a_t_table])), (a_t_now, .inl (E 0, 98, .inl (A4 t_now))), (a_t_metAt, .inl (E 0, 40, .inl (A4 res.2.2.2.2.1))), (a_t_memoryAt, .inl (E 0, 40, .inl (A4 res.2.2.2.2.2.1))), (a_t_isSignal, .inl (E 1, 40, .inl (A4 res.2.2.2.2.2.2.1))), (a_t_upAt, .inl (E 0, 40, .inl (A4 res.2.2.2.2.2.2.2.1))), (a_t_downAt, .inl (E 0, 40, .inl (A4 res.2.2.2.2.2.2.2.2.1))), (a_t_placeOf, .inl (E 0, 64, .inl (A4 res.2.2.2.2.2.2.2.2.2.1))), (a_t_memories, .inl (E 0, 64, .inl (A4 res.2.2.2.2.2.2.2.2.2.2.1))), (a_t_nextPlace, .inl (E 0, 320, .inl (A4 res.2.2.2.2.2.2.2.2.2.2.2.1))), (a_t_kindOf, .inl (E 0, 64, .inl (A4 res.2.2.2.2.2.2.2.2.2.2.2.2.1))), (a_t_newKind, .inl (E 0, 64, .inl (A4 res.2.2.2.2.2.2.2.2.2.2.2.2.2.1))), (a_t_stateOfKind, .inl (E 0, 64, .inl (A4 res.2.2.2.2.2.2.2.2.2.2.2.2.2.2.1))), (a_t_stateAt, .inl (E 0, 64, .inl (A4 res.2.2.2.2.2.2.2.2.2.2.2.2.2.2.2.1))), (a_t_stepTo, .inl (E 0, 320, .inl (A4 res.2.2.2.2.2.2.2.2.2.2.2.2.2.2.2.2)))] := by
  refine MWi (by decide) (Nat.le_of_ble_eq_true rfl) ?_
  intro p e s m args below meth c A Q X hK hP hD hA ret ls hl
  have hS : va_S A s.heap s.heap [] := va_S.rf
  have hx := X.1
  have hb := X.2.1
  have hl : lv_has ls 1 [(0, .ref a_t)] := hl
  unfold F_X12_stateNow at hf
  refine lv_aload_n hx hb dX12_stateNow_0 rfl (lv_at hl 0 rfl) ?_
  obtain ⟨o1, ho, hf⟩ := bd_some hf
  refine m_cVW X hK hP hD hS hA (wr := [(a_t_placeOf, .inl (E 0, 64, .inl (A4 t_placeOf))), (a_t_memories, .inl (E 0, 64, .inl (A4 t_memories))), (a_t_nextPlace, .inl (E 0, 320, .inl (A4 t_nextPlace))), (a_t_kindOf, .inl (E 0, 64, .inl (A4 t_kindOf))), (a_t_newKind, .inl (E 0, 64, .inl (A4 t_newKind))), (a_t_stateOfKind, .inl (E 0, 64, .inl (A4 t_stateOfKind))), (a_t_stateAt, .inl (E 0, 64, .inl (A4 t_stateAt))), (a_t_stepTo, .inl (E 0, 320, .inl (A4 t_stepTo)))]) (k_X12_goThrough n a_t a_t_now a_t_read a_t_past a_t_images a_t_isKept a_t_text a_t_metAt a_t_memoryAt a_t_upAt a_t_downAt a_t_isSignal a_t_memories a_t_placeOf a_t_nextPlace a_t_kindOf a_t_newKind a_t_stateOfKind a_t_stateAt a_t_stepTo a_t_far a_t_ways a_t_nextWays a_t_table t_deeds t_letters t_at t_tokenAt t_tokenSort t_tokenValue t_items t_isChanceTold t_areSumsTold t_places t_kinds t_states t_now t_metAt t_memoryAt t_isSignal t_upAt t_downAt o1 ho) [0, 1, 2, 3, 4, 5, 6] [7, 8, 9, 10, 11, 12, 13, 14] [8, 9, 10, 11, 12, 13, 14, 0, 1, 2, 3, 4, 5, 6, 7] [(a_t, .inr (12, [.ref a_t_now, .ref a_t_read, .ref a_t_past, .int (z4 t_deeds), .ref a_t_images, .ref a_t_isKept, .ref a_t_text, .int (z4 t_letters), .int (z4 t_at), .int (z4 t_tokenAt), .int (z4 t_tokenSort), .int (z4 t_tokenValue), .int (z4 t_items), .int (z4 t_isChanceTold), .int (z4 t_areSumsTold), .ref a_t_metAt, .ref a_t_memoryAt, .ref a_t_upAt, .ref a_t_downAt, .ref a_t_isSignal, .ref a_t_memories, .ref a_t_placeOf, .ref a_t_nextPlace, .int (z4 t_places), .ref a_t_kindOf, .ref a_t_newKind, .int (z4 t_kinds), .ref a_t_stateOfKind, .ref a_t_stateAt, .ref a_t_stepTo, .int (z4 t_states), .ref a_t_far, .ref a_t_ways, .ref a_t_nextWays, .ref a_t_table])), (a_t_now, .inl (E 0, 98, .inl (A4 t_now))), (a_t_metAt, .inl (E 0, 40, .inl (A4 o1.1))), (a_t_memoryAt, .inl (E 0, 40, .inl (A4 o1.2.1))), (a_t_isSignal, .inl (E 1, 40, .inl (A4 o1.2.2.1))), (a_t_upAt, .inl (E 0, 40, .inl (A4 o1.2.2.2.1))), (a_t_downAt, .inl (E 0, 40, .inl (A4 o1.2.2.2.2))), (a_t_placeOf, .inl (E 0, 64, .inl (A4 t_placeOf))), (a_t_memories, .inl (E 0, 64, .inl (A4 t_memories))), (a_t_nextPlace, .inl (E 0, 320, .inl (A4 t_nextPlace))), (a_t_kindOf, .inl (E 0, 64, .inl (A4 t_kindOf))), (a_t_newKind, .inl (E 0, 64, .inl (A4 t_newKind))), (a_t_stateOfKind, .inl (E 0, 64, .inl (A4 t_stateOfKind))), (a_t_stateAt, .inl (E 0, 64, .inl (A4 t_stateAt))), (a_t_stepTo, .inl (E 0, 320, .inl (A4 t_stepTo)))] rfl rfl rfl rfl (by decide) rfl rfl rfl cl_X12 lk_X12_212 co_X12_goThrough dy_X12_goThrough rfl rfl ⟨Nat.le_of_ble_eq_true rfl, Nat.le_of_ble_eq_true rfl⟩ hl.1 rfl (Nat.le_of_ble_eq_true rfl) dX12_stateNow_1 (Nat.zero_le _) (Nat.zero_le _) (fun H locs hP hD hS => ?_)
  refine lv_aload_n hx hb dX12_stateNow_4 rfl (lv_at hl 0 rfl) ?_
  obtain ⟨o2, ho, hf⟩ := bd_some hf
  refine m_cVW X hK hP hD hS hA (wr := [(a_t_metAt, .inl (E 0, 40, .inl (A4 o1.1))), (a_t_memoryAt, .inl (E 0, 40, .inl (A4 o1.2.1))), (a_t_isSignal, .inl (E 1, 40, .inl (A4 o1.2.2.1))), (a_t_upAt, .inl (E 0, 40, .inl (A4 o1.2.2.2.1))), (a_t_downAt, .inl (E 0, 40, .inl (A4 o1.2.2.2.2)))]) (k_X12_build n a_t a_t_now a_t_read a_t_past a_t_images a_t_isKept a_t_text a_t_metAt a_t_memoryAt a_t_upAt a_t_downAt a_t_isSignal a_t_memories a_t_placeOf a_t_nextPlace a_t_kindOf a_t_newKind a_t_stateOfKind a_t_stateAt a_t_stepTo a_t_far a_t_ways a_t_nextWays a_t_table t_deeds t_letters t_at t_tokenAt t_tokenSort t_tokenValue t_items t_isChanceTold t_areSumsTold t_places t_kinds t_states t_placeOf t_memories t_now t_nextPlace t_kindOf t_newKind t_stateOfKind t_stateAt t_stepTo o2 ho) [0, 7, 8, 1, 9, 10, 11, 12, 13, 14] [2, 3, 4, 5, 6] [5, 8, 0, 1, 2, 3, 4, 6, 7, 9, 10, 11, 12, 13, 14] [(a_t, .inr (12, [.ref a_t_now, .ref a_t_read, .ref a_t_past, .int (z4 t_deeds), .ref a_t_images, .ref a_t_isKept, .ref a_t_text, .int (z4 t_letters), .int (z4 t_at), .int (z4 t_tokenAt), .int (z4 t_tokenSort), .int (z4 t_tokenValue), .int (z4 t_items), .int (z4 t_isChanceTold), .int (z4 t_areSumsTold), .ref a_t_metAt, .ref a_t_memoryAt, .ref a_t_upAt, .ref a_t_downAt, .ref a_t_isSignal, .ref a_t_memories, .ref a_t_placeOf, .ref a_t_nextPlace, .int (z4 o2.1), .ref a_t_kindOf, .ref a_t_newKind, .int (z4 o2.2.1), .ref a_t_stateOfKind, .ref a_t_stateAt, .ref a_t_stepTo, .int (z4 o2.2.2.1), .ref a_t_far, .ref a_t_ways, .ref a_t_nextWays, .ref a_t_table])), (a_t_now, .inl (E 0, 98, .inl (A4 t_now))), (a_t_metAt, .inl (E 0, 40, .inl (A4 o1.1))), (a_t_memoryAt, .inl (E 0, 40, .inl (A4 o1.2.1))), (a_t_isSignal, .inl (E 1, 40, .inl (A4 o1.2.2.1))), (a_t_upAt, .inl (E 0, 40, .inl (A4 o1.2.2.2.1))), (a_t_downAt, .inl (E 0, 40, .inl (A4 o1.2.2.2.2))), (a_t_placeOf, .inl (E 0, 64, .inl (A4 o2.2.2.2.1))), (a_t_memories, .inl (E 0, 64, .inl (A4 o2.2.2.2.2.1))), (a_t_nextPlace, .inl (E 0, 320, .inl (A4 o2.2.2.2.2.2.1))), (a_t_kindOf, .inl (E 0, 64, .inl (A4 o2.2.2.2.2.2.2.1))), (a_t_newKind, .inl (E 0, 64, .inl (A4 o2.2.2.2.2.2.2.2.1))), (a_t_stateOfKind, .inl (E 0, 64, .inl (A4 o2.2.2.2.2.2.2.2.2.1))), (a_t_stateAt, .inl (E 0, 64, .inl (A4 o2.2.2.2.2.2.2.2.2.2.1))), (a_t_stepTo, .inl (E 0, 320, .inl (A4 o2.2.2.2.2.2.2.2.2.2.2)))] rfl rfl rfl rfl (by decide) rfl rfl rfl cl_X12 lk_X12_215 co_X12_build dy_X12_build rfl rfl ⟨Nat.le_of_ble_eq_true rfl, Nat.le_of_ble_eq_true rfl⟩ hl.1 rfl (Nat.le_of_ble_eq_true rfl) dX12_stateNow_5 (Nat.zero_le _) (Nat.zero_le _) (fun H locs hP hD hS => ?_)
  refine lv_aload_n hx hb dX12_stateNow_8 rfl (lv_at hl 0 rfl) ?_
  refine m_get X hK hP cl_X12 iT_X12 0 (by decide) fl_X12_7 0 rfl rfl dX12_stateNow_9 ?_
  refine m_bipush X dX12_stateNow_12 (by decide) ?_
  refine m_iald X hK hP 1 rfl (by decide) (by decide) dX12_stateNow_14 ?_
  obtain ⟨o3, hj3, hr3⟩ := bd_some hf
  have J3 : ∀ (o_ : Int), o3 = o_ → ∀ (H : Heap) (locs : List Loc) (ls : Array Slot), lv_has ls 1 [] → va_P D vwCl [(a_t, .inr (12, [.ref a_t_now, .ref a_t_read, .ref a_t_past, .int (z4 t_deeds), .ref a_t_images, .ref a_t_isKept, .ref a_t_text, .int (z4 t_letters), .int (z4 t_at), .int (z4 t_tokenAt), .int (z4 t_tokenSort), .int (z4 t_tokenValue), .int (z4 t_items), .int (z4 t_isChanceTold), .int (z4 t_areSumsTold), .ref a_t_metAt, .ref a_t_memoryAt, .ref a_t_upAt, .ref a_t_downAt, .ref a_t_isSignal, .ref a_t_memories, .ref a_t_placeOf, .ref a_t_nextPlace, .int (z4 o2.1), .ref a_t_kindOf, .ref a_t_newKind, .int (z4 o2.2.1), .ref a_t_stateOfKind, .ref a_t_stateAt, .ref a_t_stepTo, .int (z4 o2.2.2.1), .ref a_t_far, .ref a_t_ways, .ref a_t_nextWays, .ref a_t_table])), (a_t_now, .inl (E 0, 98, .inl (A4 t_now))), (a_t_metAt, .inl (E 0, 40, .inl (A4 o1.1))), (a_t_memoryAt, .inl (E 0, 40, .inl (A4 o1.2.1))), (a_t_isSignal, .inl (E 1, 40, .inl (A4 o1.2.2.1))), (a_t_upAt, .inl (E 0, 40, .inl (A4 o1.2.2.2.1))), (a_t_downAt, .inl (E 0, 40, .inl (A4 o1.2.2.2.2))), (a_t_placeOf, .inl (E 0, 64, .inl (A4 o2.2.2.2.1))), (a_t_memories, .inl (E 0, 64, .inl (A4 o2.2.2.2.2.1))), (a_t_nextPlace, .inl (E 0, 320, .inl (A4 o2.2.2.2.2.2.1))), (a_t_kindOf, .inl (E 0, 64, .inl (A4 o2.2.2.2.2.2.2.1))), (a_t_newKind, .inl (E 0, 64, .inl (A4 o2.2.2.2.2.2.2.2.1))), (a_t_stateOfKind, .inl (E 0, 64, .inl (A4 o2.2.2.2.2.2.2.2.2.1))), (a_t_stateAt, .inl (E 0, 64, .inl (A4 o2.2.2.2.2.2.2.2.2.2.1))), (a_t_stepTo, .inl (E 0, 320, .inl (A4 o2.2.2.2.2.2.2.2.2.2.2)))] H → va_D A [(a_t, .inr (12, [.ref a_t_now, .ref a_t_read, .ref a_t_past, .int (z4 t_deeds), .ref a_t_images, .ref a_t_isKept, .ref a_t_text, .int (z4 t_letters), .int (z4 t_at), .int (z4 t_tokenAt), .int (z4 t_tokenSort), .int (z4 t_tokenValue), .int (z4 t_items), .int (z4 t_isChanceTold), .int (z4 t_areSumsTold), .ref a_t_metAt, .ref a_t_memoryAt, .ref a_t_upAt, .ref a_t_downAt, .ref a_t_isSignal, .ref a_t_memories, .ref a_t_placeOf, .ref a_t_nextPlace, .int (z4 o2.1), .ref a_t_kindOf, .ref a_t_newKind, .int (z4 o2.2.1), .ref a_t_stateOfKind, .ref a_t_stateAt, .ref a_t_stepTo, .int (z4 o2.2.2.1), .ref a_t_far, .ref a_t_ways, .ref a_t_nextWays, .ref a_t_table])), (a_t_now, .inl (E 0, 98, .inl (A4 t_now))), (a_t_metAt, .inl (E 0, 40, .inl (A4 o1.1))), (a_t_memoryAt, .inl (E 0, 40, .inl (A4 o1.2.1))), (a_t_isSignal, .inl (E 1, 40, .inl (A4 o1.2.2.1))), (a_t_upAt, .inl (E 0, 40, .inl (A4 o1.2.2.2.1))), (a_t_downAt, .inl (E 0, 40, .inl (A4 o1.2.2.2.2))), (a_t_placeOf, .inl (E 0, 64, .inl (A4 o2.2.2.2.1))), (a_t_memories, .inl (E 0, 64, .inl (A4 o2.2.2.2.2.1))), (a_t_nextPlace, .inl (E 0, 320, .inl (A4 o2.2.2.2.2.2.1))), (a_t_kindOf, .inl (E 0, 64, .inl (A4 o2.2.2.2.2.2.2.1))), (a_t_newKind, .inl (E 0, 64, .inl (A4 o2.2.2.2.2.2.2.2.1))), (a_t_stateOfKind, .inl (E 0, 64, .inl (A4 o2.2.2.2.2.2.2.2.2.1))), (a_t_stateAt, .inl (E 0, 64, .inl (A4 o2.2.2.2.2.2.2.2.2.2.1))), (a_t_stepTo, .inl (E 0, 320, .inl (A4 o2.2.2.2.2.2.2.2.2.2.2)))] → va_S A s.heap H locs → W p l e rm_X12_stateNow s m args below meth c H locs 0 0 Q (F0 m 40 ls [.int (z4 o_)]) := by
    intro o_ ho_ H locs ls hl hP hD hS
    subst ho_
    obtain rfl := Option.some.inj hr3
    exact ret _ _ _ _ hP hD hS dX12_stateNow_40
  obtain ⟨h4, hj3⟩ := ck_some hj3
  refine m_if_ne X h4 dX12_stateNow_15 (tgt := 22) (by decide) (fun (hc_ : ¬ (t_now 17 = 0)) => ?_) (fun (hc_ : t_now 17 = 0) => ?_)
  · rw [if_neg hc_] at hj3
    refine lv_aload_n hx hb dX12_stateNow_22 rfl (lv_at hl 0 rfl) ?_
    refine lv_aload_n hx hb dX12_stateNow_23 rfl (lv_at hl 0 rfl) ?_
    refine m_get X hK hP cl_X12 iT_X12 16 (by decide) fl_X12_32 0 rfl rfl dX12_stateNow_24 ?_
    refine lv_aload_n hx hb dX12_stateNow_27 rfl (lv_at hl 0 rfl) ?_
    refine m_get X hK hP cl_X12 iT_X12 0 (by decide) fl_X12_7 0 rfl rfl dX12_stateNow_28 ?_
    refine m_bipush X dX12_stateNow_31 (by decide) ?_
    refine m_iald X hK hP 1 rfl (by decide) (by decide) dX12_stateNow_33 ?_
    refine m_iconst X dX12_stateNow_34 ?_
    refine m_isub X dX12_stateNow_35 ?_
    obtain ⟨h5, hj3⟩ := ck_some hj3
    refine m_iald X hK hP 3 rfl (by decide) h5 dX12_stateNow_36 ?_
    obtain ⟨o6, ho, hj3⟩ := bd_some hj3
    refine m_cVR X hK (k_X12_stateOf n a_t a_t_now a_t_read a_t_past a_t_images a_t_isKept a_t_text a_t_metAt a_t_memoryAt a_t_upAt a_t_downAt a_t_isSignal a_t_memories a_t_placeOf a_t_nextPlace a_t_kindOf a_t_newKind a_t_stateOfKind a_t_stateAt a_t_stepTo a_t_far a_t_ways a_t_nextWays a_t_table t_deeds t_letters t_at t_tokenAt t_tokenSort t_tokenValue t_items t_isChanceTold t_areSumsTold o2.1 o2.2.1 o2.2.2.1 o2.2.2.2.1 o2.2.2.2.2.2.2.1 o2.2.2.2.2.2.2.2.2.1 (o1.2.1 ((t_now 17) - 1).toNat) o6 ho) (hP.sub [0, 7, 10, 12] rfl) rfl cl_X12 lk_X12_218 co_X12_stateOf dy_X12_stateOf rfl rfl ⟨Nat.le_of_ble_eq_true rfl, Nat.le_of_ble_eq_true rfl⟩ hl.1 rfl (Nat.le_of_ble_eq_true rfl) dX12_stateNow_37 (Nat.zero_le _) (Nat.zero_le _) ?_
    exact J3 _ (Option.some.inj hj3).symm _ _ _ (lv_sub hl [] rfl) hP hD hS
  · rw [if_pos hc_] at hj3
    refine m_iconst X dX12_stateNow_18 ?_
    refine lv_goto (tgt := 40) hx hb dX12_stateNow_19 (by decide) ?_
    exact J3 _ (Option.some.inj hj3).symm _ _ _ (lv_sub hl [] rfl) hP hD hS
