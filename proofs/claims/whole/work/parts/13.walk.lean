def F_X10_ruleByRule_L5 (n : Nat) (p2_size : Int) (p1_rules : Int) (p1_of : Nat → Int) (p1_set : Nat → Int) (p1_least : Nat → Int) (p2_signs : Nat → Int) (v5_3 : Int) (v5_4 : Int) (t_met_l5 : Nat → Int) (t_past_l5 : Nat → Int) : Option ((Int × Int × (Nat → Int) × (Nat → Int)) ⊕ ((Nat → Int) × (Nat → Int))) :=
  ck (r4 v5_4 ∧ r4 p2_size) <|
  if v5_4 < p2_size then
    ck (r4 v5_4) <|
    if v5_4 < 40 then
      ck (ix_ v5_4 40) <|
      (F_X4_pass n p1_rules p1_of p1_set p1_least v5_3 (p2_signs (v5_4).toNat)).bind fun o5 =>
      ck (nn o5 ∧ nn 7) <|
      ck (ix_ v5_4 40) <|
      ck (hR_ o5 3) <|
      ck (ix_ v5_4 40) <|
      some (.inl (sr_ o5 3, v5_4 + 1, up_ t_met_l5 (v5_4).toNat (an_ o5 7), up_ t_past_l5 (v5_4).toNat (sr_ o5 3)))
    else
      some (.inr (t_met_l5, t_past_l5))
  else
    some (.inr (t_met_l5, t_past_l5))
def F_X10_ruleByRule (n : Nat)  (p2_size : Int) (p2_signs : Nat → Int) (p1_rules : Int) (p1_of : Nat → Int) (p1_set : Nat → Int) (p1_least : Nat → Int) (t_met : Nat → Int) (t_past : Nat → Int)  : Option ((Nat → Int) × (Nat → Int)) :=
  (lp_ (fun (q : Int × Int × (Nat → Int) × (Nat → Int)) => F_X10_ruleByRule_L5 n p2_size p1_rules p1_of p1_set p1_least p2_signs q.1 q.2.1 q.2.2.1 q.2.2.2) n (0, 0, t_met, t_past)).bind fun o1 =>
  some (o1.1, o1.2)
def rm_X10_ruleByRule : Room := { frames := 2, cells := 0, slots := 0, locals := 49 }
set_option maxHeartbeats 4000000 in
set_option maxRecDepth 100000 in
theorem k_X10_ruleByRule {l : Launch} {D : va_G} {E : Nat → ClassId} (n : Nat) (a_t a_t_met a_t_past a_t_up a_t_down a_t_signals a_p2 a_p2_times a_p2_signs a_p1 a_p1_least a_p1_of a_p1_set a_p1_chances : Nat) (p2_size : Int) (p2_signs : Nat → Int) (p1_rules : Int) (p1_slack : Int) (p1_limit : Int) (p1_of : Nat → Int) (p1_set : Nat → Int) (p1_least : Nat → Int) (t_met : Nat → Int) (t_past : Nat → Int) (res : (Nat → Int) × (Nat → Int)) (hf : F_X10_ruleByRule n p2_size p2_signs p1_rules p1_of p1_set p1_least t_met t_past = some res) : MW l yX10_ruleByRule (.code yX10_ruleByRule cX10_ruleByRule 6 none) rm_X10_ruleByRule D E [.ref a_t, .ref a_p1, .ref a_p2] [(a_t, .inr (10, [.ref a_t_met, .ref a_t_past, .ref a_t_up, .ref a_t_down, .ref a_t_signals])), (a_p2, .inr (6, [.int (z4 p2_size), .ref a_p2_times, .ref a_p2_signs])), (a_p2_signs, .inl (E 0, 40, .inl (A4 p2_signs))), (a_p1, .inr (4, [.int (z4 p1_rules), .ref a_p1_least, .ref a_p1_of, .ref a_p1_set, .ref a_p1_chances, .int (z4 p1_slack), .int (z4 p1_limit)])), (a_p1_of, .inl (E 0, 3, .inl (A4 p1_of))), (a_p1_set, .inl (E 0, 3, .inl (A4 p1_set))), (a_p1_least, .inl (E 0, 3, .inl (A4 p1_least))), (a_t_met, .inl (E 0, 40, .inl (A4 t_met))), (a_t_past, .inl (E 0, 40, .inl (A4 t_past)))] none [(a_t, .inr (10, [.ref a_t_met, .ref a_t_past, .ref a_t_up, .ref a_t_down, .ref a_t_signals])), (a_p2, .inr (6, [.int (z4 p2_size), .ref a_p2_times, .ref a_p2_signs])), (a_p2_signs, .inl (E 0, 40, .inl (A4 p2_signs))), (a_p1, .inr (4, [.int (z4 p1_rules), .ref a_p1_least, .ref a_p1_of, .ref a_p1_set, .ref a_p1_chances, .int (z4 p1_slack), .int (z4 p1_limit)])), (a_p1_of, .inl (E 0, 3, .inl (A4 p1_of))), (a_p1_set, .inl (E 0, 3, .inl (A4 p1_set))), (a_p1_least, .inl (E 0, 3, .inl (A4 p1_least))), (a_t_met, .inl (E 0, 40, .inl (A4 res.1))), (a_t_past, .inl (E 0, 40, .inl (A4 res.2)))] := by
  refine MWv (by decide) (Nat.le_of_ble_eq_true rfl) ?_
  intro p e s m args below meth c A Q X hK hP hD hA ret ls hl
  have hS : va_S A s.heap s.heap [] := va_S.rf
  have hx := X.1
  have hb := X.2.1
  have hl : lv_has ls 6 [(0, .ref a_t), (1, .ref a_p1), (2, .ref a_p2)] := hl
  unfold F_X10_ruleByRule at hf
  refine m_iconst X dX10_ruleByRule_0 ?_
  refine lv_istore_n (lv' := [(3, .int (z4 0)), (0, .ref a_t), (1, .ref a_p1), (2, .ref a_p2)]) hx hb dX10_ruleByRule_1 rfl hl (by decide) rfl (fun ls hl => ?_)
  refine m_iconst X dX10_ruleByRule_2 ?_
  refine lv_istore (lv' := [(4, .int (z4 0)), (3, .int (z4 0)), (0, .ref a_t), (1, .ref a_p1), (2, .ref a_p2)]) hx hb dX10_ruleByRule_3 hl (by decide) rfl (fun ls hl => ?_)
  obtain ⟨o1, hj1, hr1⟩ := bd_some hf
  have E1_0 : ∀ (o_ : (Nat → Int) × (Nat → Int)), o1 = o_ → ∀ (H : Heap) (locs : List Loc) (ls : Array Slot), lv_has ls 6 [] → va_P D vwCl [(a_t, .inr (10, [.ref a_t_met, .ref a_t_past, .ref a_t_up, .ref a_t_down, .ref a_t_signals])), (a_p2, .inr (6, [.int (z4 p2_size), .ref a_p2_times, .ref a_p2_signs])), (a_p2_signs, .inl (E 0, 40, .inl (A4 p2_signs))), (a_p1, .inr (4, [.int (z4 p1_rules), .ref a_p1_least, .ref a_p1_of, .ref a_p1_set, .ref a_p1_chances, .int (z4 p1_slack), .int (z4 p1_limit)])), (a_p1_of, .inl (E 0, 3, .inl (A4 p1_of))), (a_p1_set, .inl (E 0, 3, .inl (A4 p1_set))), (a_p1_least, .inl (E 0, 3, .inl (A4 p1_least))), (a_t_met, .inl (E 0, 40, .inl (A4 o_.1))), (a_t_past, .inl (E 0, 40, .inl (A4 o_.2)))] H → va_D A [(a_t, .inr (10, [.ref a_t_met, .ref a_t_past, .ref a_t_up, .ref a_t_down, .ref a_t_signals])), (a_p2, .inr (6, [.int (z4 p2_size), .ref a_p2_times, .ref a_p2_signs])), (a_p2_signs, .inl (E 0, 40, .inl (A4 p2_signs))), (a_p1, .inr (4, [.int (z4 p1_rules), .ref a_p1_least, .ref a_p1_of, .ref a_p1_set, .ref a_p1_chances, .int (z4 p1_slack), .int (z4 p1_limit)])), (a_p1_of, .inl (E 0, 3, .inl (A4 p1_of))), (a_p1_set, .inl (E 0, 3, .inl (A4 p1_set))), (a_p1_least, .inl (E 0, 3, .inl (A4 p1_least))), (a_t_met, .inl (E 0, 40, .inl (A4 o_.1))), (a_t_past, .inl (E 0, 40, .inl (A4 o_.2)))] → va_S A s.heap H locs → W p l e rm_X10_ruleByRule s m args below meth c H locs 0 0 Q (F0 m 66 ls []) := by
    intro o_ ho_ H locs ls hl hP hD hS
    subst ho_
    obtain rfl := Option.some.inj hr1
    exact ret _ _ _ _ hP hD hS dX10_ruleByRule_66
  have L1 : ∀ (k_ : Nat) (v5_3 : Int) (v5_4 : Int) (t_met_l5 : Nat → Int) (t_past_l5 : Nat → Int), ∀ (H : Heap) (locs : List Loc) (ls : Array Slot), lv_has ls 6 [(0, .ref a_t), (1, .ref a_p1), (2, .ref a_p2), (3, .int (z4 v5_3)), (4, .int (z4 v5_4))] → va_P D vwCl [(a_t, .inr (10, [.ref a_t_met, .ref a_t_past, .ref a_t_up, .ref a_t_down, .ref a_t_signals])), (a_p2, .inr (6, [.int (z4 p2_size), .ref a_p2_times, .ref a_p2_signs])), (a_p2_signs, .inl (E 0, 40, .inl (A4 p2_signs))), (a_p1, .inr (4, [.int (z4 p1_rules), .ref a_p1_least, .ref a_p1_of, .ref a_p1_set, .ref a_p1_chances, .int (z4 p1_slack), .int (z4 p1_limit)])), (a_p1_of, .inl (E 0, 3, .inl (A4 p1_of))), (a_p1_set, .inl (E 0, 3, .inl (A4 p1_set))), (a_p1_least, .inl (E 0, 3, .inl (A4 p1_least))), (a_t_met, .inl (E 0, 40, .inl (A4 t_met_l5))), (a_t_past, .inl (E 0, 40, .inl (A4 t_past_l5)))] H → va_D A [(a_t, .inr (10, [.ref a_t_met, .ref a_t_past, .ref a_t_up, .ref a_t_down, .ref a_t_signals])), (a_p2, .inr (6, [.int (z4 p2_size), .ref a_p2_times, .ref a_p2_signs])), (a_p2_signs, .inl (E 0, 40, .inl (A4 p2_signs))), (a_p1, .inr (4, [.int (z4 p1_rules), .ref a_p1_least, .ref a_p1_of, .ref a_p1_set, .ref a_p1_chances, .int (z4 p1_slack), .int (z4 p1_limit)])), (a_p1_of, .inl (E 0, 3, .inl (A4 p1_of))), (a_p1_set, .inl (E 0, 3, .inl (A4 p1_set))), (a_p1_least, .inl (E 0, 3, .inl (A4 p1_least))), (a_t_met, .inl (E 0, 40, .inl (A4 t_met_l5))), (a_t_past, .inl (E 0, 40, .inl (A4 t_past_l5)))] → va_S A s.heap H locs → lp_ (fun (q : Int × Int × (Nat → Int) × (Nat → Int)) => F_X10_ruleByRule_L5 n p2_size p1_rules p1_of p1_set p1_least p2_signs q.1 q.2.1 q.2.2.1 q.2.2.2) k_ (v5_3, v5_4, t_met_l5, t_past_l5) = some o1 → W p l e rm_X10_ruleByRule s m args below meth c H locs 0 0 Q (F0 m 5 ls []) := by
    intro k_
    induction k_ with
    | zero =>
      intro v5_3 v5_4 t_met_l5 t_past_l5 H locs ls hl hP hD hS hq_; exact (lp_zero hq_).elim
    | succ k_ ih1 =>
      intro v5_3 v5_4 t_met_l5 t_past_l5 H locs ls hl hP hD hS hq_
      obtain ⟨t_1, hb1, hq1⟩ := lp_some hq_
      replace hb1 : F_X10_ruleByRule_L5 n p2_size p1_rules p1_of p1_set p1_least p2_signs v5_3 v5_4 t_met_l5 t_past_l5 = some t_1 := hb1
      unfold F_X10_ruleByRule_L5 at hb1
      refine lv_iload hx hb dX10_ruleByRule_5 (lv_at hl 4 rfl) ?_
      refine lv_aload_n hx hb dX10_ruleByRule_7 rfl (lv_at hl 2 rfl) ?_
      refine m_get X hK hP cl_X6 iT_X6 0 (by decide) fl_X10_44 1 rfl rfl dX10_ruleByRule_8 ?_
      obtain ⟨h2, hb1⟩ := ck_some hb1
      refine m_icmp_ge X h2 dX10_ruleByRule_11 (tgt := 66) (by decide) (fun (hc_ : ¬ (v5_4 < p2_size)) => ?_) (fun (hc_ : v5_4 < p2_size) => ?_)
      · rw [if_neg hc_] at hb1
        obtain rfl := Option.some.inj hb1
        exact E1_0 _ (Option.some.inj hq1).symm _ _ _ (lv_sub hl [] rfl) hP hD hS
      · rw [if_pos hc_] at hb1
        refine lv_iload hx hb dX10_ruleByRule_14 (lv_at hl 4 rfl) ?_
        refine m_bipush X dX10_ruleByRule_16 (by decide) ?_
        obtain ⟨h3, hb1⟩ := ck_some hb1
        refine m_icmp_ge X ⟨h3, ⟨by decide, by decide⟩⟩ dX10_ruleByRule_18 (tgt := 66) (by decide) (fun (hc_ : ¬ (v5_4 < 40)) => ?_) (fun (hc_ : v5_4 < 40) => ?_)
        · rw [if_neg hc_] at hb1
          obtain rfl := Option.some.inj hb1
          exact E1_0 _ (Option.some.inj hq1).symm _ _ _ (lv_sub hl [] rfl) hP hD hS
        · rw [if_pos hc_] at hb1
          refine lv_aload_n hx hb dX10_ruleByRule_21 rfl (lv_at hl 1 rfl) ?_
          refine lv_iload_n hx hb dX10_ruleByRule_22 rfl (lv_at hl 3 rfl) ?_
          refine lv_aload_n hx hb dX10_ruleByRule_23 rfl (lv_at hl 2 rfl) ?_
          refine m_get X hK hP cl_X6 iT_X6 2 (by decide) fl_X10_50 1 rfl rfl dX10_ruleByRule_24 ?_
          refine lv_iload hx hb dX10_ruleByRule_27 (lv_at hl 4 rfl) ?_
          obtain ⟨h4, hb1⟩ := ck_some hb1
          refine m_iald X hK hP 2 rfl (by decide) h4 dX10_ruleByRule_29 ?_
          obtain ⟨o5, ho, hb1⟩ := bd_some hb1
          refine m_cVR X hK (k_X4_pass n a_p1 a_p1_least a_p1_of a_p1_set a_p1_chances p1_rules p1_slack p1_limit p1_of p1_set p1_least v5_3 (p2_signs (v5_4).toNat) o5 ho) (hP.sub [3, 4, 5, 6] rfl) rfl cl_X4 lk_X10_53 co_X4_pass dy_X4_pass rfl rfl ⟨Nat.le_of_ble_eq_true rfl, Nat.le_of_ble_eq_true rfl⟩ hl.1 rfl (Nat.le_of_ble_eq_true rfl) dX10_ruleByRule_30 (Nat.zero_le _) (Nat.zero_le _) ?_
          refine lv_istore (lv' := [(5, .int (z4 o5)), (0, .ref a_t), (1, .ref a_p1), (2, .ref a_p2), (3, .int (z4 v5_3)), (4, .int (z4 v5_4))]) hx hb dX10_ruleByRule_33 hl (by decide) rfl (fun ls hl => ?_)
          refine lv_aload_n hx hb dX10_ruleByRule_35 rfl (lv_at hl 1 rfl) ?_
          refine m_get X hK hP cl_X10 iT_X10 0 (by decide) fl_X10_9 0 rfl rfl dX10_ruleByRule_36 ?_
          refine lv_iload hx hb dX10_ruleByRule_39 (lv_at hl 5 rfl) ?_
          refine lv_iload hx hb dX10_ruleByRule_41 (lv_at hl 0 rfl) ?_
          refine m_bipush X dX10_ruleByRule_43 (by decide) ?_
          obtain ⟨h6, hb1⟩ := ck_some hb1
          refine m_iand X h6 dX10_ruleByRule_45 ?_
          obtain ⟨h7, hb1⟩ := ck_some hb1
          refine m_iast X hK hP hD hS 7 rfl (by decide) h7 [(a_t, .inr (10, [.ref a_t_met, .ref a_t_past, .ref a_t_up, .ref a_t_down, .ref a_t_signals])), (a_p2, .inr (6, [.int (z4 p2_size), .ref a_p2_times, .ref a_p2_signs])), (a_p2_signs, .inl (E 0, 40, .inl (A4 p2_signs))), (a_p1, .inr (4, [.int (z4 p1_rules), .ref a_p1_least, .ref a_p1_of, .ref a_p1_set, .ref a_p1_chances, .int (z4 p1_slack), .int (z4 p1_limit)])), (a_p1_of, .inl (E 0, 3, .inl (A4 p1_of))), (a_p1_set, .inl (E 0, 3, .inl (A4 p1_set))), (a_p1_least, .inl (E 0, 3, .inl (A4 p1_least))), (a_t_met, .inl (E 0, 40, .inl (A4 (up_ t_met_l5 (v5_4).toNat (an_ o5 7))))), (a_t_past, .inl (E 0, 40, .inl (A4 t_past_l5)))] rfl dX10_ruleByRule_46 (fun H locs hP hD hS => ?_)
          refine lv_iload hx hb dX10_ruleByRule_47 (lv_at hl 0 rfl) ?_
          refine m_iconst X dX10_ruleByRule_49 ?_
          obtain ⟨h8, hb1⟩ := ck_some hb1
          refine m_ishr X h8 dX10_ruleByRule_50 ?_
          refine lv_istore_n (lv' := [(3, .int (z4 (sr_ o5 3))), (5, .int (z4 o5)), (0, .ref a_t), (1, .ref a_p1), (2, .ref a_p2), (4, .int (z4 v5_4))]) hx hb dX10_ruleByRule_51 rfl hl (by decide) rfl (fun ls hl => ?_)
          refine lv_aload_n hx hb dX10_ruleByRule_52 rfl (lv_at hl 2 rfl) ?_
          refine m_get X hK hP cl_X10 iT_X10 1 (by decide) fl_X10_15 0 rfl rfl dX10_ruleByRule_53 ?_
          refine lv_iload hx hb dX10_ruleByRule_56 (lv_at hl 5 rfl) ?_
          refine lv_iload_n hx hb dX10_ruleByRule_58 rfl (lv_at hl 0 rfl) ?_
          obtain ⟨h9, hb1⟩ := ck_some hb1
          refine m_iast X hK hP hD hS 8 rfl (by decide) h9 [(a_t, .inr (10, [.ref a_t_met, .ref a_t_past, .ref a_t_up, .ref a_t_down, .ref a_t_signals])), (a_p2, .inr (6, [.int (z4 p2_size), .ref a_p2_times, .ref a_p2_signs])), (a_p2_signs, .inl (E 0, 40, .inl (A4 p2_signs))), (a_p1, .inr (4, [.int (z4 p1_rules), .ref a_p1_least, .ref a_p1_of, .ref a_p1_set, .ref a_p1_chances, .int (z4 p1_slack), .int (z4 p1_limit)])), (a_p1_of, .inl (E 0, 3, .inl (A4 p1_of))), (a_p1_set, .inl (E 0, 3, .inl (A4 p1_set))), (a_p1_least, .inl (E 0, 3, .inl (A4 p1_least))), (a_t_met, .inl (E 0, 40, .inl (A4 (up_ t_met_l5 (v5_4).toNat (an_ o5 7))))), (a_t_past, .inl (E 0, 40, .inl (A4 (up_ t_past_l5 (v5_4).toNat (sr_ o5 3)))))] rfl dX10_ruleByRule_59 (fun H locs hP hD hS => ?_)
          refine m_iinc X 5 [(4, .int (z4 (v5_4 + 1))), (3, .int (z4 (sr_ o5 3))), (5, .int (z4 o5)), (0, .ref a_t), (1, .ref a_p1), (2, .ref a_p2)] dX10_ruleByRule_60 hl rfl (by decide) rfl (fun ls hl => ?_)
          refine lv_goto (tgt := 5) hx hb dX10_ruleByRule_63 (by decide) ?_
          obtain rfl := Option.some.inj hb1
          exact ih1 _ _ _ _ _ _ _ (lv_sub hl [3, 4, 5, 1, 0] rfl) hP hD hS hq1
  exact L1 n _ _ _ _ _ _ _ (lv_sub hl [2, 3, 4, 1, 0] rfl) hP hD hS hj1
def F_X10_sumBySum_L8 (n : Nat) (p2_size : Int) (p2_signs : Nat → Int) (p1_slack : Int) (p1_limit : Int) (v8_3 : Int) (v8_4 : Int) (v8_5 : Int) (t_signals_l8 : Nat → Int) (t_up_l8 : Nat → Int) (t_down_l8 : Nat → Int) : Option ((Int × Int × Int × (Nat → Int) × (Nat → Int) × (Nat → Int)) ⊕ ((Nat → Int) × (Nat → Int) × (Nat → Int))) :=
  ck (r4 v8_5 ∧ r4 p2_size) <|
  if v8_5 < p2_size then
    ck (r4 v8_5) <|
    if v8_5 < 40 then
      ck (ix_ v8_5 40) <|
      ck (r4 ((v8_3 + ((p2_signs (v8_5).toNat) - 2)) - p1_slack)) <|
      ck (r4 ((v8_4 - ((p2_signs (v8_5).toNat) - 2)) - p1_slack)) <|
      ck (ix_ v8_5 40) <|
      Option.bind (α := Int × Int × (Nat → Int)) (
        ck (r4 (max 0 ((v8_3 + ((p2_signs (v8_5).toNat) - 2)) - p1_slack)) ∧ r4 p1_limit) <|
        if p1_limit < max 0 ((v8_3 + ((p2_signs (v8_5).toNat) - 2)) - p1_slack) then
          ck (ix_ v8_5 40) <|
          some (0, 0, up_ (up_ t_signals_l8 (v8_5).toNat 0) (v8_5).toNat 1)
        else
          ck (r4 (max 0 ((v8_4 - ((p2_signs (v8_5).toNat) - 2)) - p1_slack)) ∧ r4 p1_limit) <|
          if p1_limit < max 0 ((v8_4 - ((p2_signs (v8_5).toNat) - 2)) - p1_slack) then
            ck (ix_ v8_5 40) <|
            some (0, 0, up_ (up_ t_signals_l8 (v8_5).toNat 0) (v8_5).toNat 1)
          else
            some (max 0 ((v8_3 + ((p2_signs (v8_5).toNat) - 2)) - p1_slack), max 0 ((v8_4 - ((p2_signs (v8_5).toNat) - 2)) - p1_slack), up_ t_signals_l8 (v8_5).toNat 0)) fun o8 =>
      ck (ix_ v8_5 40) <|
      ck (ix_ v8_5 40) <|
      some (.inl (o8.1, o8.2.1, v8_5 + 1, o8.2.2, up_ t_up_l8 (v8_5).toNat o8.1, up_ t_down_l8 (v8_5).toNat o8.2.1))
    else
      some (.inr (t_signals_l8, t_up_l8, t_down_l8))
  else
    some (.inr (t_signals_l8, t_up_l8, t_down_l8))
def F_X10_sumBySum (n : Nat)  (p2_size : Int) (p2_signs : Nat → Int) (p1_slack : Int) (p1_limit : Int) (t_signals : Nat → Int) (t_up : Nat → Int) (t_down : Nat → Int)  : Option ((Nat → Int) × (Nat → Int) × (Nat → Int)) :=
  (lp_ (fun (q : Int × Int × Int × (Nat → Int) × (Nat → Int) × (Nat → Int)) => F_X10_sumBySum_L8 n p2_size p2_signs p1_slack p1_limit q.1 q.2.1 q.2.2.1 q.2.2.2.1 q.2.2.2.2.1 q.2.2.2.2.2) n (0, 0, 0, t_signals, t_up, t_down)).bind fun o1 =>
  some (o1.1, o1.2.1, o1.2.2)
def rm_X10_sumBySum : Room := { frames := 1, cells := 0, slots := 0, locals := 13 }
set_option maxHeartbeats 4000000 in
set_option maxRecDepth 100000 in
theorem k_X10_sumBySum {l : Launch} {D : va_G} {E : Nat → ClassId} (n : Nat) (a_t a_t_met a_t_past a_t_up a_t_down a_t_signals a_p2 a_p2_times a_p2_signs a_p1 a_p1_least a_p1_of a_p1_set a_p1_chances : Nat) (p2_size : Int) (p2_signs : Nat → Int) (p1_rules : Int) (p1_slack : Int) (p1_limit : Int) (t_signals : Nat → Int) (t_up : Nat → Int) (t_down : Nat → Int) (res : (Nat → Int) × (Nat → Int) × (Nat → Int)) (hf : F_X10_sumBySum n p2_size p2_signs p1_slack p1_limit t_signals t_up t_down = some res) : MW l yX10_sumBySum (.code yX10_sumBySum cX10_sumBySum 7 none) rm_X10_sumBySum D E [.ref a_t, .ref a_p1, .ref a_p2] [(a_t, .inr (10, [.ref a_t_met, .ref a_t_past, .ref a_t_up, .ref a_t_down, .ref a_t_signals])), (a_p2, .inr (6, [.int (z4 p2_size), .ref a_p2_times, .ref a_p2_signs])), (a_p2_signs, .inl (E 0, 40, .inl (A4 p2_signs))), (a_p1, .inr (4, [.int (z4 p1_rules), .ref a_p1_least, .ref a_p1_of, .ref a_p1_set, .ref a_p1_chances, .int (z4 p1_slack), .int (z4 p1_limit)])), (a_t_signals, .inl (E 0, 40, .inl (A4 t_signals))), (a_t_up, .inl (E 0, 40, .inl (A4 t_up))), (a_t_down, .inl (E 0, 40, .inl (A4 t_down)))] none [(a_t, .inr (10, [.ref a_t_met, .ref a_t_past, .ref a_t_up, .ref a_t_down, .ref a_t_signals])), (a_p2, .inr (6, [.int (z4 p2_size), .ref a_p2_times, .ref a_p2_signs])), (a_p2_signs, .inl (E 0, 40, .inl (A4 p2_signs))), (a_p1, .inr (4, [.int (z4 p1_rules), .ref a_p1_least, .ref a_p1_of, .ref a_p1_set, .ref a_p1_chances, .int (z4 p1_slack), .int (z4 p1_limit)])), (a_t_signals, .inl (E 0, 40, .inl (A4 res.1))), (a_t_up, .inl (E 0, 40, .inl (A4 res.2.1))), (a_t_down, .inl (E 0, 40, .inl (A4 res.2.2)))] := by
  refine MWv (by decide) (Nat.le_of_ble_eq_true rfl) ?_
  intro p e s m args below meth c A Q X hK hP hD hA ret ls hl
  have hS : va_S A s.heap s.heap [] := va_S.rf
  have hx := X.1
  have hb := X.2.1
  have hl : lv_has ls 7 [(0, .ref a_t), (1, .ref a_p1), (2, .ref a_p2)] := hl
  unfold F_X10_sumBySum at hf
  refine m_iconst X dX10_sumBySum_0 ?_
  refine lv_istore_n (lv' := [(3, .int (z4 0)), (0, .ref a_t), (1, .ref a_p1), (2, .ref a_p2)]) hx hb dX10_sumBySum_1 rfl hl (by decide) rfl (fun ls hl => ?_)
  refine m_iconst X dX10_sumBySum_2 ?_
  refine lv_istore (lv' := [(4, .int (z4 0)), (3, .int (z4 0)), (0, .ref a_t), (1, .ref a_p1), (2, .ref a_p2)]) hx hb dX10_sumBySum_3 hl (by decide) rfl (fun ls hl => ?_)
  refine m_iconst X dX10_sumBySum_5 ?_
  refine lv_istore (lv' := [(5, .int (z4 0)), (4, .int (z4 0)), (3, .int (z4 0)), (0, .ref a_t), (1, .ref a_p1), (2, .ref a_p2)]) hx hb dX10_sumBySum_6 hl (by decide) rfl (fun ls hl => ?_)
  obtain ⟨o1, hj1, hr1⟩ := bd_some hf
  have E1_0 : ∀ (o_ : (Nat → Int) × (Nat → Int) × (Nat → Int)), o1 = o_ → ∀ (H : Heap) (locs : List Loc) (ls : Array Slot), lv_has ls 7 [] → va_P D vwCl [(a_t, .inr (10, [.ref a_t_met, .ref a_t_past, .ref a_t_up, .ref a_t_down, .ref a_t_signals])), (a_p2, .inr (6, [.int (z4 p2_size), .ref a_p2_times, .ref a_p2_signs])), (a_p2_signs, .inl (E 0, 40, .inl (A4 p2_signs))), (a_p1, .inr (4, [.int (z4 p1_rules), .ref a_p1_least, .ref a_p1_of, .ref a_p1_set, .ref a_p1_chances, .int (z4 p1_slack), .int (z4 p1_limit)])), (a_t_signals, .inl (E 0, 40, .inl (A4 o_.1))), (a_t_up, .inl (E 0, 40, .inl (A4 o_.2.1))), (a_t_down, .inl (E 0, 40, .inl (A4 o_.2.2)))] H → va_D A [(a_t, .inr (10, [.ref a_t_met, .ref a_t_past, .ref a_t_up, .ref a_t_down, .ref a_t_signals])), (a_p2, .inr (6, [.int (z4 p2_size), .ref a_p2_times, .ref a_p2_signs])), (a_p2_signs, .inl (E 0, 40, .inl (A4 p2_signs))), (a_p1, .inr (4, [.int (z4 p1_rules), .ref a_p1_least, .ref a_p1_of, .ref a_p1_set, .ref a_p1_chances, .int (z4 p1_slack), .int (z4 p1_limit)])), (a_t_signals, .inl (E 0, 40, .inl (A4 o_.1))), (a_t_up, .inl (E 0, 40, .inl (A4 o_.2.1))), (a_t_down, .inl (E 0, 40, .inl (A4 o_.2.2)))] → va_S A s.heap H locs → W p l e rm_X10_sumBySum s m args below meth c H locs 0 0 Q (F0 m 126 ls []) := by
    intro o_ ho_ H locs ls hl hP hD hS
    subst ho_
    obtain rfl := Option.some.inj hr1
    exact ret _ _ _ _ hP hD hS dX10_sumBySum_126
  have L1 : ∀ (k_ : Nat) (v8_3 : Int) (v8_4 : Int) (v8_5 : Int) (t_signals_l8 : Nat → Int) (t_up_l8 : Nat → Int) (t_down_l8 : Nat → Int), ∀ (H : Heap) (locs : List Loc) (ls : Array Slot), lv_has ls 7 [(0, .ref a_t), (1, .ref a_p1), (2, .ref a_p2), (3, .int (z4 v8_3)), (4, .int (z4 v8_4)), (5, .int (z4 v8_5))] → va_P D vwCl [(a_t, .inr (10, [.ref a_t_met, .ref a_t_past, .ref a_t_up, .ref a_t_down, .ref a_t_signals])), (a_p2, .inr (6, [.int (z4 p2_size), .ref a_p2_times, .ref a_p2_signs])), (a_p2_signs, .inl (E 0, 40, .inl (A4 p2_signs))), (a_p1, .inr (4, [.int (z4 p1_rules), .ref a_p1_least, .ref a_p1_of, .ref a_p1_set, .ref a_p1_chances, .int (z4 p1_slack), .int (z4 p1_limit)])), (a_t_signals, .inl (E 0, 40, .inl (A4 t_signals_l8))), (a_t_up, .inl (E 0, 40, .inl (A4 t_up_l8))), (a_t_down, .inl (E 0, 40, .inl (A4 t_down_l8)))] H → va_D A [(a_t, .inr (10, [.ref a_t_met, .ref a_t_past, .ref a_t_up, .ref a_t_down, .ref a_t_signals])), (a_p2, .inr (6, [.int (z4 p2_size), .ref a_p2_times, .ref a_p2_signs])), (a_p2_signs, .inl (E 0, 40, .inl (A4 p2_signs))), (a_p1, .inr (4, [.int (z4 p1_rules), .ref a_p1_least, .ref a_p1_of, .ref a_p1_set, .ref a_p1_chances, .int (z4 p1_slack), .int (z4 p1_limit)])), (a_t_signals, .inl (E 0, 40, .inl (A4 t_signals_l8))), (a_t_up, .inl (E 0, 40, .inl (A4 t_up_l8))), (a_t_down, .inl (E 0, 40, .inl (A4 t_down_l8)))] → va_S A s.heap H locs → lp_ (fun (q : Int × Int × Int × (Nat → Int) × (Nat → Int) × (Nat → Int)) => F_X10_sumBySum_L8 n p2_size p2_signs p1_slack p1_limit q.1 q.2.1 q.2.2.1 q.2.2.2.1 q.2.2.2.2.1 q.2.2.2.2.2) k_ (v8_3, v8_4, v8_5, t_signals_l8, t_up_l8, t_down_l8) = some o1 → W p l e rm_X10_sumBySum s m args below meth c H locs 0 0 Q (F0 m 8 ls []) := by
    intro k_
    induction k_ with
    | zero =>
      intro v8_3 v8_4 v8_5 t_signals_l8 t_up_l8 t_down_l8 H locs ls hl hP hD hS hq_; exact (lp_zero hq_).elim
    | succ k_ ih1 =>
      intro v8_3 v8_4 v8_5 t_signals_l8 t_up_l8 t_down_l8 H locs ls hl hP hD hS hq_
      obtain ⟨t_1, hb1, hq1⟩ := lp_some hq_
      replace hb1 : F_X10_sumBySum_L8 n p2_size p2_signs p1_slack p1_limit v8_3 v8_4 v8_5 t_signals_l8 t_up_l8 t_down_l8 = some t_1 := hb1
      unfold F_X10_sumBySum_L8 at hb1
      refine lv_iload hx hb dX10_sumBySum_8 (lv_at hl 5 rfl) ?_
      refine lv_aload_n hx hb dX10_sumBySum_10 rfl (lv_at hl 2 rfl) ?_
      refine m_get X hK hP cl_X6 iT_X6 0 (by decide) fl_X10_44 1 rfl rfl dX10_sumBySum_11 ?_
      obtain ⟨h2, hb1⟩ := ck_some hb1
      refine m_icmp_ge X h2 dX10_sumBySum_14 (tgt := 126) (by decide) (fun (hc_ : ¬ (v8_5 < p2_size)) => ?_) (fun (hc_ : v8_5 < p2_size) => ?_)
      · rw [if_neg hc_] at hb1
        obtain rfl := Option.some.inj hb1
        exact E1_0 _ (Option.some.inj hq1).symm _ _ _ (lv_sub hl [] rfl) hP hD hS
      · rw [if_pos hc_] at hb1
        refine lv_iload hx hb dX10_sumBySum_17 (lv_at hl 5 rfl) ?_
        refine m_bipush X dX10_sumBySum_19 (by decide) ?_
        obtain ⟨h3, hb1⟩ := ck_some hb1
        refine m_icmp_ge X ⟨h3, ⟨by decide, by decide⟩⟩ dX10_sumBySum_21 (tgt := 126) (by decide) (fun (hc_ : ¬ (v8_5 < 40)) => ?_) (fun (hc_ : v8_5 < 40) => ?_)
        · rw [if_neg hc_] at hb1
          obtain rfl := Option.some.inj hb1
          exact E1_0 _ (Option.some.inj hq1).symm _ _ _ (lv_sub hl [] rfl) hP hD hS
        · rw [if_pos hc_] at hb1
          refine lv_aload_n hx hb dX10_sumBySum_24 rfl (lv_at hl 2 rfl) ?_
          refine m_get X hK hP cl_X6 iT_X6 2 (by decide) fl_X10_50 1 rfl rfl dX10_sumBySum_25 ?_
          refine lv_iload hx hb dX10_sumBySum_28 (lv_at hl 5 rfl) ?_
          obtain ⟨h4, hb1⟩ := ck_some hb1
          refine m_iald X hK hP 2 rfl (by decide) h4 dX10_sumBySum_30 ?_
          refine m_iconst X dX10_sumBySum_31 ?_
          refine m_isub X dX10_sumBySum_32 ?_
          refine lv_istore (lv' := [(6, .int (z4 ((p2_signs (v8_5).toNat) - 2))), (0, .ref a_t), (1, .ref a_p1), (2, .ref a_p2), (3, .int (z4 v8_3)), (4, .int (z4 v8_4)), (5, .int (z4 v8_5))]) hx hb dX10_sumBySum_33 hl (by decide) rfl (fun ls hl => ?_)
          refine m_iconst X dX10_sumBySum_35 ?_
          refine lv_iload_n hx hb dX10_sumBySum_36 rfl (lv_at hl 4 rfl) ?_
          refine lv_iload hx hb dX10_sumBySum_37 (lv_at hl 0 rfl) ?_
          refine m_iadd X dX10_sumBySum_39 ?_
          refine lv_aload_n hx hb dX10_sumBySum_40 rfl (lv_at hl 2 rfl) ?_
          refine m_get X hK hP cl_X4 iT_X4 5 (by decide) fl_X10_59 3 rfl rfl dX10_sumBySum_41 ?_
          refine m_isub X dX10_sumBySum_44 ?_
          obtain ⟨h5, hb1⟩ := ck_some hb1
          refine m_max X ml_X10_62 st_max in_Math cd_max hl.1 (Nat.le_of_ble_eq_true rfl) (Nat.le_of_ble_eq_true rfl) (Nat.zero_le _) (Nat.zero_le _) ⟨⟨by decide, by decide⟩, h5⟩ dX10_sumBySum_45 ?_
          refine lv_istore_n (lv' := [(3, .int (z4 (max 0 ((v8_3 + ((p2_signs (v8_5).toNat) - 2)) - p1_slack)))), (6, .int (z4 ((p2_signs (v8_5).toNat) - 2))), (0, .ref a_t), (1, .ref a_p1), (2, .ref a_p2), (4, .int (z4 v8_4)), (5, .int (z4 v8_5))]) hx hb dX10_sumBySum_48 rfl hl (by decide) rfl (fun ls hl => ?_)
          refine m_iconst X dX10_sumBySum_49 ?_
          refine lv_iload hx hb dX10_sumBySum_50 (lv_at hl 5 rfl) ?_
          refine lv_iload hx hb dX10_sumBySum_52 (lv_at hl 1 rfl) ?_
          refine m_isub X dX10_sumBySum_54 ?_
          refine lv_aload_n hx hb dX10_sumBySum_55 rfl (lv_at hl 3 rfl) ?_
          refine m_get X hK hP cl_X4 iT_X4 5 (by decide) fl_X10_59 3 rfl rfl dX10_sumBySum_56 ?_
          refine m_isub X dX10_sumBySum_59 ?_
          obtain ⟨h6, hb1⟩ := ck_some hb1
          refine m_max X ml_X10_62 st_max in_Math cd_max hl.1 (Nat.le_of_ble_eq_true rfl) (Nat.le_of_ble_eq_true rfl) (Nat.zero_le _) (Nat.zero_le _) ⟨⟨by decide, by decide⟩, h6⟩ dX10_sumBySum_60 ?_
          refine lv_istore (lv' := [(4, .int (z4 (max 0 ((v8_4 - ((p2_signs (v8_5).toNat) - 2)) - p1_slack)))), (3, .int (z4 (max 0 ((v8_3 + ((p2_signs (v8_5).toNat) - 2)) - p1_slack)))), (6, .int (z4 ((p2_signs (v8_5).toNat) - 2))), (0, .ref a_t), (1, .ref a_p1), (2, .ref a_p2), (5, .int (z4 v8_5))]) hx hb dX10_sumBySum_63 hl (by decide) rfl (fun ls hl => ?_)
          refine lv_aload_n hx hb dX10_sumBySum_65 rfl (lv_at hl 3 rfl) ?_
          refine m_get X hK hP cl_X10 iT_X10 4 (by decide) fl_X10_24 0 rfl rfl dX10_sumBySum_66 ?_
          refine lv_iload hx hb dX10_sumBySum_69 (lv_at hl 6 rfl) ?_
          refine m_iconst X dX10_sumBySum_71 ?_
          obtain ⟨h7, hb1⟩ := ck_some hb1
          refine m_iast X hK hP hD hS 4 rfl (by decide) h7 [(a_t, .inr (10, [.ref a_t_met, .ref a_t_past, .ref a_t_up, .ref a_t_down, .ref a_t_signals])), (a_p2, .inr (6, [.int (z4 p2_size), .ref a_p2_times, .ref a_p2_signs])), (a_p2_signs, .inl (E 0, 40, .inl (A4 p2_signs))), (a_p1, .inr (4, [.int (z4 p1_rules), .ref a_p1_least, .ref a_p1_of, .ref a_p1_set, .ref a_p1_chances, .int (z4 p1_slack), .int (z4 p1_limit)])), (a_t_signals, .inl (E 0, 40, .inl (A4 (up_ t_signals_l8 (v8_5).toNat 0)))), (a_t_up, .inl (E 0, 40, .inl (A4 t_up_l8))), (a_t_down, .inl (E 0, 40, .inl (A4 t_down_l8)))] rfl dX10_sumBySum_72 (fun H locs hP hD hS => ?_)
          refine lv_iload_n hx hb dX10_sumBySum_73 rfl (lv_at hl 1 rfl) ?_
          refine lv_aload_n hx hb dX10_sumBySum_74 rfl (lv_at hl 4 rfl) ?_
          refine m_get X hK hP cl_X4 iT_X4 6 (by decide) fl_X10_67 3 rfl rfl dX10_sumBySum_75 ?_
          obtain ⟨o8, hj8, hr8⟩ := bd_some hb1
          have J8 : ∀ (o_ : Int × Int × (Nat → Int)), o8 = o_ → ∀ (H : Heap) (locs : List Loc) (ls : Array Slot), lv_has ls 7 [(0, .ref a_t), (1, .ref a_p1), (2, .ref a_p2), (3, .int (z4 o_.1)), (4, .int (z4 o_.2.1)), (5, .int (z4 v8_5))] → va_P D vwCl [(a_t, .inr (10, [.ref a_t_met, .ref a_t_past, .ref a_t_up, .ref a_t_down, .ref a_t_signals])), (a_p2, .inr (6, [.int (z4 p2_size), .ref a_p2_times, .ref a_p2_signs])), (a_p2_signs, .inl (E 0, 40, .inl (A4 p2_signs))), (a_p1, .inr (4, [.int (z4 p1_rules), .ref a_p1_least, .ref a_p1_of, .ref a_p1_set, .ref a_p1_chances, .int (z4 p1_slack), .int (z4 p1_limit)])), (a_t_signals, .inl (E 0, 40, .inl (A4 o_.2.2))), (a_t_up, .inl (E 0, 40, .inl (A4 t_up_l8))), (a_t_down, .inl (E 0, 40, .inl (A4 t_down_l8)))] H → va_D A [(a_t, .inr (10, [.ref a_t_met, .ref a_t_past, .ref a_t_up, .ref a_t_down, .ref a_t_signals])), (a_p2, .inr (6, [.int (z4 p2_size), .ref a_p2_times, .ref a_p2_signs])), (a_p2_signs, .inl (E 0, 40, .inl (A4 p2_signs))), (a_p1, .inr (4, [.int (z4 p1_rules), .ref a_p1_least, .ref a_p1_of, .ref a_p1_set, .ref a_p1_chances, .int (z4 p1_slack), .int (z4 p1_limit)])), (a_t_signals, .inl (E 0, 40, .inl (A4 o_.2.2))), (a_t_up, .inl (E 0, 40, .inl (A4 t_up_l8))), (a_t_down, .inl (E 0, 40, .inl (A4 t_down_l8)))] → va_S A s.heap H locs → W p l e rm_X10_sumBySum s m args below meth c H locs 0 0 Q (F0 m 103 ls []) := by
            intro o_ ho_ H locs ls hl hP hD hS
            subst ho_
            refine lv_aload_n hx hb dX10_sumBySum_103 rfl (lv_at hl 0 rfl) ?_
            refine m_get X hK hP cl_X10 iT_X10 2 (by decide) fl_X10_18 0 rfl rfl dX10_sumBySum_104 ?_
            refine lv_iload hx hb dX10_sumBySum_107 (lv_at hl 5 rfl) ?_
            refine lv_iload_n hx hb dX10_sumBySum_109 rfl (lv_at hl 3 rfl) ?_
            obtain ⟨h13, hr8⟩ := ck_some hr8
            refine m_iast X hK hP hD hS 5 rfl (by decide) h13 [(a_t, .inr (10, [.ref a_t_met, .ref a_t_past, .ref a_t_up, .ref a_t_down, .ref a_t_signals])), (a_p2, .inr (6, [.int (z4 p2_size), .ref a_p2_times, .ref a_p2_signs])), (a_p2_signs, .inl (E 0, 40, .inl (A4 p2_signs))), (a_p1, .inr (4, [.int (z4 p1_rules), .ref a_p1_least, .ref a_p1_of, .ref a_p1_set, .ref a_p1_chances, .int (z4 p1_slack), .int (z4 p1_limit)])), (a_t_signals, .inl (E 0, 40, .inl (A4 o8.2.2))), (a_t_up, .inl (E 0, 40, .inl (A4 (up_ t_up_l8 (v8_5).toNat o8.1)))), (a_t_down, .inl (E 0, 40, .inl (A4 t_down_l8)))] rfl dX10_sumBySum_110 (fun H locs hP hD hS => ?_)
            refine lv_aload_n hx hb dX10_sumBySum_111 rfl (lv_at hl 0 rfl) ?_
            refine m_get X hK hP cl_X10 iT_X10 3 (by decide) fl_X10_21 0 rfl rfl dX10_sumBySum_112 ?_
            refine lv_iload hx hb dX10_sumBySum_115 (lv_at hl 5 rfl) ?_
            refine lv_iload hx hb dX10_sumBySum_117 (lv_at hl 4 rfl) ?_
            obtain ⟨h14, hr8⟩ := ck_some hr8
            refine m_iast X hK hP hD hS 6 rfl (by decide) h14 [(a_t, .inr (10, [.ref a_t_met, .ref a_t_past, .ref a_t_up, .ref a_t_down, .ref a_t_signals])), (a_p2, .inr (6, [.int (z4 p2_size), .ref a_p2_times, .ref a_p2_signs])), (a_p2_signs, .inl (E 0, 40, .inl (A4 p2_signs))), (a_p1, .inr (4, [.int (z4 p1_rules), .ref a_p1_least, .ref a_p1_of, .ref a_p1_set, .ref a_p1_chances, .int (z4 p1_slack), .int (z4 p1_limit)])), (a_t_signals, .inl (E 0, 40, .inl (A4 o8.2.2))), (a_t_up, .inl (E 0, 40, .inl (A4 (up_ t_up_l8 (v8_5).toNat o8.1)))), (a_t_down, .inl (E 0, 40, .inl (A4 (up_ t_down_l8 (v8_5).toNat o8.2.1))))] rfl dX10_sumBySum_119 (fun H locs hP hD hS => ?_)
            refine m_iinc X 5 [(5, .int (z4 (v8_5 + 1))), (0, .ref a_t), (1, .ref a_p1), (2, .ref a_p2), (3, .int (z4 o8.1)), (4, .int (z4 o8.2.1))] dX10_sumBySum_120 hl rfl (by decide) rfl (fun ls hl => ?_)
            refine lv_goto (tgt := 8) hx hb dX10_sumBySum_123 (by decide) ?_
            obtain rfl := Option.some.inj hr8
            exact ih1 _ _ _ _ _ _ _ _ _ (lv_sub hl [1, 2, 3, 4, 5, 0] rfl) hP hD hS hq1
          obtain ⟨h9, hj8⟩ := ck_some hj8
          refine m_icmp_gt X h9 dX10_sumBySum_78 (tgt := 90) (by decide) (fun (hc_ : p1_limit < max 0 ((v8_3 + ((p2_signs (v8_5).toNat) - 2)) - p1_slack)) => ?_) (fun (hc_ : ¬ (p1_limit < max 0 ((v8_3 + ((p2_signs (v8_5).toNat) - 2)) - p1_slack))) => ?_)
          · rw [if_pos hc_] at hj8
            refine lv_aload_n hx hb dX10_sumBySum_90 rfl (lv_at hl 3 rfl) ?_
            refine m_get X hK hP cl_X10 iT_X10 4 (by decide) fl_X10_24 0 rfl rfl dX10_sumBySum_91 ?_
            refine lv_iload hx hb dX10_sumBySum_94 (lv_at hl 6 rfl) ?_
            refine m_iconst X dX10_sumBySum_96 ?_
            obtain ⟨h10, hj8⟩ := ck_some hj8
            refine m_iast X hK hP hD hS 4 rfl (by decide) h10 [(a_t, .inr (10, [.ref a_t_met, .ref a_t_past, .ref a_t_up, .ref a_t_down, .ref a_t_signals])), (a_p2, .inr (6, [.int (z4 p2_size), .ref a_p2_times, .ref a_p2_signs])), (a_p2_signs, .inl (E 0, 40, .inl (A4 p2_signs))), (a_p1, .inr (4, [.int (z4 p1_rules), .ref a_p1_least, .ref a_p1_of, .ref a_p1_set, .ref a_p1_chances, .int (z4 p1_slack), .int (z4 p1_limit)])), (a_t_signals, .inl (E 0, 40, .inl (A4 (up_ (up_ t_signals_l8 (v8_5).toNat 0) (v8_5).toNat 1)))), (a_t_up, .inl (E 0, 40, .inl (A4 t_up_l8))), (a_t_down, .inl (E 0, 40, .inl (A4 t_down_l8)))] rfl dX10_sumBySum_97 (fun H locs hP hD hS => ?_)
            refine m_iconst X dX10_sumBySum_98 ?_
            refine lv_istore_n (lv' := [(3, .int (z4 0)), (4, .int (z4 (max 0 ((v8_4 - ((p2_signs (v8_5).toNat) - 2)) - p1_slack)))), (6, .int (z4 ((p2_signs (v8_5).toNat) - 2))), (0, .ref a_t), (1, .ref a_p1), (2, .ref a_p2), (5, .int (z4 v8_5))]) hx hb dX10_sumBySum_99 rfl hl (by decide) rfl (fun ls hl => ?_)
            refine m_iconst X dX10_sumBySum_100 ?_
            refine lv_istore (lv' := [(4, .int (z4 0)), (3, .int (z4 0)), (6, .int (z4 ((p2_signs (v8_5).toNat) - 2))), (0, .ref a_t), (1, .ref a_p1), (2, .ref a_p2), (5, .int (z4 v8_5))]) hx hb dX10_sumBySum_101 hl (by decide) rfl (fun ls hl => ?_)
            exact J8 _ (Option.some.inj hj8).symm _ _ _ (lv_sub hl [3, 4, 5, 1, 0, 6] rfl) hP hD hS
          · rw [if_neg hc_] at hj8
            refine lv_iload hx hb dX10_sumBySum_81 (lv_at hl 0 rfl) ?_
            refine lv_aload_n hx hb dX10_sumBySum_83 rfl (lv_at hl 4 rfl) ?_
            refine m_get X hK hP cl_X4 iT_X4 6 (by decide) fl_X10_67 3 rfl rfl dX10_sumBySum_84 ?_
            obtain ⟨h11, hj8⟩ := ck_some hj8
            refine m_icmp_le X h11 dX10_sumBySum_87 (tgt := 103) (by decide) (fun (hc_ : ¬ (p1_limit < max 0 ((v8_4 - ((p2_signs (v8_5).toNat) - 2)) - p1_slack))) => ?_) (fun (hc_ : p1_limit < max 0 ((v8_4 - ((p2_signs (v8_5).toNat) - 2)) - p1_slack)) => ?_)
            · rw [if_neg hc_] at hj8
              exact J8 _ (Option.some.inj hj8).symm _ _ _ (lv_sub hl [3, 4, 5, 1, 0, 6] rfl) hP hD hS
            · rw [if_pos hc_] at hj8
              refine lv_aload_n hx hb dX10_sumBySum_90 rfl (lv_at hl 3 rfl) ?_
              refine m_get X hK hP cl_X10 iT_X10 4 (by decide) fl_X10_24 0 rfl rfl dX10_sumBySum_91 ?_
              refine lv_iload hx hb dX10_sumBySum_94 (lv_at hl 6 rfl) ?_
              refine m_iconst X dX10_sumBySum_96 ?_
              obtain ⟨h12, hj8⟩ := ck_some hj8
              refine m_iast X hK hP hD hS 4 rfl (by decide) h12 [(a_t, .inr (10, [.ref a_t_met, .ref a_t_past, .ref a_t_up, .ref a_t_down, .ref a_t_signals])), (a_p2, .inr (6, [.int (z4 p2_size), .ref a_p2_times, .ref a_p2_signs])), (a_p2_signs, .inl (E 0, 40, .inl (A4 p2_signs))), (a_p1, .inr (4, [.int (z4 p1_rules), .ref a_p1_least, .ref a_p1_of, .ref a_p1_set, .ref a_p1_chances, .int (z4 p1_slack), .int (z4 p1_limit)])), (a_t_signals, .inl (E 0, 40, .inl (A4 (up_ (up_ t_signals_l8 (v8_5).toNat 0) (v8_5).toNat 1)))), (a_t_up, .inl (E 0, 40, .inl (A4 t_up_l8))), (a_t_down, .inl (E 0, 40, .inl (A4 t_down_l8)))] rfl dX10_sumBySum_97 (fun H locs hP hD hS => ?_)
              refine m_iconst X dX10_sumBySum_98 ?_
              refine lv_istore_n (lv' := [(3, .int (z4 0)), (4, .int (z4 (max 0 ((v8_4 - ((p2_signs (v8_5).toNat) - 2)) - p1_slack)))), (6, .int (z4 ((p2_signs (v8_5).toNat) - 2))), (0, .ref a_t), (1, .ref a_p1), (2, .ref a_p2), (5, .int (z4 v8_5))]) hx hb dX10_sumBySum_99 rfl hl (by decide) rfl (fun ls hl => ?_)
              refine m_iconst X dX10_sumBySum_100 ?_
              refine lv_istore (lv' := [(4, .int (z4 0)), (3, .int (z4 0)), (6, .int (z4 ((p2_signs (v8_5).toNat) - 2))), (0, .ref a_t), (1, .ref a_p1), (2, .ref a_p2), (5, .int (z4 v8_5))]) hx hb dX10_sumBySum_101 hl (by decide) rfl (fun ls hl => ?_)
              exact J8 _ (Option.some.inj hj8).symm _ _ _ (lv_sub hl [3, 4, 5, 1, 0, 6] rfl) hP hD hS
  exact L1 n _ _ _ _ _ _ _ _ _ (lv_sub hl [3, 4, 5, 2, 1, 0] rfl) hP hD hS hj1
def F_X10_through (n : Nat)  (p1_rows_size : Int) (p1_rows_signs : Nat → Int) (p1_plan_rules : Int) (p1_plan_slack : Int) (p1_plan_limit : Int) (p1_plan_of : Nat → Int) (p1_plan_set : Nat → Int) (p1_plan_least : Nat → Int) (t_met : Nat → Int) (t_past : Nat → Int) (t_signals : Nat → Int) (t_up : Nat → Int) (t_down : Nat → Int)  : Option ((Nat → Int) × (Nat → Int) × (Nat → Int) × (Nat → Int) × (Nat → Int)) :=
  (F_X10_ruleByRule n p1_rows_size p1_rows_signs p1_plan_rules p1_plan_of p1_plan_set p1_plan_least t_met t_past).bind fun o1 =>
  (F_X10_sumBySum n p1_rows_size p1_rows_signs p1_plan_slack p1_plan_limit t_signals t_up t_down).bind fun o2 =>
  some (o1.1, o1.2, o2.1, o2.2.1, o2.2.2)
def rm_X10_through : Room := { frames := 3, cells := 0, slots := 0, locals := 74 }
set_option maxHeartbeats 4000000 in
set_option maxRecDepth 100000 in
theorem k_X10_through {l : Launch} {D : va_G} {E : Nat → ClassId} (n : Nat) (a_t a_t_met a_t_past a_t_up a_t_down a_t_signals a_p1 a_p1_plan a_p1_rows a_p1_rows_times a_p1_rows_signs a_p1_plan_least a_p1_plan_of a_p1_plan_set a_p1_plan_chances : Nat) (p1_rows_size : Int) (p1_rows_signs : Nat → Int) (p1_plan_rules : Int) (p1_plan_slack : Int) (p1_plan_limit : Int) (p1_plan_of : Nat → Int) (p1_plan_set : Nat → Int) (p1_plan_least : Nat → Int) (t_met : Nat → Int) (t_past : Nat → Int) (t_signals : Nat → Int) (t_up : Nat → Int) (t_down : Nat → Int) (res : (Nat → Int) × (Nat → Int) × (Nat → Int) × (Nat → Int) × (Nat → Int)) (hf : F_X10_through n p1_rows_size p1_rows_signs p1_plan_rules p1_plan_slack p1_plan_limit p1_plan_of p1_plan_set p1_plan_least t_met t_past t_signals t_up t_down = some res) : MW l yX10_through (.code yX10_through cX10_through 2 none) rm_X10_through D E [.ref a_t, .ref a_p1] [(a_t, .inr (10, [.ref a_t_met, .ref a_t_past, .ref a_t_up, .ref a_t_down, .ref a_t_signals])), (a_p1, .inr (7, [.ref a_p1_plan, .ref a_p1_rows])), (a_p1_rows, .inr (6, [.int (z4 p1_rows_size), .ref a_p1_rows_times, .ref a_p1_rows_signs])), (a_p1_rows_signs, .inl (E 0, 40, .inl (A4 p1_rows_signs))), (a_p1_plan, .inr (4, [.int (z4 p1_plan_rules), .ref a_p1_plan_least, .ref a_p1_plan_of, .ref a_p1_plan_set, .ref a_p1_plan_chances, .int (z4 p1_plan_slack), .int (z4 p1_plan_limit)])), (a_p1_plan_of, .inl (E 0, 3, .inl (A4 p1_plan_of))), (a_p1_plan_set, .inl (E 0, 3, .inl (A4 p1_plan_set))), (a_p1_plan_least, .inl (E 0, 3, .inl (A4 p1_plan_least))), (a_t_met, .inl (E 0, 40, .inl (A4 t_met))), (a_t_past, .inl (E 0, 40, .inl (A4 t_past))), (a_t_signals, .inl (E 0, 40, .inl (A4 t_signals))), (a_t_up, .inl (E 0, 40, .inl (A4 t_up))), (a_t_down, .inl (E 0, 40, .inl (A4 t_down)))] none [(a_t, .inr (10, [.ref a_t_met, .ref a_t_past, .ref a_t_up, .ref a_t_down, .ref a_t_signals])), (a_p1, .inr (7, [.ref a_p1_plan, .ref a_p1_rows])), (a_p1_rows, .inr (6, [.int (z4 p1_rows_size), .ref a_p1_rows_times, .ref a_p1_rows_signs])), (a_p1_rows_signs, .inl (E 0, 40, .inl (A4 p1_rows_signs))), (a_p1_plan, .inr (4, [.int (z4 p1_plan_rules), .ref a_p1_plan_least, .ref a_p1_plan_of, .ref a_p1_plan_set, .ref a_p1_plan_chances, .int (z4 p1_plan_slack), .int (z4 p1_plan_limit)])), (a_p1_plan_of, .inl (E 0, 3, .inl (A4 p1_plan_of))), (a_p1_plan_set, .inl (E 0, 3, .inl (A4 p1_plan_set))), (a_p1_plan_least, .inl (E 0, 3, .inl (A4 p1_plan_least))), (a_t_met, .inl (E 0, 40, .inl (A4 res.1))), (a_t_past, .inl (E 0, 40, .inl (A4 res.2.1))), (a_t_signals, .inl (E 0, 40, .inl (A4 res.2.2.1))), (a_t_up, .inl (E 0, 40, .inl (A4 res.2.2.2.1))), (a_t_down, .inl (E 0, 40, .inl (A4 res.2.2.2.2)))] := by
  refine MWv (by decide) (Nat.le_of_ble_eq_true rfl) ?_
  intro p e s m args below meth c A Q X hK hP hD hA ret ls hl
  have hS : va_S A s.heap s.heap [] := va_S.rf
  have hx := X.1
  have hb := X.2.1
  have hl : lv_has ls 2 [(0, .ref a_t), (1, .ref a_p1)] := hl
  unfold F_X10_through at hf
  refine lv_aload_n hx hb dX10_through_0 rfl (lv_at hl 0 rfl) ?_
  refine lv_aload_n hx hb dX10_through_1 rfl (lv_at hl 1 rfl) ?_
  refine m_get X hK hP cl_X7 iT_X7 0 (by decide) fl_X10_27 1 rfl rfl dX10_through_2 ?_
  refine lv_aload_n hx hb dX10_through_5 rfl (lv_at hl 1 rfl) ?_
  refine m_get X hK hP cl_X7 iT_X7 1 (by decide) fl_X10_33 1 rfl rfl dX10_through_6 ?_
  obtain ⟨o1, ho, hf⟩ := bd_some hf
  refine m_cVW X hK hP hD hS hA (wr := [(a_p1, .inr (7, [.ref a_p1_plan, .ref a_p1_rows])), (a_t_signals, .inl (E 0, 40, .inl (A4 t_signals))), (a_t_up, .inl (E 0, 40, .inl (A4 t_up))), (a_t_down, .inl (E 0, 40, .inl (A4 t_down)))]) (k_X10_ruleByRule n a_t a_t_met a_t_past a_t_up a_t_down a_t_signals a_p1_rows a_p1_rows_times a_p1_rows_signs a_p1_plan a_p1_plan_least a_p1_plan_of a_p1_plan_set a_p1_plan_chances p1_rows_size p1_rows_signs p1_plan_rules p1_plan_slack p1_plan_limit p1_plan_of p1_plan_set p1_plan_least t_met t_past o1 ho) [0, 2, 3, 4, 5, 6, 7, 8, 9] [1, 10, 11, 12] [4, 0, 5, 6, 7, 8, 9, 10, 11, 12, 1, 2, 3] [(a_t, .inr (10, [.ref a_t_met, .ref a_t_past, .ref a_t_up, .ref a_t_down, .ref a_t_signals])), (a_p1, .inr (7, [.ref a_p1_plan, .ref a_p1_rows])), (a_p1_rows, .inr (6, [.int (z4 p1_rows_size), .ref a_p1_rows_times, .ref a_p1_rows_signs])), (a_p1_rows_signs, .inl (E 0, 40, .inl (A4 p1_rows_signs))), (a_p1_plan, .inr (4, [.int (z4 p1_plan_rules), .ref a_p1_plan_least, .ref a_p1_plan_of, .ref a_p1_plan_set, .ref a_p1_plan_chances, .int (z4 p1_plan_slack), .int (z4 p1_plan_limit)])), (a_p1_plan_of, .inl (E 0, 3, .inl (A4 p1_plan_of))), (a_p1_plan_set, .inl (E 0, 3, .inl (A4 p1_plan_set))), (a_p1_plan_least, .inl (E 0, 3, .inl (A4 p1_plan_least))), (a_t_met, .inl (E 0, 40, .inl (A4 o1.1))), (a_t_past, .inl (E 0, 40, .inl (A4 o1.2))), (a_t_signals, .inl (E 0, 40, .inl (A4 t_signals))), (a_t_up, .inl (E 0, 40, .inl (A4 t_up))), (a_t_down, .inl (E 0, 40, .inl (A4 t_down)))] rfl rfl rfl rfl (by decide) rfl rfl rfl cl_X10 lk_X10_37 co_X10_ruleByRule dy_X10_ruleByRule rfl rfl ⟨Nat.le_of_ble_eq_true rfl, Nat.le_of_ble_eq_true rfl⟩ hl.1 rfl (Nat.le_of_ble_eq_true rfl) dX10_through_9 (Nat.zero_le _) (Nat.zero_le _) (fun H locs hP hD hS => ?_)
  refine lv_aload_n hx hb dX10_through_12 rfl (lv_at hl 0 rfl) ?_
  refine lv_aload_n hx hb dX10_through_13 rfl (lv_at hl 1 rfl) ?_
  refine m_get X hK hP cl_X7 iT_X7 0 (by decide) fl_X10_27 1 rfl rfl dX10_through_14 ?_
  refine lv_aload_n hx hb dX10_through_17 rfl (lv_at hl 1 rfl) ?_
  refine m_get X hK hP cl_X7 iT_X7 1 (by decide) fl_X10_33 1 rfl rfl dX10_through_18 ?_
  obtain ⟨o2, ho, hf⟩ := bd_some hf
  refine m_cVW X hK hP hD hS hA (wr := [(a_p1, .inr (7, [.ref a_p1_plan, .ref a_p1_rows])), (a_p1_plan_of, .inl (E 0, 3, .inl (A4 p1_plan_of))), (a_p1_plan_set, .inl (E 0, 3, .inl (A4 p1_plan_set))), (a_p1_plan_least, .inl (E 0, 3, .inl (A4 p1_plan_least))), (a_t_met, .inl (E 0, 40, .inl (A4 o1.1))), (a_t_past, .inl (E 0, 40, .inl (A4 o1.2)))]) (k_X10_sumBySum n a_t a_t_met a_t_past a_t_up a_t_down a_t_signals a_p1_rows a_p1_rows_times a_p1_rows_signs a_p1_plan a_p1_plan_least a_p1_plan_of a_p1_plan_set a_p1_plan_chances p1_rows_size p1_rows_signs p1_plan_rules p1_plan_slack p1_plan_limit t_signals t_up t_down o2 ho) [0, 2, 3, 4, 10, 11, 12] [1, 5, 6, 7, 8, 9] [6, 0, 7, 8, 9, 1, 2, 3, 4, 5, 10, 11, 12] [(a_t, .inr (10, [.ref a_t_met, .ref a_t_past, .ref a_t_up, .ref a_t_down, .ref a_t_signals])), (a_p1, .inr (7, [.ref a_p1_plan, .ref a_p1_rows])), (a_p1_rows, .inr (6, [.int (z4 p1_rows_size), .ref a_p1_rows_times, .ref a_p1_rows_signs])), (a_p1_rows_signs, .inl (E 0, 40, .inl (A4 p1_rows_signs))), (a_p1_plan, .inr (4, [.int (z4 p1_plan_rules), .ref a_p1_plan_least, .ref a_p1_plan_of, .ref a_p1_plan_set, .ref a_p1_plan_chances, .int (z4 p1_plan_slack), .int (z4 p1_plan_limit)])), (a_p1_plan_of, .inl (E 0, 3, .inl (A4 p1_plan_of))), (a_p1_plan_set, .inl (E 0, 3, .inl (A4 p1_plan_set))), (a_p1_plan_least, .inl (E 0, 3, .inl (A4 p1_plan_least))), (a_t_met, .inl (E 0, 40, .inl (A4 o1.1))), (a_t_past, .inl (E 0, 40, .inl (A4 o1.2))), (a_t_signals, .inl (E 0, 40, .inl (A4 o2.1))), (a_t_up, .inl (E 0, 40, .inl (A4 o2.2.1))), (a_t_down, .inl (E 0, 40, .inl (A4 o2.2.2)))] rfl rfl rfl rfl (by decide) rfl rfl rfl cl_X10 lk_X10_41 co_X10_sumBySum dy_X10_sumBySum rfl rfl ⟨Nat.le_of_ble_eq_true rfl, Nat.le_of_ble_eq_true rfl⟩ hl.1 rfl (Nat.le_of_ble_eq_true rfl) dX10_through_21 (Nat.zero_le _) (Nat.zero_le _) (fun H locs hP hD hS => ?_)
  obtain rfl := Option.some.inj hf
  exact ret _ _ _ _ hP hD hS dX10_through_24
