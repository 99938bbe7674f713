def F_X1_lead_L12 (n : Nat) (t_plan_rules : Int) (t_plan_of : Nat → Int) (t_plan_set : Nat → Int) (t_plan_least : Nat → Int) (v2_1 : Int) (v12_2 : Int) (t_leads_l12 : Nat → Int) : Option ((Int × (Nat → Int)) ⊕ ((Nat → Int))) :=
  ck (r4 v12_2) <|
  if v12_2 < 5 then
    (F_X4_pass n t_plan_rules t_plan_of t_plan_set t_plan_least v2_1 v12_2).bind fun o5 =>
    ck (nn o5 ∧ nn 7) <|
    Option.bind (α := Int) (
      ck (r4 (an_ o5 7)) <|
      if an_ o5 7 = 0 then
        some 0
      else
        some 1) fun o7 =>
    Option.bind (α := Int) (
      ck (r4 o7) <|
      if o7 = 0 then
        ck (hR_ o5 3) <|
        some (sr_ o5 3)
      else
        some (-5)) fun o9 =>
    ck (ix_ ((v2_1 * 5) + v12_2) 320) <|
    some (.inl (v12_2 + 1, up_ t_leads_l12 ((v2_1 * 5) + v12_2).toNat o9))
  else
    some (.inr t_leads_l12)
def F_X1_lead_L2 (n : Nat) (t_pasts : Int) (t_plan_rules : Int) (t_plan_of : Nat → Int) (t_plan_set : Nat → Int) (t_plan_least : Nat → Int) (v2_1 : Int) (t_leads_l2 : Nat → Int) : Option ((Int × (Nat → Int)) ⊕ ((Nat → Int))) :=
  ck (r4 v2_1 ∧ r4 t_pasts) <|
  if v2_1 < t_pasts then
    (lp_ (fun (q : Int × (Nat → Int)) => F_X1_lead_L12 n t_plan_rules t_plan_of t_plan_set t_plan_least v2_1 q.1 q.2) n (0, t_leads_l2)).bind fun o3 =>
    some (.inl (v2_1 + 1, o3))
  else
    some (.inr t_leads_l2)
def F_X1_lead (n : Nat)  (t_pasts : Int) (t_plan_rules : Int) (t_plan_of : Nat → Int) (t_plan_set : Nat → Int) (t_plan_least : Nat → Int) (t_leads : Nat → Int)  : Option ((Nat → Int)) :=
  (lp_ (fun (q : Int × (Nat → Int)) => F_X1_lead_L2 n t_pasts t_plan_rules t_plan_of t_plan_set t_plan_least q.1 q.2) n (0, t_leads)).bind fun o1 =>
  some o1
def rm_X1_lead : Room := { frames := 2, cells := 0, slots := 0, locals := 49 }
set_option maxHeartbeats 4000000 in
set_option maxRecDepth 100000 in
theorem k_X1_lead {l : Launch} {D : va_G} {E : Nat → ClassId} (n : Nat) (a_t a_t_plan a_t_leads a_t_part a_t_finer a_t_keys a_t_stateOfPart a_t_pastOfState a_t_steps a_t_away a_t_plan_least a_t_plan_of a_t_plan_set a_t_plan_chances : Nat) (t_pasts : Int) (t_states : Int) (t_plan_rules : Int) (t_plan_slack : Int) (t_plan_limit : Int) (t_plan_of : Nat → Int) (t_plan_set : Nat → Int) (t_plan_least : Nat → Int) (t_leads : Nat → Int) (res : (Nat → Int)) (hf : F_X1_lead n t_pasts t_plan_rules t_plan_of t_plan_set t_plan_least t_leads = some res) : MW l yX1_lead (.code yX1_lead cX1_lead 5 none) rm_X1_lead D E [.ref a_t] [(a_t, .inr (1, [.ref a_t_plan, .int (z4 t_pasts), .ref a_t_leads, .ref a_t_part, .ref a_t_finer, .ref a_t_keys, .ref a_t_stateOfPart, .ref a_t_pastOfState, .int (z4 t_states), .ref a_t_steps, .ref a_t_away])), (a_t_plan, .inr (4, [.int (z4 t_plan_rules), .ref a_t_plan_least, .ref a_t_plan_of, .ref a_t_plan_set, .ref a_t_plan_chances, .int (z4 t_plan_slack), .int (z4 t_plan_limit)])), (a_t_plan_of, .inl (E 0, 3, .inl (A4 t_plan_of))), (a_t_plan_set, .inl (E 0, 3, .inl (A4 t_plan_set))), (a_t_plan_least, .inl (E 0, 3, .inl (A4 t_plan_least))), (a_t_leads, .inl (E 0, 320, .inl (A4 t_leads)))] none [(a_t, .inr (1, [.ref a_t_plan, .int (z4 t_pasts), .ref a_t_leads, .ref a_t_part, .ref a_t_finer, .ref a_t_keys, .ref a_t_stateOfPart, .ref a_t_pastOfState, .int (z4 t_states), .ref a_t_steps, .ref a_t_away])), (a_t_plan, .inr (4, [.int (z4 t_plan_rules), .ref a_t_plan_least, .ref a_t_plan_of, .ref a_t_plan_set, .ref a_t_plan_chances, .int (z4 t_plan_slack), .int (z4 t_plan_limit)])), (a_t_plan_of, .inl (E 0, 3, .inl (A4 t_plan_of))), (a_t_plan_set, .inl (E 0, 3, .inl (A4 t_plan_set))), (a_t_plan_least, .inl (E 0, 3, .inl (A4 t_plan_least))), (a_t_leads, .inl (E 0, 320, .inl (A4 res)))] := by
  refine MWv (by decide) (Nat.le_of_ble_eq_true rfl) ?_
  intro p e s m args below meth c A Q X hK hP hD hA ret ls hl
  have hS : va_S A s.heap s.heap [] := va_S.rf
  have hx := X.1
  have hb := X.2.1
  have hl : lv_has ls 5 [(0, .ref a_t)] := hl
  unfold F_X1_lead at hf
  refine m_iconst X dX1_lead_0 ?_
  refine lv_istore_n (lv' := [(1, .int (z4 0)), (0, .ref a_t)]) hx hb dX1_lead_1 rfl hl (by decide) rfl (fun ls hl => ?_)
  obtain ⟨o1, hj1, hr1⟩ := bd_some hf
  have E1_0 : ∀ (o_ : (Nat → Int)), o1 = o_ → ∀ (H : Heap) (locs : List Loc) (ls : Array Slot), lv_has ls 5 [] → va_P D vwCl [(a_t, .inr (1, [.ref a_t_plan, .int (z4 t_pasts), .ref a_t_leads, .ref a_t_part, .ref a_t_finer, .ref a_t_keys, .ref a_t_stateOfPart, .ref a_t_pastOfState, .int (z4 t_states), .ref a_t_steps, .ref a_t_away])), (a_t_plan, .inr (4, [.int (z4 t_plan_rules), .ref a_t_plan_least, .ref a_t_plan_of, .ref a_t_plan_set, .ref a_t_plan_chances, .int (z4 t_plan_slack), .int (z4 t_plan_limit)])), (a_t_plan_of, .inl (E 0, 3, .inl (A4 t_plan_of))), (a_t_plan_set, .inl (E 0, 3, .inl (A4 t_plan_set))), (a_t_plan_least, .inl (E 0, 3, .inl (A4 t_plan_least))), (a_t_leads, .inl (E 0, 320, .inl (A4 o_)))] H → va_D A [(a_t, .inr (1, [.ref a_t_plan, .int (z4 t_pasts), .ref a_t_leads, .ref a_t_part, .ref a_t_finer, .ref a_t_keys, .ref a_t_stateOfPart, .ref a_t_pastOfState, .int (z4 t_states), .ref a_t_steps, .ref a_t_away])), (a_t_plan, .inr (4, [.int (z4 t_plan_rules), .ref a_t_plan_least, .ref a_t_plan_of, .ref a_t_plan_set, .ref a_t_plan_chances, .int (z4 t_plan_slack), .int (z4 t_plan_limit)])), (a_t_plan_of, .inl (E 0, 3, .inl (A4 t_plan_of))), (a_t_plan_set, .inl (E 0, 3, .inl (A4 t_plan_set))), (a_t_plan_least, .inl (E 0, 3, .inl (A4 t_plan_least))), (a_t_leads, .inl (E 0, 320, .inl (A4 o_)))] → va_S A s.heap H locs → W p l e rm_X1_lead s m args below meth c H locs 0 0 Q (F0 m 76 ls []) := by
    intro o_ ho_ H locs ls hl hP hD hS
    subst ho_
    obtain rfl := Option.some.inj hr1
    exact ret _ _ _ _ hP hD hS dX1_lead_76
  have L1 : ∀ (k_ : Nat) (v2_1 : Int) (t_leads_l2 : Nat → Int), ∀ (H : Heap) (locs : List Loc) (ls : Array Slot), lv_has ls 5 [(0, .ref a_t), (1, .int (z4 v2_1))] → va_P D vwCl [(a_t, .inr (1, [.ref a_t_plan, .int (z4 t_pasts), .ref a_t_leads, .ref a_t_part, .ref a_t_finer, .ref a_t_keys, .ref a_t_stateOfPart, .ref a_t_pastOfState, .int (z4 t_states), .ref a_t_steps, .ref a_t_away])), (a_t_plan, .inr (4, [.int (z4 t_plan_rules), .ref a_t_plan_least, .ref a_t_plan_of, .ref a_t_plan_set, .ref a_t_plan_chances, .int (z4 t_plan_slack), .int (z4 t_plan_limit)])), (a_t_plan_of, .inl (E 0, 3, .inl (A4 t_plan_of))), (a_t_plan_set, .inl (E 0, 3, .inl (A4 t_plan_set))), (a_t_plan_least, .inl (E 0, 3, .inl (A4 t_plan_least))), (a_t_leads, .inl (E 0, 320, .inl (A4 t_leads_l2)))] H → va_D A [(a_t, .inr (1, [.ref a_t_plan, .int (z4 t_pasts), .ref a_t_leads, .ref a_t_part, .ref a_t_finer, .ref a_t_keys, .ref a_t_stateOfPart, .ref a_t_pastOfState, .int (z4 t_states), .ref a_t_steps, .ref a_t_away])), (a_t_plan, .inr (4, [.int (z4 t_plan_rules), .ref a_t_plan_least, .ref a_t_plan_of, .ref a_t_plan_set, .ref a_t_plan_chances, .int (z4 t_plan_slack), .int (z4 t_plan_limit)])), (a_t_plan_of, .inl (E 0, 3, .inl (A4 t_plan_of))), (a_t_plan_set, .inl (E 0, 3, .inl (A4 t_plan_set))), (a_t_plan_least, .inl (E 0, 3, .inl (A4 t_plan_least))), (a_t_leads, .inl (E 0, 320, .inl (A4 t_leads_l2)))] → va_S A s.heap H locs → lp_ (fun (q : Int × (Nat → Int)) => F_X1_lead_L2 n t_pasts t_plan_rules t_plan_of t_plan_set t_plan_least q.1 q.2) k_ (v2_1, t_leads_l2) = some o1 → W p l e rm_X1_lead s m args below meth c H locs 0 0 Q (F0 m 2 ls []) := by
    intro k_
    induction k_ with
    | zero =>
      intro v2_1 t_leads_l2 H locs ls hl hP hD hS hq_; exact (lp_zero hq_).elim
    | succ k_ ih1 =>
      intro v2_1 t_leads_l2 H locs ls hl hP hD hS hq_
      obtain ⟨t_1, hb1, hq1⟩ := lp_some hq_
      replace hb1 : F_X1_lead_L2 n t_pasts t_plan_rules t_plan_of t_plan_set t_plan_least v2_1 t_leads_l2 = some t_1 := hb1
      unfold F_X1_lead_L2 at hb1
      refine lv_iload_n hx hb dX1_lead_2 rfl (lv_at hl 1 rfl) ?_
      refine lv_aload_n hx hb dX1_lead_3 rfl (lv_at hl 0 rfl) ?_
      refine m_get X hK hP cl_X1 iT_X1 1 (by decide) fl_X1_67 0 rfl rfl dX1_lead_4 ?_
      obtain ⟨h2, hb1⟩ := ck_some hb1
      refine m_icmp_ge X h2 dX1_lead_7 (tgt := 76) (by decide) (fun (hc_ : ¬ (v2_1 < t_pasts)) => ?_) (fun (hc_ : v2_1 < t_pasts) => ?_)
      · rw [if_neg hc_] at hb1
        obtain rfl := Option.some.inj hb1
        exact E1_0 _ (Option.some.inj hq1).symm _ _ _ (lv_sub hl [] rfl) hP hD hS
      · rw [if_pos hc_] at hb1
        refine m_iconst X dX1_lead_10 ?_
        refine lv_istore_n (lv' := [(2, .int (z4 0)), (0, .ref a_t), (1, .int (z4 v2_1))]) hx hb dX1_lead_11 rfl hl (by decide) rfl (fun ls hl => ?_)
        obtain ⟨o3, hj3, hr3⟩ := bd_some hb1
        have E3_0 : ∀ (o_ : (Nat → Int)), o3 = o_ → ∀ (H : Heap) (locs : List Loc) (ls : Array Slot), lv_has ls 5 [(0, .ref a_t), (1, .int (z4 v2_1))] → va_P D vwCl [(a_t, .inr (1, [.ref a_t_plan, .int (z4 t_pasts), .ref a_t_leads, .ref a_t_part, .ref a_t_finer, .ref a_t_keys, .ref a_t_stateOfPart, .ref a_t_pastOfState, .int (z4 t_states), .ref a_t_steps, .ref a_t_away])), (a_t_plan, .inr (4, [.int (z4 t_plan_rules), .ref a_t_plan_least, .ref a_t_plan_of, .ref a_t_plan_set, .ref a_t_plan_chances, .int (z4 t_plan_slack), .int (z4 t_plan_limit)])), (a_t_plan_of, .inl (E 0, 3, .inl (A4 t_plan_of))), (a_t_plan_set, .inl (E 0, 3, .inl (A4 t_plan_set))), (a_t_plan_least, .inl (E 0, 3, .inl (A4 t_plan_least))), (a_t_leads, .inl (E 0, 320, .inl (A4 o_)))] H → va_D A [(a_t, .inr (1, [.ref a_t_plan, .int (z4 t_pasts), .ref a_t_leads, .ref a_t_part, .ref a_t_finer, .ref a_t_keys, .ref a_t_stateOfPart, .ref a_t_pastOfState, .int (z4 t_states), .ref a_t_steps, .ref a_t_away])), (a_t_plan, .inr (4, [.int (z4 t_plan_rules), .ref a_t_plan_least, .ref a_t_plan_of, .ref a_t_plan_set, .ref a_t_plan_chances, .int (z4 t_plan_slack), .int (z4 t_plan_limit)])), (a_t_plan_of, .inl (E 0, 3, .inl (A4 t_plan_of))), (a_t_plan_set, .inl (E 0, 3, .inl (A4 t_plan_set))), (a_t_plan_least, .inl (E 0, 3, .inl (A4 t_plan_least))), (a_t_leads, .inl (E 0, 320, .inl (A4 o_)))] → va_S A s.heap H locs → W p l e rm_X1_lead s m args below meth c H locs 0 0 Q (F0 m 70 ls []) := by
          intro o_ ho_ H locs ls hl hP hD hS
          subst ho_
          refine m_iinc X 1 [(1, .int (z4 (v2_1 + 1))), (0, .ref a_t)] dX1_lead_70 hl rfl (by decide) rfl (fun ls hl => ?_)
          refine lv_goto (tgt := 2) hx hb dX1_lead_73 (by decide) ?_
          obtain rfl := Option.some.inj hr3
          exact ih1 _ _ _ _ _ (lv_sub hl [1, 0] rfl) hP hD hS hq1
        have L3 : ∀ (k_ : Nat) (v12_2 : Int) (t_leads_l12 : Nat → Int), ∀ (H : Heap) (locs : List Loc) (ls : Array Slot), lv_has ls 5 [(0, .ref a_t), (1, .int (z4 v2_1)), (2, .int (z4 v12_2))] → va_P D vwCl [(a_t, .inr (1, [.ref a_t_plan, .int (z4 t_pasts), .ref a_t_leads, .ref a_t_part, .ref a_t_finer, .ref a_t_keys, .ref a_t_stateOfPart, .ref a_t_pastOfState, .int (z4 t_states), .ref a_t_steps, .ref a_t_away])), (a_t_plan, .inr (4, [.int (z4 t_plan_rules), .ref a_t_plan_least, .ref a_t_plan_of, .ref a_t_plan_set, .ref a_t_plan_chances, .int (z4 t_plan_slack), .int (z4 t_plan_limit)])), (a_t_plan_of, .inl (E 0, 3, .inl (A4 t_plan_of))), (a_t_plan_set, .inl (E 0, 3, .inl (A4 t_plan_set))), (a_t_plan_least, .inl (E 0, 3, .inl (A4 t_plan_least))), (a_t_leads, .inl (E 0, 320, .inl (A4 t_leads_l12)))] H → va_D A [(a_t, .inr (1, [.ref a_t_plan, .int (z4 t_pasts), .ref a_t_leads, .ref a_t_part, .ref a_t_finer, .ref a_t_keys, .ref a_t_stateOfPart, .ref a_t_pastOfState, .int (z4 t_states), .ref a_t_steps, .ref a_t_away])), (a_t_plan, .inr (4, [.int (z4 t_plan_rules), .ref a_t_plan_least, .ref a_t_plan_of, .ref a_t_plan_set, .ref a_t_plan_chances, .int (z4 t_plan_slack), .int (z4 t_plan_limit)])), (a_t_plan_of, .inl (E 0, 3, .inl (A4 t_plan_of))), (a_t_plan_set, .inl (E 0, 3, .inl (A4 t_plan_set))), (a_t_plan_least, .inl (E 0, 3, .inl (A4 t_plan_least))), (a_t_leads, .inl (E 0, 320, .inl (A4 t_leads_l12)))] → va_S A s.heap H locs → lp_ (fun (q : Int × (Nat → Int)) => F_X1_lead_L12 n t_plan_rules t_plan_of t_plan_set t_plan_least v2_1 q.1 q.2) k_ (v12_2, t_leads_l12) = some o3 → W p l e rm_X1_lead s m args below meth c H locs 0 0 Q (F0 m 12 ls []) := by
          intro k_
          induction k_ with
          | zero =>
            intro v12_2 t_leads_l12 H locs ls hl hP hD hS hq_; exact (lp_zero hq_).elim
          | succ k_ ih3 =>
            intro v12_2 t_leads_l12 H locs ls hl hP hD hS hq_
            obtain ⟨t_3, hb3, hq3⟩ := lp_some hq_
            replace hb3 : F_X1_lead_L12 n t_plan_rules t_plan_of t_plan_set t_plan_least v2_1 v12_2 t_leads_l12 = some t_3 := hb3
            unfold F_X1_lead_L12 at hb3
            refine lv_iload_n hx hb dX1_lead_12 rfl (lv_at hl 2 rfl) ?_
            refine m_iconst X dX1_lead_13 ?_
            obtain ⟨h4, hb3⟩ := ck_some hb3
            refine m_icmp_ge X ⟨h4, ⟨by decide, by decide⟩⟩ dX1_lead_14 (tgt := 70) (by decide) (fun (hc_ : ¬ (v12_2 < 5)) => ?_) (fun (hc_ : v12_2 < 5) => ?_)
            · rw [if_neg hc_] at hb3
              obtain rfl := Option.some.inj hb3
              exact E3_0 _ (Option.some.inj hq3).symm _ _ _ (lv_sub hl [0, 1] rfl) hP hD hS
            · rw [if_pos hc_] at hb3
              refine lv_aload_n hx hb dX1_lead_17 rfl (lv_at hl 0 rfl) ?_
              refine m_get X hK hP cl_X1 iT_X1 0 (by decide) fl_X1_12 0 rfl rfl dX1_lead_18 ?_
              refine lv_iload_n hx hb dX1_lead_21 rfl (lv_at hl 1 rfl) ?_
              refine lv_iload_n hx hb dX1_lead_22 rfl (lv_at hl 2 rfl) ?_
              obtain ⟨o5, ho, hb3⟩ := bd_some hb3
              refine m_cVR X hK (k_X4_pass n a_t_plan a_t_plan_least a_t_plan_of a_t_plan_set a_t_plan_chances t_plan_rules t_plan_slack t_plan_limit t_plan_of t_plan_set t_plan_least v2_1 v12_2 o5 ho) (hP.sub [1, 2, 3, 4] rfl) rfl cl_X4 lk_X1_89 co_X4_pass dy_X4_pass rfl rfl ⟨Nat.le_of_ble_eq_true rfl, Nat.le_of_ble_eq_true rfl⟩ hl.1 rfl (Nat.le_of_ble_eq_true rfl) dX1_lead_23 (Nat.zero_le _) (Nat.zero_le _) ?_
              refine lv_istore_n (lv' := [(3, .int (z4 o5)), (0, .ref a_t), (1, .int (z4 v2_1)), (2, .int (z4 v12_2))]) hx hb dX1_lead_26 rfl hl (by decide) rfl (fun ls hl => ?_)
              refine lv_iload_n hx hb dX1_lead_27 rfl (lv_at hl 0 rfl) ?_
              refine m_bipush X dX1_lead_28 (by decide) ?_
              obtain ⟨h6, hb3⟩ := ck_some hb3
              refine m_iand X h6 dX1_lead_30 ?_
              obtain ⟨o7, hj7, hr7⟩ := bd_some hb3
              have J7 : ∀ (o_ : Int), o7 = o_ → ∀ (H : Heap) (locs : List Loc) (ls : Array Slot), lv_has ls 5 [(0, .ref a_t), (1, .int (z4 v2_1)), (2, .int (z4 v12_2)), (3, .int (z4 o5))] → va_P D vwCl [(a_t, .inr (1, [.ref a_t_plan, .int (z4 t_pasts), .ref a_t_leads, .ref a_t_part, .ref a_t_finer, .ref a_t_keys, .ref a_t_stateOfPart, .ref a_t_pastOfState, .int (z4 t_states), .ref a_t_steps, .ref a_t_away])), (a_t_plan, .inr (4, [.int (z4 t_plan_rules), .ref a_t_plan_least, .ref a_t_plan_of, .ref a_t_plan_set, .ref a_t_plan_chances, .int (z4 t_plan_slack), .int (z4 t_plan_limit)])), (a_t_plan_of, .inl (E 0, 3, .inl (A4 t_plan_of))), (a_t_plan_set, .inl (E 0, 3, .inl (A4 t_plan_set))), (a_t_plan_least, .inl (E 0, 3, .inl (A4 t_plan_least))), (a_t_leads, .inl (E 0, 320, .inl (A4 t_leads_l12)))] H → va_D A [(a_t, .inr (1, [.ref a_t_plan, .int (z4 t_pasts), .ref a_t_leads, .ref a_t_part, .ref a_t_finer, .ref a_t_keys, .ref a_t_stateOfPart, .ref a_t_pastOfState, .int (z4 t_states), .ref a_t_steps, .ref a_t_away])), (a_t_plan, .inr (4, [.int (z4 t_plan_rules), .ref a_t_plan_least, .ref a_t_plan_of, .ref a_t_plan_set, .ref a_t_plan_chances, .int (z4 t_plan_slack), .int (z4 t_plan_limit)])), (a_t_plan_of, .inl (E 0, 3, .inl (A4 t_plan_of))), (a_t_plan_set, .inl (E 0, 3, .inl (A4 t_plan_set))), (a_t_plan_least, .inl (E 0, 3, .inl (A4 t_plan_least))), (a_t_leads, .inl (E 0, 320, .inl (A4 t_leads_l12)))] → va_S A s.heap H locs → W p l e rm_X1_lead s m args below meth c H locs 0 0 Q (F0 m 39 ls [.int (z4 o_)]) := by
                intro o_ ho_ H locs ls hl hP hD hS
                subst ho_
                refine lv_istore (lv' := [(4, .int (z4 o7)), (0, .ref a_t), (1, .int (z4 v2_1)), (2, .int (z4 v12_2)), (3, .int (z4 o5))]) hx hb dX1_lead_39 hl (by decide) rfl (fun ls hl => ?_)
                refine lv_aload_n hx hb dX1_lead_41 rfl (lv_at hl 1 rfl) ?_
                refine m_get X hK hP cl_X1 iT_X1 2 (by decide) fl_X1_18 0 rfl rfl dX1_lead_42 ?_
                refine lv_iload_n hx hb dX1_lead_45 rfl (lv_at hl 2 rfl) ?_
                refine m_iconst X dX1_lead_46 ?_
                refine m_imul X dX1_lead_47 ?_
                refine lv_iload_n hx hb dX1_lead_48 rfl (lv_at hl 3 rfl) ?_
                refine m_iadd X dX1_lead_49 ?_
                refine lv_iload hx hb dX1_lead_50 (lv_at hl 0 rfl) ?_
                obtain ⟨o9, hj9, hr9⟩ := bd_some hr7
                have J9 : ∀ (o_ : Int), o9 = o_ → ∀ (H : Heap) (locs : List Loc) (ls : Array Slot), lv_has ls 5 [(0, .ref a_t), (1, .int (z4 v2_1)), (2, .int (z4 v12_2))] → va_P D vwCl [(a_t, .inr (1, [.ref a_t_plan, .int (z4 t_pasts), .ref a_t_leads, .ref a_t_part, .ref a_t_finer, .ref a_t_keys, .ref a_t_stateOfPart, .ref a_t_pastOfState, .int (z4 t_states), .ref a_t_steps, .ref a_t_away])), (a_t_plan, .inr (4, [.int (z4 t_plan_rules), .ref a_t_plan_least, .ref a_t_plan_of, .ref a_t_plan_set, .ref a_t_plan_chances, .int (z4 t_plan_slack), .int (z4 t_plan_limit)])), (a_t_plan_of, .inl (E 0, 3, .inl (A4 t_plan_of))), (a_t_plan_set, .inl (E 0, 3, .inl (A4 t_plan_set))), (a_t_plan_least, .inl (E 0, 3, .inl (A4 t_plan_least))), (a_t_leads, .inl (E 0, 320, .inl (A4 t_leads_l12)))] H → va_D A [(a_t, .inr (1, [.ref a_t_plan, .int (z4 t_pasts), .ref a_t_leads, .ref a_t_part, .ref a_t_finer, .ref a_t_keys, .ref a_t_stateOfPart, .ref a_t_pastOfState, .int (z4 t_states), .ref a_t_steps, .ref a_t_away])), (a_t_plan, .inr (4, [.int (z4 t_plan_rules), .ref a_t_plan_least, .ref a_t_plan_of, .ref a_t_plan_set, .ref a_t_plan_chances, .int (z4 t_plan_slack), .int (z4 t_plan_limit)])), (a_t_plan_of, .inl (E 0, 3, .inl (A4 t_plan_of))), (a_t_plan_set, .inl (E 0, 3, .inl (A4 t_plan_set))), (a_t_plan_least, .inl (E 0, 3, .inl (A4 t_plan_least))), (a_t_leads, .inl (E 0, 320, .inl (A4 t_leads_l12)))] → va_S A s.heap H locs → W p l e rm_X1_lead s m args below meth c H locs 0 0 Q (F0 m 63 ls [.int (z4 o_), .int (z4 ((v2_1 * 5) + v12_2)), .ref a_t_leads]) := by
                  intro o_ ho_ H locs ls hl hP hD hS
                  subst ho_
                  obtain ⟨h12, hr9⟩ := ck_some hr9
                  refine m_iast X hK hP hD hS 5 rfl (by decide) h12 [(a_t, .inr (1, [.ref a_t_plan, .int (z4 t_pasts), .ref a_t_leads, .ref a_t_part, .ref a_t_finer, .ref a_t_keys, .ref a_t_stateOfPart, .ref a_t_pastOfState, .int (z4 t_states), .ref a_t_steps, .ref a_t_away])), (a_t_plan, .inr (4, [.int (z4 t_plan_rules), .ref a_t_plan_least, .ref a_t_plan_of, .ref a_t_plan_set, .ref a_t_plan_chances, .int (z4 t_plan_slack), .int (z4 t_plan_limit)])), (a_t_plan_of, .inl (E 0, 3, .inl (A4 t_plan_of))), (a_t_plan_set, .inl (E 0, 3, .inl (A4 t_plan_set))), (a_t_plan_least, .inl (E 0, 3, .inl (A4 t_plan_least))), (a_t_leads, .inl (E 0, 320, .inl (A4 (up_ t_leads_l12 ((v2_1 * 5) + v12_2).toNat o9))))] rfl dX1_lead_63 (fun H locs hP hD hS => ?_)
                  refine m_iinc X 2 [(2, .int (z4 (v12_2 + 1))), (0, .ref a_t), (1, .int (z4 v2_1))] dX1_lead_64 hl rfl (by decide) rfl (fun ls hl => ?_)
                  refine lv_goto (tgt := 12) hx hb dX1_lead_67 (by decide) ?_
                  obtain rfl := Option.some.inj hr9
                  exact ih3 _ _ _ _ _ (lv_sub hl [1, 2, 0] rfl) hP hD hS hq3
                obtain ⟨h10, hj9⟩ := ck_some hj9
                refine m_if_eq X h10 dX1_lead_52 (tgt := 60) (by decide) (fun (hc_ : o7 = 0) => ?_) (fun (hc_ : ¬ (o7 = 0)) => ?_)
                · rw [if_pos hc_] at hj9
                  refine lv_iload_n hx hb dX1_lead_60 rfl (lv_at hl 4 rfl) ?_
                  refine m_iconst X dX1_lead_61 ?_
                  obtain ⟨h11, hj9⟩ := ck_some hj9
                  refine m_ishr X h11 dX1_lead_62 ?_
                  exact J9 _ (Option.some.inj hj9).symm _ _ _ (lv_sub hl [1, 2, 3] rfl) hP hD hS
                · rw [if_neg hc_] at hj9
                  refine m_bipush X dX1_lead_55 (by decide) ?_
                  refine lv_goto (tgt := 63) hx hb dX1_lead_57 (by decide) ?_
                  exact J9 _ (Option.some.inj hj9).symm _ _ _ (lv_sub hl [1, 2, 3] rfl) hP hD hS
              obtain ⟨h8, hj7⟩ := ck_some hj7
              refine m_if_eq X h8 dX1_lead_31 (tgt := 38) (by decide) (fun (hc_ : an_ o5 7 = 0) => ?_) (fun (hc_ : ¬ (an_ o5 7 = 0)) => ?_)
              · rw [if_pos hc_] at hj7
                refine m_iconst X dX1_lead_38 ?_
                exact J7 _ (Option.some.inj hj7).symm _ _ _ (lv_sub hl [1, 2, 3, 0] rfl) hP hD hS
              · rw [if_neg hc_] at hj7
                refine m_iconst X dX1_lead_34 ?_
                refine lv_goto (tgt := 39) hx hb dX1_lead_35 (by decide) ?_
                exact J7 _ (Option.some.inj hj7).symm _ _ _ (lv_sub hl [1, 2, 3, 0] rfl) hP hD hS
        exact L3 n _ _ _ _ _ (lv_sub hl [1, 2, 0] rfl) hP hD hS hj3
  exact L1 n _ _ _ _ _ (lv_sub hl [1, 0] rfl) hP hD hS hj1
def F_X1_keyOf_L4 (n : Nat) (x1 : Int) (t_leads : Nat → Int) (t_part : Nat → Int) (v4_2 : Int) (v4_3 : Int) : Option ((Int × Int) ⊕ (Int)) :=
  ck (r4 v4_3) <|
  if v4_3 < 5 then
    ck (ix_ ((x1 * 5) + v4_3) 320) <|
    Option.bind (α := Int) (
      ck (r4 (t_leads ((x1 * 5) + v4_3).toNat)) <|
      if t_leads ((x1 * 5) + v4_3).toNat = (-5) then
        some 64
      else
        ck (ix_ (t_leads ((x1 * 5) + v4_3).toNat) 64) <|
        some (t_part (t_leads ((x1 * 5) + v4_3).toNat).toNat)) fun o4 =>
    some (.inl ((v4_2 * 65) + o4, v4_3 + 1))
  else
    some (.inr v4_2)
def F_X1_keyOf (n : Nat)  (t_leads : Nat → Int) (t_part : Nat → Int) (x1 : Int) : Option (Int) :=
  (lp_ (fun (q : Int × Int) => F_X1_keyOf_L4 n x1 t_leads t_part q.1 q.2) n (0, 0)).bind fun o1 =>
  some o1
def rm_X1_keyOf : Room := { frames := 0, cells := 0, slots := 0, locals := 0 }
set_option maxHeartbeats 4000000 in
set_option maxRecDepth 100000 in
theorem k_X1_keyOf {l : Launch} {D : va_G} {E : Nat → ClassId} (n : Nat) (a_t a_t_plan a_t_leads a_t_part a_t_finer a_t_keys a_t_stateOfPart a_t_pastOfState a_t_steps a_t_away : Nat) (t_pasts : Int) (t_states : Int) (t_leads : Nat → Int) (t_part : Nat → Int) (x1 : Int) (res : Int) (hf : F_X1_keyOf n t_leads t_part x1 = some res) : MR l yX1_keyOf (.code yX1_keyOf cX1_keyOf 5 (some .int)) rm_X1_keyOf D E [.ref a_t, .int (z4 x1)] [(a_t, .inr (1, [.ref a_t_plan, .int (z4 t_pasts), .ref a_t_leads, .ref a_t_part, .ref a_t_finer, .ref a_t_keys, .ref a_t_stateOfPart, .ref a_t_pastOfState, .int (z4 t_states), .ref a_t_steps, .ref a_t_away])), (a_t_leads, .inl (E 0, 320, .inl (A4 t_leads))), (a_t_part, .inl (E 0, 64, .inl (A4 t_part)))] (some (.int (z4 res))) := by
  refine MRi (by decide) (Nat.le_of_ble_eq_true rfl) ?_
  intro p e s m args below meth c Q X hK hP ret ls hl
  have hx := X.1
  have hb := X.2.1
  have hl : lv_has ls 5 [(0, .ref a_t), (1, .int (z4 x1))] := hl
  unfold F_X1_keyOf at hf
  refine m_iconst X dX1_keyOf_0 ?_
  refine lv_istore_n (lv' := [(2, .int (z4 0)), (0, .ref a_t), (1, .int (z4 x1))]) hx hb dX1_keyOf_1 rfl hl (by decide) rfl (fun ls hl => ?_)
  refine m_iconst X dX1_keyOf_2 ?_
  refine lv_istore_n (lv' := [(3, .int (z4 0)), (2, .int (z4 0)), (0, .ref a_t), (1, .int (z4 x1))]) hx hb dX1_keyOf_3 rfl hl (by decide) rfl (fun ls hl => ?_)
  obtain ⟨o1, hj1, hr1⟩ := bd_some hf
  have E1_0 : ∀ (o_ : Int), o1 = o_ → ∀ (ls : Array Slot), lv_has ls 5 [(2, .int (z4 o_))] → W p l e rm_X1_keyOf s m args below meth c s.heap [] 0 0 Q (F0 m 52 ls []) := by
    intro o_ ho_ ls hl 
    subst ho_
    refine lv_iload_n hx hb dX1_keyOf_52 rfl (lv_at hl 0 rfl) ?_
    obtain rfl := Option.some.inj hr1
    exact ret _ _ dX1_keyOf_53
  have L1 : ∀ (k_ : Nat) (v4_2 : Int) (v4_3 : Int), ∀ (ls : Array Slot), lv_has ls 5 [(0, .ref a_t), (1, .int (z4 x1)), (2, .int (z4 v4_2)), (3, .int (z4 v4_3))] → lp_ (fun (q : Int × Int) => F_X1_keyOf_L4 n x1 t_leads t_part q.1 q.2) k_ (v4_2, v4_3) = some o1 → W p l e rm_X1_keyOf s m args below meth c s.heap [] 0 0 Q (F0 m 4 ls []) := by
    intro k_
    induction k_ with
    | zero =>
      intro v4_2 v4_3 ls hl  hq_; exact (lp_zero hq_).elim
    | succ k_ ih1 =>
      intro v4_2 v4_3 ls hl  hq_
      obtain ⟨t_1, hb1, hq1⟩ := lp_some hq_
      replace hb1 : F_X1_keyOf_L4 n x1 t_leads t_part v4_2 v4_3 = some t_1 := hb1
      unfold F_X1_keyOf_L4 at hb1
      refine lv_iload_n hx hb dX1_keyOf_4 rfl (lv_at hl 3 rfl) ?_
      refine m_iconst X dX1_keyOf_5 ?_
      obtain ⟨h2, hb1⟩ := ck_some hb1
      refine m_icmp_ge X ⟨h2, ⟨by decide, by decide⟩⟩ dX1_keyOf_6 (tgt := 52) (by decide) (fun (hc_ : ¬ (v4_3 < 5)) => ?_) (fun (hc_ : v4_3 < 5) => ?_)
      · rw [if_neg hc_] at hb1
        obtain rfl := Option.some.inj hb1
        exact E1_0 _ (Option.some.inj hq1).symm _ (lv_sub hl [2] rfl) 
      · rw [if_pos hc_] at hb1
        refine lv_aload_n hx hb dX1_keyOf_9 rfl (lv_at hl 0 rfl) ?_
        refine m_get X hK hP cl_X1 iT_X1 2 (by decide) fl_X1_18 0 rfl rfl dX1_keyOf_10 ?_
        refine lv_iload_n hx hb dX1_keyOf_13 rfl (lv_at hl 1 rfl) ?_
        refine m_iconst X dX1_keyOf_14 ?_
        refine m_imul X dX1_keyOf_15 ?_
        refine lv_iload_n hx hb dX1_keyOf_16 rfl (lv_at hl 3 rfl) ?_
        refine m_iadd X dX1_keyOf_17 ?_
        obtain ⟨h3, hb1⟩ := ck_some hb1
        refine m_iald X hK hP 1 rfl (by decide) h3 dX1_keyOf_18 ?_
        refine lv_istore (lv' := [(4, .int (z4 (t_leads ((x1 * 5) + v4_3).toNat))), (0, .ref a_t), (1, .int (z4 x1)), (2, .int (z4 v4_2)), (3, .int (z4 v4_3))]) hx hb dX1_keyOf_19 hl (by decide) rfl (fun ls hl => ?_)
        refine lv_iload_n hx hb dX1_keyOf_21 rfl (lv_at hl 3 rfl) ?_
        refine m_bipush X dX1_keyOf_22 (by decide) ?_
        refine m_imul X dX1_keyOf_24 ?_
        refine lv_iload hx hb dX1_keyOf_25 (lv_at hl 0 rfl) ?_
        refine m_bipush X dX1_keyOf_27 (by decide) ?_
        obtain ⟨o4, hj4, hr4⟩ := bd_some hb1
        have J4 : ∀ (o_ : Int), o4 = o_ → ∀ (ls : Array Slot), lv_has ls 5 [(0, .ref a_t), (1, .int (z4 x1)), (3, .int (z4 v4_3))] → W p l e rm_X1_keyOf s m args below meth c s.heap [] 0 0 Q (F0 m 44 ls [.int (z4 o_), .int (z4 (v4_2 * 65))]) := by
          intro o_ ho_ ls hl 
          subst ho_
          refine m_iadd X dX1_keyOf_44 ?_
          refine lv_istore_n (lv' := [(2, .int (z4 ((v4_2 * 65) + o4))), (0, .ref a_t), (1, .int (z4 x1)), (3, .int (z4 v4_3))]) hx hb dX1_keyOf_45 rfl hl (by decide) rfl (fun ls hl => ?_)
          refine m_iinc X 3 [(3, .int (z4 (v4_3 + 1))), (2, .int (z4 ((v4_2 * 65) + o4))), (0, .ref a_t), (1, .int (z4 x1))] dX1_keyOf_46 hl rfl (by decide) rfl (fun ls hl => ?_)
          refine lv_goto (tgt := 4) hx hb dX1_keyOf_49 (by decide) ?_
          obtain rfl := Option.some.inj hr4
          exact ih1 _ _ _ (lv_sub hl [2, 3, 1, 0] rfl)  hq1
        obtain ⟨h5, hj4⟩ := ck_some hj4
        refine m_icmp_ne X ⟨h5, ⟨by decide, by decide⟩⟩ dX1_keyOf_29 (tgt := 37) (by decide) (fun (hc_ : ¬ (t_leads ((x1 * 5) + v4_3).toNat = (-5))) => ?_) (fun (hc_ : t_leads ((x1 * 5) + v4_3).toNat = (-5)) => ?_)
        · rw [if_neg hc_] at hj4
          refine lv_aload_n hx hb dX1_keyOf_37 rfl (lv_at hl 1 rfl) ?_
          refine m_get X hK hP cl_X1 iT_X1 3 (by decide) fl_X1_22 0 rfl rfl dX1_keyOf_38 ?_
          refine lv_iload hx hb dX1_keyOf_41 (lv_at hl 0 rfl) ?_
          obtain ⟨h6, hj4⟩ := ck_some hj4
          refine m_iald X hK hP 2 rfl (by decide) h6 dX1_keyOf_43 ?_
          exact J4 _ (Option.some.inj hj4).symm _ (lv_sub hl [1, 2, 4] rfl) 
        · rw [if_pos hc_] at hj4
          refine m_bipush X dX1_keyOf_32 (by decide) ?_
          refine lv_goto (tgt := 44) hx hb dX1_keyOf_34 (by decide) ?_
          exact J4 _ (Option.some.inj hj4).symm _ (lv_sub hl [1, 2, 4] rfl) 
  exact L1 n _ _ _ (lv_sub hl [2, 3, 1, 0] rfl)  hj1
def F_X1_split_L21 (n : Nat) (v4_1 : Int) (t_keys_l4 : Nat → Int) (o3 : Int) (v21_4 : Int) : Option ((Int) ⊕ (Int)) :=
  ck (r4 v21_4 ∧ r4 v4_1) <|
  if v21_4 < v4_1 then
    ck (ix_ v21_4 64) <|
    ck (r4 (t_keys_l4 (v21_4).toNat) ∧ r4 o3) <|
    if t_keys_l4 (v21_4).toNat = o3 then
      some (.inr v21_4)
    else
      some (.inl (v21_4 + 1))
  else
    some (.inr v21_4)
def F_X1_split_L4 (n : Nat) (t_pasts : Int) (t_leads : Nat → Int) (t_part : Nat → Int) (v4_1 : Int) (v4_2 : Int) (t_keys_l4 : Nat → Int) (t_finer_l4 : Nat → Int) : Option ((Int × Int × (Nat → Int) × (Nat → Int)) ⊕ (Int × (Nat → Int) × (Nat → Int))) :=
  ck (r4 v4_2 ∧ r4 t_pasts) <|
  if v4_2 < t_pasts then
    (F_X1_keyOf n t_leads t_part v4_2).bind fun o3 =>
    (lp_ (fun (q : Int) => F_X1_split_L21 n v4_1 t_keys_l4 o3 q) n 0).bind fun o4 =>
    Option.bind (α := Int × (Nat → Int)) (
      ck (r4 o4 ∧ r4 v4_1) <|
      if o4 = v4_1 then
        ck (ix_ v4_1 64) <|
        some (v4_1 + 1, up_ t_keys_l4 (v4_1).toNat o3)
      else
        some (v4_1, t_keys_l4)) fun o8 =>
    ck (ix_ v4_2 64) <|
    some (.inl (o8.1, v4_2 + 1, o8.2, up_ t_finer_l4 (v4_2).toNat o4))
  else
    some (.inr (v4_1, t_keys_l4, t_finer_l4))
def F_X1_split (n : Nat)  (t_pasts : Int) (t_leads : Nat → Int) (t_part : Nat → Int) (t_keys : Nat → Int) (t_finer : Nat → Int)  : Option (Int × (Nat → Int) × (Nat → Int) × (Nat → Int)) :=
  (lp_ (fun (q : Int × Int × (Nat → Int) × (Nat → Int)) => F_X1_split_L4 n t_pasts t_leads t_part q.1 q.2.1 q.2.2.1 q.2.2.2) n (0, 0, t_keys, t_finer)).bind fun o1 =>
  ck (cy_ 0 t_pasts 0 64 64) <|
  some (o1.1, cp_ o1.2.2 t_part 0 0 (t_pasts).toNat, o1.2.1, o1.2.2)
def rm_X1_split : Room := { frames := 1, cells := 0, slots := 0, locals := 48 }
set_option maxHeartbeats 4000000 in
set_option maxRecDepth 100000 in
theorem k_X1_split {l : Launch} {D : va_G} {E : Nat → ClassId} (n : Nat) (a_t a_t_plan a_t_leads a_t_part a_t_finer a_t_keys a_t_stateOfPart a_t_pastOfState a_t_steps a_t_away : Nat) (t_pasts : Int) (t_states : Int) (t_leads : Nat → Int) (t_part : Nat → Int) (t_keys : Nat → Int) (t_finer : Nat → Int) (res : Int × (Nat → Int) × (Nat → Int) × (Nat → Int)) (hf : F_X1_split n t_pasts t_leads t_part t_keys t_finer = some res) : MW l yX1_split (.code yX1_split cX1_split 5 (some .int)) rm_X1_split D E [.ref a_t] [(a_t, .inr (1, [.ref a_t_plan, .int (z4 t_pasts), .ref a_t_leads, .ref a_t_part, .ref a_t_finer, .ref a_t_keys, .ref a_t_stateOfPart, .ref a_t_pastOfState, .int (z4 t_states), .ref a_t_steps, .ref a_t_away])), (a_t_leads, .inl (E 0, 320, .inl (A4 t_leads))), (a_t_part, .inl (E 0, 64, .inl (A4 t_part))), (a_t_keys, .inl (E 0, 64, .inl (A4 t_keys))), (a_t_finer, .inl (E 0, 64, .inl (A4 t_finer)))] (some (.int (z4 res.1))) [(a_t, .inr (1, [.ref a_t_plan, .int (z4 t_pasts), .ref a_t_leads, .ref a_t_part, .ref a_t_finer, .ref a_t_keys, .ref a_t_stateOfPart, .ref a_t_pastOfState, .int (z4 t_states), .ref a_t_steps, .ref a_t_away])), (a_t_leads, .inl (E 0, 320, .inl (A4 t_leads))), (a_t_part, .inl (E 0, 64, .inl (A4 res.2.1))), (a_t_keys, .inl (E 0, 64, .inl (A4 res.2.2.1))), (a_t_finer, .inl (E 0, 64, .inl (A4 res.2.2.2)))] := by
  refine MWi (by decide) (Nat.le_of_ble_eq_true rfl) ?_
  intro p e s m args below meth c A Q X hK hP hD hA ret ls hl
  have hS : va_S A s.heap s.heap [] := va_S.rf
  have hx := X.1
  have hb := X.2.1
  have hl : lv_has ls 5 [(0, .ref a_t)] := hl
  unfold F_X1_split at hf
  refine m_iconst X dX1_split_0 ?_
  refine lv_istore_n (lv' := [(1, .int (z4 0)), (0, .ref a_t)]) hx hb dX1_split_1 rfl hl (by decide) rfl (fun ls hl => ?_)
  refine m_iconst X dX1_split_2 ?_
  refine lv_istore_n (lv' := [(2, .int (z4 0)), (1, .int (z4 0)), (0, .ref a_t)]) hx hb dX1_split_3 rfl hl (by decide) rfl (fun ls hl => ?_)
  obtain ⟨o1, hj1, hr1⟩ := bd_some hf
  have E1_0 : ∀ (o_ : Int × (Nat → Int) × (Nat → Int)), o1 = o_ → ∀ (H : Heap) (locs : List Loc) (ls : Array Slot), lv_has ls 5 [(0, .ref a_t), (1, .int (z4 o_.1))] → va_P D vwCl [(a_t, .inr (1, [.ref a_t_plan, .int (z4 t_pasts), .ref a_t_leads, .ref a_t_part, .ref a_t_finer, .ref a_t_keys, .ref a_t_stateOfPart, .ref a_t_pastOfState, .int (z4 t_states), .ref a_t_steps, .ref a_t_away])), (a_t_leads, .inl (E 0, 320, .inl (A4 t_leads))), (a_t_part, .inl (E 0, 64, .inl (A4 t_part))), (a_t_keys, .inl (E 0, 64, .inl (A4 o_.2.1))), (a_t_finer, .inl (E 0, 64, .inl (A4 o_.2.2)))] H → va_D A [(a_t, .inr (1, [.ref a_t_plan, .int (z4 t_pasts), .ref a_t_leads, .ref a_t_part, .ref a_t_finer, .ref a_t_keys, .ref a_t_stateOfPart, .ref a_t_pastOfState, .int (z4 t_states), .ref a_t_steps, .ref a_t_away])), (a_t_leads, .inl (E 0, 320, .inl (A4 t_leads))), (a_t_part, .inl (E 0, 64, .inl (A4 t_part))), (a_t_keys, .inl (E 0, 64, .inl (A4 o_.2.1))), (a_t_finer, .inl (E 0, 64, .inl (A4 o_.2.2)))] → va_S A s.heap H locs → W p l e rm_X1_split s m args below meth c H locs 0 0 Q (F0 m 74 ls []) := by
    intro o_ ho_ H locs ls hl hP hD hS
    subst ho_
    refine lv_aload_n hx hb dX1_split_74 rfl (lv_at hl 0 rfl) ?_
    refine m_get X hK hP cl_X1 iT_X1 4 (by decide) fl_X1_25 0 rfl rfl dX1_split_75 ?_
    refine m_iconst X dX1_split_78 ?_
    refine lv_aload_n hx hb dX1_split_79 rfl (lv_at hl 0 rfl) ?_
    refine m_get X hK hP cl_X1 iT_X1 3 (by decide) fl_X1_22 0 rfl rfl dX1_split_80 ?_
    refine m_iconst X dX1_split_83 ?_
    refine lv_aload_n hx hb dX1_split_84 rfl (lv_at hl 0 rfl) ?_
    refine m_get X hK hP cl_X1 iT_X1 1 (by decide) fl_X1_67 0 rfl rfl dX1_split_85 ?_
    obtain ⟨h12, hr1⟩ := ck_some hr1
    refine m_copy X ml_X1_96 nv_arraycopy st_arraycopy in_System hl.1 hK hP hD hS 4 2 rfl rfl (by decide) (by decide) h12 (Nat.le_of_ble_eq_true rfl) (by decide +kernel) [(a_t, .inr (1, [.ref a_t_plan, .int (z4 t_pasts), .ref a_t_leads, .ref a_t_part, .ref a_t_finer, .ref a_t_keys, .ref a_t_stateOfPart, .ref a_t_pastOfState, .int (z4 t_states), .ref a_t_steps, .ref a_t_away])), (a_t_leads, .inl (E 0, 320, .inl (A4 t_leads))), (a_t_part, .inl (E 0, 64, .inl (A4 (cp_ o1.2.2 t_part 0 0 (t_pasts).toNat)))), (a_t_keys, .inl (E 0, 64, .inl (A4 o1.2.1))), (a_t_finer, .inl (E 0, 64, .inl (A4 o1.2.2)))] rfl dX1_split_88 (fun H locs hP hD hS => ?_)
    refine lv_iload_n hx hb dX1_split_91 rfl (lv_at hl 1 rfl) ?_
    obtain rfl := Option.some.inj hr1
    exact ret _ _ _ _ hP hD hS dX1_split_92
  have L1 : ∀ (k_ : Nat) (v4_1 : Int) (v4_2 : Int) (t_keys_l4 : Nat → Int) (t_finer_l4 : Nat → Int), ∀ (H : Heap) (locs : List Loc) (ls : Array Slot), lv_has ls 5 [(0, .ref a_t), (1, .int (z4 v4_1)), (2, .int (z4 v4_2))] → va_P D vwCl [(a_t, .inr (1, [.ref a_t_plan, .int (z4 t_pasts), .ref a_t_leads, .ref a_t_part, .ref a_t_finer, .ref a_t_keys, .ref a_t_stateOfPart, .ref a_t_pastOfState, .int (z4 t_states), .ref a_t_steps, .ref a_t_away])), (a_t_leads, .inl (E 0, 320, .inl (A4 t_leads))), (a_t_part, .inl (E 0, 64, .inl (A4 t_part))), (a_t_keys, .inl (E 0, 64, .inl (A4 t_keys_l4))), (a_t_finer, .inl (E 0, 64, .inl (A4 t_finer_l4)))] H → va_D A [(a_t, .inr (1, [.ref a_t_plan, .int (z4 t_pasts), .ref a_t_leads, .ref a_t_part, .ref a_t_finer, .ref a_t_keys, .ref a_t_stateOfPart, .ref a_t_pastOfState, .int (z4 t_states), .ref a_t_steps, .ref a_t_away])), (a_t_leads, .inl (E 0, 320, .inl (A4 t_leads))), (a_t_part, .inl (E 0, 64, .inl (A4 t_part))), (a_t_keys, .inl (E 0, 64, .inl (A4 t_keys_l4))), (a_t_finer, .inl (E 0, 64, .inl (A4 t_finer_l4)))] → va_S A s.heap H locs → lp_ (fun (q : Int × Int × (Nat → Int) × (Nat → Int)) => F_X1_split_L4 n t_pasts t_leads t_part q.1 q.2.1 q.2.2.1 q.2.2.2) k_ (v4_1, v4_2, t_keys_l4, t_finer_l4) = some o1 → W p l e rm_X1_split s m args below meth c H locs 0 0 Q (F0 m 4 ls []) := by
    intro k_
    induction k_ with
    | zero =>
      intro v4_1 v4_2 t_keys_l4 t_finer_l4 H locs ls hl hP hD hS hq_; exact (lp_zero hq_).elim
    | succ k_ ih1 =>
      intro v4_1 v4_2 t_keys_l4 t_finer_l4 H locs ls hl hP hD hS hq_
      obtain ⟨t_1, hb1, hq1⟩ := lp_some hq_
      replace hb1 : F_X1_split_L4 n t_pasts t_leads t_part v4_1 v4_2 t_keys_l4 t_finer_l4 = some t_1 := hb1
      unfold F_X1_split_L4 at hb1
      refine lv_iload_n hx hb dX1_split_4 rfl (lv_at hl 2 rfl) ?_
      refine lv_aload_n hx hb dX1_split_5 rfl (lv_at hl 0 rfl) ?_
      refine m_get X hK hP cl_X1 iT_X1 1 (by decide) fl_X1_67 0 rfl rfl dX1_split_6 ?_
      obtain ⟨h2, hb1⟩ := ck_some hb1
      refine m_icmp_ge X h2 dX1_split_9 (tgt := 74) (by decide) (fun (hc_ : ¬ (v4_2 < t_pasts)) => ?_) (fun (hc_ : v4_2 < t_pasts) => ?_)
      · rw [if_neg hc_] at hb1
        obtain rfl := Option.some.inj hb1
        exact E1_0 _ (Option.some.inj hq1).symm _ _ _ (lv_sub hl [0, 1] rfl) hP hD hS
      · rw [if_pos hc_] at hb1
        refine lv_aload_n hx hb dX1_split_12 rfl (lv_at hl 0 rfl) ?_
        refine lv_iload_n hx hb dX1_split_13 rfl (lv_at hl 2 rfl) ?_
        obtain ⟨o3, ho, hb1⟩ := bd_some hb1
        refine m_cVR X hK (k_X1_keyOf n a_t a_t_plan a_t_leads a_t_part a_t_finer a_t_keys a_t_stateOfPart a_t_pastOfState a_t_steps a_t_away t_pasts t_states t_leads t_part v4_2 o3 ho) (hP.sub [0, 1, 2] rfl) rfl cl_X1 lk_X1_92 co_X1_keyOf dy_X1_keyOf rfl rfl ⟨Nat.le_of_ble_eq_true rfl, Nat.le_of_ble_eq_true rfl⟩ hl.1 rfl (Nat.le_of_ble_eq_true rfl) dX1_split_14 (Nat.zero_le _) (Nat.zero_le _) ?_
        refine lv_istore_n (lv' := [(3, .int (z4 o3)), (0, .ref a_t), (1, .int (z4 v4_1)), (2, .int (z4 v4_2))]) hx hb dX1_split_17 rfl hl (by decide) rfl (fun ls hl => ?_)
        refine m_iconst X dX1_split_18 ?_
        refine lv_istore (lv' := [(4, .int (z4 0)), (3, .int (z4 o3)), (0, .ref a_t), (1, .int (z4 v4_1)), (2, .int (z4 v4_2))]) hx hb dX1_split_19 hl (by decide) rfl (fun ls hl => ?_)
        obtain ⟨o4, hj4, hr4⟩ := bd_some hb1
        have E4_0 : ∀ (o_ : Int), o4 = o_ → ∀ (H : Heap) (locs : List Loc) (ls : Array Slot), lv_has ls 5 [(0, .ref a_t), (1, .int (z4 v4_1)), (2, .int (z4 v4_2)), (3, .int (z4 o3)), (4, .int (z4 o_))] → va_P D vwCl [(a_t, .inr (1, [.ref a_t_plan, .int (z4 t_pasts), .ref a_t_leads, .ref a_t_part, .ref a_t_finer, .ref a_t_keys, .ref a_t_stateOfPart, .ref a_t_pastOfState, .int (z4 t_states), .ref a_t_steps, .ref a_t_away])), (a_t_leads, .inl (E 0, 320, .inl (A4 t_leads))), (a_t_part, .inl (E 0, 64, .inl (A4 t_part))), (a_t_keys, .inl (E 0, 64, .inl (A4 t_keys_l4))), (a_t_finer, .inl (E 0, 64, .inl (A4 t_finer_l4)))] H → va_D A [(a_t, .inr (1, [.ref a_t_plan, .int (z4 t_pasts), .ref a_t_leads, .ref a_t_part, .ref a_t_finer, .ref a_t_keys, .ref a_t_stateOfPart, .ref a_t_pastOfState, .int (z4 t_states), .ref a_t_steps, .ref a_t_away])), (a_t_leads, .inl (E 0, 320, .inl (A4 t_leads))), (a_t_part, .inl (E 0, 64, .inl (A4 t_part))), (a_t_keys, .inl (E 0, 64, .inl (A4 t_keys_l4))), (a_t_finer, .inl (E 0, 64, .inl (A4 t_finer_l4)))] → va_S A s.heap H locs → W p l e rm_X1_split s m args below meth c H locs 0 0 Q (F0 m 44 ls []) := by
          intro o_ ho_ H locs ls hl hP hD hS
          subst ho_
          refine lv_iload hx hb dX1_split_44 (lv_at hl 4 rfl) ?_
          refine lv_iload_n hx hb dX1_split_46 rfl (lv_at hl 1 rfl) ?_
          obtain ⟨o8, hj8, hr8⟩ := bd_some hr4
          have J8 : ∀ (o_ : Int × (Nat → Int)), o8 = o_ → ∀ (H : Heap) (locs : List Loc) (ls : Array Slot), lv_has ls 5 [(0, .ref a_t), (1, .int (z4 o_.1)), (2, .int (z4 v4_2)), (4, .int (z4 o4))] → va_P D vwCl [(a_t, .inr (1, [.ref a_t_plan, .int (z4 t_pasts), .ref a_t_leads, .ref a_t_part, .ref a_t_finer, .ref a_t_keys, .ref a_t_stateOfPart, .ref a_t_pastOfState, .int (z4 t_states), .ref a_t_steps, .ref a_t_away])), (a_t_leads, .inl (E 0, 320, .inl (A4 t_leads))), (a_t_part, .inl (E 0, 64, .inl (A4 t_part))), (a_t_keys, .inl (E 0, 64, .inl (A4 o_.2))), (a_t_finer, .inl (E 0, 64, .inl (A4 t_finer_l4)))] H → va_D A [(a_t, .inr (1, [.ref a_t_plan, .int (z4 t_pasts), .ref a_t_leads, .ref a_t_part, .ref a_t_finer, .ref a_t_keys, .ref a_t_stateOfPart, .ref a_t_pastOfState, .int (z4 t_states), .ref a_t_steps, .ref a_t_away])), (a_t_leads, .inl (E 0, 320, .inl (A4 t_leads))), (a_t_part, .inl (E 0, 64, .inl (A4 t_part))), (a_t_keys, .inl (E 0, 64, .inl (A4 o_.2))), (a_t_finer, .inl (E 0, 64, .inl (A4 t_finer_l4)))] → va_S A s.heap H locs → W p l e rm_X1_split s m args below meth c H locs 0 0 Q (F0 m 60 ls []) := by
            intro o_ ho_ H locs ls hl hP hD hS
            subst ho_
            refine lv_aload_n hx hb dX1_split_60 rfl (lv_at hl 0 rfl) ?_
            refine m_get X hK hP cl_X1 iT_X1 4 (by decide) fl_X1_25 0 rfl rfl dX1_split_61 ?_
            refine lv_iload_n hx hb dX1_split_64 rfl (lv_at hl 2 rfl) ?_
            refine lv_iload hx hb dX1_split_65 (lv_at hl 3 rfl) ?_
            obtain ⟨h11, hr8⟩ := ck_some hr8
            refine m_iast X hK hP hD hS 4 rfl (by decide) h11 [(a_t, .inr (1, [.ref a_t_plan, .int (z4 t_pasts), .ref a_t_leads, .ref a_t_part, .ref a_t_finer, .ref a_t_keys, .ref a_t_stateOfPart, .ref a_t_pastOfState, .int (z4 t_states), .ref a_t_steps, .ref a_t_away])), (a_t_leads, .inl (E 0, 320, .inl (A4 t_leads))), (a_t_part, .inl (E 0, 64, .inl (A4 t_part))), (a_t_keys, .inl (E 0, 64, .inl (A4 o8.2))), (a_t_finer, .inl (E 0, 64, .inl (A4 (up_ t_finer_l4 (v4_2).toNat o4))))] rfl dX1_split_67 (fun H locs hP hD hS => ?_)
            refine m_iinc X 2 [(2, .int (z4 (v4_2 + 1))), (0, .ref a_t), (1, .int (z4 o8.1)), (4, .int (z4 o4))] dX1_split_68 hl rfl (by decide) rfl (fun ls hl => ?_)
            refine lv_goto (tgt := 4) hx hb dX1_split_71 (by decide) ?_
            obtain rfl := Option.some.inj hr8
            exact ih1 _ _ _ _ _ _ _ (lv_sub hl [1, 2, 0] rfl) hP hD hS hq1
          obtain ⟨h9, hj8⟩ := ck_some hj8
          refine m_icmp_ne X h9 dX1_split_47 (tgt := 60) (by decide) (fun (hc_ : ¬ (o4 = v4_1)) => ?_) (fun (hc_ : o4 = v4_1) => ?_)
          · rw [if_neg hc_] at hj8
            exact J8 _ (Option.some.inj hj8).symm _ _ _ (lv_sub hl [0, 1, 2, 4] rfl) hP hD hS
          · rw [if_pos hc_] at hj8
            refine lv_aload_n hx hb dX1_split_50 rfl (lv_at hl 0 rfl) ?_
            refine m_get X hK hP cl_X1 iT_X1 5 (by decide) fl_X1_28 0 rfl rfl dX1_split_51 ?_
            refine lv_iload_n hx hb dX1_split_54 rfl (lv_at hl 1 rfl) ?_
            refine lv_iload_n hx hb dX1_split_55 rfl (lv_at hl 3 rfl) ?_
            obtain ⟨h10, hj8⟩ := ck_some hj8
            refine m_iast X hK hP hD hS 3 rfl (by decide) h10 [(a_t, .inr (1, [.ref a_t_plan, .int (z4 t_pasts), .ref a_t_leads, .ref a_t_part, .ref a_t_finer, .ref a_t_keys, .ref a_t_stateOfPart, .ref a_t_pastOfState, .int (z4 t_states), .ref a_t_steps, .ref a_t_away])), (a_t_leads, .inl (E 0, 320, .inl (A4 t_leads))), (a_t_part, .inl (E 0, 64, .inl (A4 t_part))), (a_t_keys, .inl (E 0, 64, .inl (A4 (up_ t_keys_l4 (v4_1).toNat o3)))), (a_t_finer, .inl (E 0, 64, .inl (A4 t_finer_l4)))] rfl dX1_split_56 (fun H locs hP hD hS => ?_)
            refine m_iinc X 1 [(1, .int (z4 (v4_1 + 1))), (0, .ref a_t), (2, .int (z4 v4_2)), (3, .int (z4 o3)), (4, .int (z4 o4))] dX1_split_57 hl rfl (by decide) rfl (fun ls hl => ?_)
            exact J8 _ (Option.some.inj hj8).symm _ _ _ (lv_sub hl [1, 0, 2, 4] rfl) hP hD hS
        have L4 : ∀ (k_ : Nat) (v21_4 : Int), ∀ (H : Heap) (locs : List Loc) (ls : Array Slot), lv_has ls 5 [(0, .ref a_t), (1, .int (z4 v4_1)), (2, .int (z4 v4_2)), (3, .int (z4 o3)), (4, .int (z4 v21_4))] → va_P D vwCl [(a_t, .inr (1, [.ref a_t_plan, .int (z4 t_pasts), .ref a_t_leads, .ref a_t_part, .ref a_t_finer, .ref a_t_keys, .ref a_t_stateOfPart, .ref a_t_pastOfState, .int (z4 t_states), .ref a_t_steps, .ref a_t_away])), (a_t_leads, .inl (E 0, 320, .inl (A4 t_leads))), (a_t_part, .inl (E 0, 64, .inl (A4 t_part))), (a_t_keys, .inl (E 0, 64, .inl (A4 t_keys_l4))), (a_t_finer, .inl (E 0, 64, .inl (A4 t_finer_l4)))] H → va_D A [(a_t, .inr (1, [.ref a_t_plan, .int (z4 t_pasts), .ref a_t_leads, .ref a_t_part, .ref a_t_finer, .ref a_t_keys, .ref a_t_stateOfPart, .ref a_t_pastOfState, .int (z4 t_states), .ref a_t_steps, .ref a_t_away])), (a_t_leads, .inl (E 0, 320, .inl (A4 t_leads))), (a_t_part, .inl (E 0, 64, .inl (A4 t_part))), (a_t_keys, .inl (E 0, 64, .inl (A4 t_keys_l4))), (a_t_finer, .inl (E 0, 64, .inl (A4 t_finer_l4)))] → va_S A s.heap H locs → lp_ (fun (q : Int) => F_X1_split_L21 n v4_1 t_keys_l4 o3 q) k_ v21_4 = some o4 → W p l e rm_X1_split s m args below meth c H locs 0 0 Q (F0 m 21 ls []) := by
          intro k_
          induction k_ with
          | zero =>
            intro v21_4 H locs ls hl hP hD hS hq_; exact (lp_zero hq_).elim
          | succ k_ ih4 =>
            intro v21_4 H locs ls hl hP hD hS hq_
            obtain ⟨t_4, hb4, hq4⟩ := lp_some hq_
            replace hb4 : F_X1_split_L21 n v4_1 t_keys_l4 o3 v21_4 = some t_4 := hb4
            unfold F_X1_split_L21 at hb4
            refine lv_iload hx hb dX1_split_21 (lv_at hl 4 rfl) ?_
            refine lv_iload_n hx hb dX1_split_23 rfl (lv_at hl 1 rfl) ?_
            obtain ⟨h5, hb4⟩ := ck_some hb4
            refine m_icmp_ge X h5 dX1_split_24 (tgt := 44) (by decide) (fun (hc_ : ¬ (v21_4 < v4_1)) => ?_) (fun (hc_ : v21_4 < v4_1) => ?_)
            · rw [if_neg hc_] at hb4
              obtain rfl := Option.some.inj hb4
              exact E4_0 _ (Option.some.inj hq4).symm _ _ _ (lv_sub hl [0, 1, 2, 3, 4] rfl) hP hD hS
            · rw [if_pos hc_] at hb4
              refine lv_aload_n hx hb dX1_split_27 rfl (lv_at hl 0 rfl) ?_
              refine m_get X hK hP cl_X1 iT_X1 5 (by decide) fl_X1_28 0 rfl rfl dX1_split_28 ?_
              refine lv_iload hx hb dX1_split_31 (lv_at hl 4 rfl) ?_
              obtain ⟨h6, hb4⟩ := ck_some hb4
              refine m_iald X hK hP 3 rfl (by decide) h6 dX1_split_33 ?_
              refine lv_iload_n hx hb dX1_split_34 rfl (lv_at hl 3 rfl) ?_
              obtain ⟨h7, hb4⟩ := ck_some hb4
              refine m_icmp_eq X h7 dX1_split_35 (tgt := 44) (by decide) (fun (hc_ : t_keys_l4 (v21_4).toNat = o3) => ?_) (fun (hc_ : ¬ (t_keys_l4 (v21_4).toNat = o3)) => ?_)
              · rw [if_pos hc_] at hb4
                obtain rfl := Option.some.inj hb4
                exact E4_0 _ (Option.some.inj hq4).symm _ _ _ (lv_sub hl [0, 1, 2, 3, 4] rfl) hP hD hS
              · rw [if_neg hc_] at hb4
                refine m_iinc X 4 [(4, .int (z4 (v21_4 + 1))), (0, .ref a_t), (1, .int (z4 v4_1)), (2, .int (z4 v4_2)), (3, .int (z4 o3))] dX1_split_38 hl rfl (by decide) rfl (fun ls hl => ?_)
                refine lv_goto (tgt := 21) hx hb dX1_split_41 (by decide) ?_
                obtain rfl := Option.some.inj hb4
                exact ih4 _ _ _ _ (lv_sub hl [1, 2, 3, 4, 0] rfl) hP hD hS hq4
        exact L4 n _ _ _ _ (lv_sub hl [2, 3, 4, 1, 0] rfl) hP hD hS hj4
  exact L1 n _ _ _ _ _ _ _ (lv_sub hl [2, 1, 0] rfl) hP hD hS hj1
def F_X1_stateOf (n : Nat)  (t_states : Int) (t_part : Nat → Int) (t_stateOfPart : Nat → Int) (t_pastOfState : Nat → Int) (x1 : Int) : Option (Int × Int × (Nat → Int) × (Nat → Int)) :=
  ck (ix_ x1 64) <|
  ck (ix_ (t_part (x1).toNat) 64) <|
  Option.bind (α := Int × (Nat → Int) × (Nat → Int)) (
    ck (r4 (t_stateOfPart (t_part (x1).toNat).toNat)) <|
    if t_stateOfPart (t_part (x1).toNat).toNat < 0 then
      ck (r4 t_states) <|
      if t_states < 64 then
        ck (ix_ (t_part (x1).toNat) 64) <|
        ck (ix_ t_states 64) <|
        some (t_states + 1, up_ t_stateOfPart (t_part (x1).toNat).toNat t_states, up_ t_pastOfState (t_states).toNat x1)
      else
        some (t_states, t_stateOfPart, t_pastOfState)
    else
      some (t_states, t_stateOfPart, t_pastOfState)) fun o3 =>
  ck (ix_ (t_part (x1).toNat) 64) <|
  some (o3.2.1 (t_part (x1).toNat).toNat, o3.1, o3.2.1, o3.2.2)
def rm_X1_stateOf : Room := { frames := 0, cells := 0, slots := 0, locals := 0 }
set_option maxHeartbeats 4000000 in
set_option maxRecDepth 100000 in
theorem k_X1_stateOf {l : Launch} {D : va_G} {E : Nat → ClassId} (n : Nat) (a_t a_t_plan a_t_leads a_t_part a_t_finer a_t_keys a_t_stateOfPart a_t_pastOfState a_t_steps a_t_away : Nat) (t_pasts : Int) (t_states : Int) (t_part : Nat → Int) (t_stateOfPart : Nat → Int) (t_pastOfState : Nat → Int) (x1 : Int) (res : Int × Int × (Nat → Int) × (Nat → Int)) (hf : F_X1_stateOf n t_states t_part t_stateOfPart t_pastOfState x1 = some res) : MW l yX1_stateOf (.code yX1_stateOf cX1_stateOf 3 (some .int)) rm_X1_stateOf D E [.ref a_t, .int (z4 x1)] [(a_t, .inr (1, [.ref a_t_plan, .int (z4 t_pasts), .ref a_t_leads, .ref a_t_part, .ref a_t_finer, .ref a_t_keys, .ref a_t_stateOfPart, .ref a_t_pastOfState, .int (z4 t_states), .ref a_t_steps, .ref a_t_away])), (a_t_part, .inl (E 0, 64, .inl (A4 t_part))), (a_t_stateOfPart, .inl (E 0, 64, .inl (A4 t_stateOfPart))), (a_t_pastOfState, .inl (E 0, 64, .inl (A4 t_pastOfState)))] (some (.int (z4 res.1))) [(a_t, .inr (1, [.ref a_t_plan, .int (z4 t_pasts), .ref a_t_leads, .ref a_t_part, .ref a_t_finer, .ref a_t_keys, .ref a_t_stateOfPart, .ref a_t_pastOfState, .int (z4 res.2.1), .ref a_t_steps, .ref a_t_away])), (a_t_part, .inl (E 0, 64, .inl (A4 t_part))), (a_t_stateOfPart, .inl (E 0, 64, .inl (A4 res.2.2.1))), (a_t_pastOfState, .inl (E 0, 64, .inl (A4 res.2.2.2)))] := by
  refine MWi (by decide) (Nat.le_of_ble_eq_true rfl) ?_
  intro p e s m args below meth c A Q X hK hP hD hA ret ls hl
  have hS : va_S A s.heap s.heap [] := va_S.rf
  have hx := X.1
  have hb := X.2.1
  have hl : lv_has ls 3 [(0, .ref a_t), (1, .int (z4 x1))] := hl
  unfold F_X1_stateOf at hf
  refine lv_aload_n hx hb dX1_stateOf_0 rfl (lv_at hl 0 rfl) ?_
  refine m_get X hK hP cl_X1 iT_X1 3 (by decide) fl_X1_22 0 rfl rfl dX1_stateOf_1 ?_
  refine lv_iload_n hx hb dX1_stateOf_4 rfl (lv_at hl 1 rfl) ?_
  obtain ⟨h1, hf⟩ := ck_some hf
  refine m_iald X hK hP 1 rfl (by decide) h1 dX1_stateOf_5 ?_
  refine lv_istore_n (lv' := [(2, .int (z4 (t_part (x1).toNat))), (0, .ref a_t), (1, .int (z4 x1))]) hx hb dX1_stateOf_6 rfl hl (by decide) rfl (fun ls hl => ?_)
  refine lv_aload_n hx hb dX1_stateOf_7 rfl (lv_at hl 1 rfl) ?_
  refine m_get X hK hP cl_X1 iT_X1 6 (by decide) fl_X1_31 0 rfl rfl dX1_stateOf_8 ?_
  refine lv_iload_n hx hb dX1_stateOf_11 rfl (lv_at hl 0 rfl) ?_
  obtain ⟨h2, hf⟩ := ck_some hf
  refine m_iald X hK hP 2 rfl (by decide) h2 dX1_stateOf_12 ?_
  obtain ⟨o3, hj3, hr3⟩ := bd_some hf
  have J3 : ∀ (o_ : Int × (Nat → Int) × (Nat → Int)), o3 = o_ → ∀ (H : Heap) (locs : List Loc) (ls : Array Slot), lv_has ls 3 [(0, .ref a_t), (2, .int (z4 (t_part (x1).toNat)))] → va_P D vwCl [(a_t, .inr (1, [.ref a_t_plan, .int (z4 t_pasts), .ref a_t_leads, .ref a_t_part, .ref a_t_finer, .ref a_t_keys, .ref a_t_stateOfPart, .ref a_t_pastOfState, .int (z4 o_.1), .ref a_t_steps, .ref a_t_away])), (a_t_part, .inl (E 0, 64, .inl (A4 t_part))), (a_t_stateOfPart, .inl (E 0, 64, .inl (A4 o_.2.1))), (a_t_pastOfState, .inl (E 0, 64, .inl (A4 o_.2.2)))] H → va_D A [(a_t, .inr (1, [.ref a_t_plan, .int (z4 t_pasts), .ref a_t_leads, .ref a_t_part, .ref a_t_finer, .ref a_t_keys, .ref a_t_stateOfPart, .ref a_t_pastOfState, .int (z4 o_.1), .ref a_t_steps, .ref a_t_away])), (a_t_part, .inl (E 0, 64, .inl (A4 t_part))), (a_t_stateOfPart, .inl (E 0, 64, .inl (A4 o_.2.1))), (a_t_pastOfState, .inl (E 0, 64, .inl (A4 o_.2.2)))] → va_S A s.heap H locs → W p l e rm_X1_stateOf s m args below meth c H locs 0 0 Q (F0 m 55 ls []) := by
    intro o_ ho_ H locs ls hl hP hD hS
    subst ho_
    refine lv_aload_n hx hb dX1_stateOf_55 rfl (lv_at hl 0 rfl) ?_
    refine m_get X hK hP cl_X1 iT_X1 6 (by decide) fl_X1_31 0 rfl rfl dX1_stateOf_56 ?_
    refine lv_iload_n hx hb dX1_stateOf_59 rfl (lv_at hl 1 rfl) ?_
    obtain ⟨h8, hr3⟩ := ck_some hr3
    refine m_iald X hK hP 2 rfl (by decide) h8 dX1_stateOf_60 ?_
    obtain rfl := Option.some.inj hr3
    exact ret _ _ _ _ hP hD hS dX1_stateOf_61
  obtain ⟨h4, hj3⟩ := ck_some hj3
  refine m_if_ge X h4 dX1_stateOf_13 (tgt := 55) (by decide) (fun (hc_ : ¬ (t_stateOfPart (t_part (x1).toNat).toNat < 0)) => ?_) (fun (hc_ : t_stateOfPart (t_part (x1).toNat).toNat < 0) => ?_)
  · rw [if_neg hc_] at hj3
    exact J3 _ (Option.some.inj hj3).symm _ _ _ (lv_sub hl [1, 0] rfl) hP hD hS
  · rw [if_pos hc_] at hj3
    refine lv_aload_n hx hb dX1_stateOf_16 rfl (lv_at hl 1 rfl) ?_
    refine m_get X hK hP cl_X1 iT_X1 8 (by decide) fl_X1_102 0 rfl rfl dX1_stateOf_17 ?_
    refine m_bipush X dX1_stateOf_20 (by decide) ?_
    obtain ⟨h5, hj3⟩ := ck_some hj3
    refine m_icmp_ge X ⟨h5, ⟨by decide, by decide⟩⟩ dX1_stateOf_22 (tgt := 55) (by decide) (fun (hc_ : ¬ (t_states < 64)) => ?_) (fun (hc_ : t_states < 64) => ?_)
    · rw [if_neg hc_] at hj3
      exact J3 _ (Option.some.inj hj3).symm _ _ _ (lv_sub hl [1, 0] rfl) hP hD hS
    · rw [if_pos hc_] at hj3
      refine lv_aload_n hx hb dX1_stateOf_25 rfl (lv_at hl 1 rfl) ?_
      refine m_get X hK hP cl_X1 iT_X1 6 (by decide) fl_X1_31 0 rfl rfl dX1_stateOf_26 ?_
      refine lv_iload_n hx hb dX1_stateOf_29 rfl (lv_at hl 0 rfl) ?_
      refine lv_aload_n hx hb dX1_stateOf_30 rfl (lv_at hl 1 rfl) ?_
      refine m_get X hK hP cl_X1 iT_X1 8 (by decide) fl_X1_102 0 rfl rfl dX1_stateOf_31 ?_
      obtain ⟨h6, hj3⟩ := ck_some hj3
      refine m_iast X hK hP hD hS 2 rfl (by decide) h6 [(a_t, .inr (1, [.ref a_t_plan, .int (z4 t_pasts), .ref a_t_leads, .ref a_t_part, .ref a_t_finer, .ref a_t_keys, .ref a_t_stateOfPart, .ref a_t_pastOfState, .int (z4 t_states), .ref a_t_steps, .ref a_t_away])), (a_t_part, .inl (E 0, 64, .inl (A4 t_part))), (a_t_stateOfPart, .inl (E 0, 64, .inl (A4 (up_ t_stateOfPart (t_part (x1).toNat).toNat t_states)))), (a_t_pastOfState, .inl (E 0, 64, .inl (A4 t_pastOfState)))] rfl dX1_stateOf_34 (fun H locs hP hD hS => ?_)
      refine lv_aload_n hx hb dX1_stateOf_35 rfl (lv_at hl 1 rfl) ?_
      refine m_get X hK hP cl_X1 iT_X1 7 (by decide) fl_X1_34 0 rfl rfl dX1_stateOf_36 ?_
      refine lv_aload_n hx hb dX1_stateOf_39 rfl (lv_at hl 1 rfl) ?_
      refine m_get X hK hP cl_X1 iT_X1 8 (by decide) fl_X1_102 0 rfl rfl dX1_stateOf_40 ?_
      refine lv_iload_n hx hb dX1_stateOf_43 rfl (lv_at hl 2 rfl) ?_
      obtain ⟨h7, hj3⟩ := ck_some hj3
      refine m_iast X hK hP hD hS 3 rfl (by decide) h7 [(a_t, .inr (1, [.ref a_t_plan, .int (z4 t_pasts), .ref a_t_leads, .ref a_t_part, .ref a_t_finer, .ref a_t_keys, .ref a_t_stateOfPart, .ref a_t_pastOfState, .int (z4 t_states), .ref a_t_steps, .ref a_t_away])), (a_t_part, .inl (E 0, 64, .inl (A4 t_part))), (a_t_stateOfPart, .inl (E 0, 64, .inl (A4 (up_ t_stateOfPart (t_part (x1).toNat).toNat t_states)))), (a_t_pastOfState, .inl (E 0, 64, .inl (A4 (up_ t_pastOfState (t_states).toNat x1))))] rfl dX1_stateOf_44 (fun H locs hP hD hS => ?_)
      refine lv_aload_n hx hb dX1_stateOf_45 rfl (lv_at hl 1 rfl) ?_
      refine lv_dup hx hb dX1_stateOf_46 rfl ?_
      refine m_get X hK hP cl_X1 iT_X1 8 (by decide) fl_X1_102 0 rfl rfl dX1_stateOf_47 ?_
      refine m_iconst X dX1_stateOf_50 ?_
      refine m_iadd X dX1_stateOf_51 ?_
      refine m_put X hK hP hD hS cl_X1 iT_X1 tyX1 tyX1_ok nmX1 8 (by decide) fl_X1_102 rfl 0 rfl rfl rfl (Nat.le_of_ble_eq_true rfl) [(a_t, .inr (1, [.ref a_t_plan, .int (z4 t_pasts), .ref a_t_leads, .ref a_t_part, .ref a_t_finer, .ref a_t_keys, .ref a_t_stateOfPart, .ref a_t_pastOfState, .int (z4 (t_states + 1)), .ref a_t_steps, .ref a_t_away])), (a_t_part, .inl (E 0, 64, .inl (A4 t_part))), (a_t_stateOfPart, .inl (E 0, 64, .inl (A4 (up_ t_stateOfPart (t_part (x1).toNat).toNat t_states)))), (a_t_pastOfState, .inl (E 0, 64, .inl (A4 (up_ t_pastOfState (t_states).toNat x1))))] rfl dX1_stateOf_52 (fun H locs hP hD hS => ?_)
      exact J3 _ (Option.some.inj hj3).symm _ _ _ (lv_sub hl [1, 0] rfl) hP hD hS
def F_X1_numberStates_L37 (n : Nat) (v21_1 : Int) (t_leads : Nat → Int) (t_part : Nat → Int) (v37_2 : Int) (t_states_l37 : Int) (t_stateOfPart_l37 : Nat → Int) (t_pastOfState_l37 : Nat → Int) (t_steps_l37 : Nat → Int) : Option ((Int × Int × (Nat → Int) × (Nat → Int) × (Nat → Int)) ⊕ (Int × (Nat → Int) × (Nat → Int) × (Nat → Int))) :=
  ck (r4 v37_2) <|
  if v37_2 < 5 then
    ck (ix_ v21_1 64) <|
    ck (ix_ (((t_pastOfState_l37 (v21_1).toNat) * 5) + v37_2) 320) <|
    Option.bind (α := Int × Int × (Nat → Int) × (Nat → Int)) (
      ck (r4 (t_leads (((t_pastOfState_l37 (v21_1).toNat) * 5) + v37_2).toNat)) <|
      if t_leads (((t_pastOfState_l37 (v21_1).toNat) * 5) + v37_2).toNat = (-5) then
        some ((-5), t_states_l37, t_stateOfPart_l37, t_pastOfState_l37)
      else
        (F_X1_stateOf n t_states_l37 t_part t_stateOfPart_l37 t_pastOfState_l37 (t_leads (((t_pastOfState_l37 (v21_1).toNat) * 5) + v37_2).toNat)).bind fun o12 =>
        some (o12.1, o12.2.1, o12.2.2.1, o12.2.2.2)) fun o10 =>
    ck (ix_ ((v21_1 * 5) + v37_2) 320) <|
    some (.inl (v37_2 + 1, o10.2.1, o10.2.2.1, o10.2.2.2, up_ t_steps_l37 ((v21_1 * 5) + v37_2).toNat o10.1))
  else
    some (.inr (t_states_l37, t_stateOfPart_l37, t_pastOfState_l37, t_steps_l37))
def F_X1_numberStates_L21 (n : Nat) (t_leads : Nat → Int) (t_part : Nat → Int) (v21_1 : Int) (t_states_l21 : Int) (t_stateOfPart_l21 : Nat → Int) (t_pastOfState_l21 : Nat → Int) (t_steps_l21 : Nat → Int) : Option ((Int × Int × (Nat → Int) × (Nat → Int) × (Nat → Int)) ⊕ (Int × (Nat → Int) × (Nat → Int) × (Nat → Int))) :=
  ck (r4 v21_1 ∧ r4 t_states_l21) <|
  if v21_1 < t_states_l21 then
    ck (r4 v21_1) <|
    if v21_1 < 64 then
      (lp_ (fun (q : Int × Int × (Nat → Int) × (Nat → Int) × (Nat → Int)) => F_X1_numberStates_L37 n v21_1 t_leads t_part q.1 q.2.1 q.2.2.1 q.2.2.2.1 q.2.2.2.2) n (0, t_states_l21, t_stateOfPart_l21, t_pastOfState_l21, t_steps_l21)).bind fun o6 =>
      some (.inl (v21_1 + 1, o6.1, o6.2.1, o6.2.2.1, o6.2.2.2))
    else
      some (.inr (t_states_l21, t_stateOfPart_l21, t_pastOfState_l21, t_steps_l21))
  else
    some (.inr (t_states_l21, t_stateOfPart_l21, t_pastOfState_l21, t_steps_l21))
def F_X1_numberStates (n : Nat)  (t_stateOfPart : Nat → Int) (t_part : Nat → Int) (t_pastOfState : Nat → Int) (t_leads : Nat → Int) (t_steps : Nat → Int)  : Option (Int × (Nat → Int) × (Nat → Int) × (Nat → Int)) :=
  (F_J7_fill_53178 n 64 t_stateOfPart (-1)).bind fun o1 =>
  (F_X1_stateOf n 0 t_part o1 t_pastOfState 0).bind fun o2 =>
  (lp_ (fun (q : Int × Int × (Nat → Int) × (Nat → Int) × (Nat → Int)) => F_X1_numberStates_L21 n t_leads t_part q.1 q.2.1 q.2.2.1 q.2.2.2.1 q.2.2.2.2) n (0, o2.2.1, o2.2.2.1, o2.2.2.2, t_steps)).bind fun o3 =>
  some (o3.1, o3.2.1, o3.2.2.1, o3.2.2.2)
def rm_X1_numberStates : Room := { frames := 1, cells := 0, slots := 0, locals := 23 }
set_option maxHeartbeats 4000000 in
set_option maxRecDepth 100000 in
theorem k_X1_numberStates {l : Launch} {D : va_G} {E : Nat → ClassId} (n : Nat) (a_t a_t_plan a_t_leads a_t_part a_t_finer a_t_keys a_t_stateOfPart a_t_pastOfState a_t_steps a_t_away : Nat) (t_pasts : Int) (t_states : Int) (t_stateOfPart : Nat → Int) (t_part : Nat → Int) (t_pastOfState : Nat → Int) (t_leads : Nat → Int) (t_steps : Nat → Int) (res : Int × (Nat → Int) × (Nat → Int) × (Nat → Int)) (hf : F_X1_numberStates n t_stateOfPart t_part t_pastOfState t_leads t_steps = some res) : MW l yX1_numberStates (.code yX1_numberStates cX1_numberStates 4 none) rm_X1_numberStates D E [.ref a_t] [(a_t, .inr (1, [.ref a_t_plan, .int (z4 t_pasts), .ref a_t_leads, .ref a_t_part, .ref a_t_finer, .ref a_t_keys, .ref a_t_stateOfPart, .ref a_t_pastOfState, .int (z4 t_states), .ref a_t_steps, .ref a_t_away])), (a_t_stateOfPart, .inl (E 0, 64, .inl (A4 t_stateOfPart))), (a_t_part, .inl (E 0, 64, .inl (A4 t_part))), (a_t_pastOfState, .inl (E 0, 64, .inl (A4 t_pastOfState))), (a_t_leads, .inl (E 0, 320, .inl (A4 t_leads))), (a_t_steps, .inl (E 0, 320, .inl (A4 t_steps)))] none [(a_t, .inr (1, [.ref a_t_plan, .int (z4 t_pasts), .ref a_t_leads, .ref a_t_part, .ref a_t_finer, .ref a_t_keys, .ref a_t_stateOfPart, .ref a_t_pastOfState, .int (z4 res.1), .ref a_t_steps, .ref a_t_away])), (a_t_stateOfPart, .inl (E 0, 64, .inl (A4 res.2.1))), (a_t_part, .inl (E 0, 64, .inl (A4 t_part))), (a_t_pastOfState, .inl (E 0, 64, .inl (A4 res.2.2.1))), (a_t_leads, .inl (E 0, 320, .inl (A4 t_leads))), (a_t_steps, .inl (E 0, 320, .inl (A4 res.2.2.2)))] := by
  refine MWv (by decide) (Nat.le_of_ble_eq_true rfl) ?_
  intro p e s m args below meth c A Q X hK hP hD hA ret ls hl
  have hS : va_S A s.heap s.heap [] := va_S.rf
  have hx := X.1
  have hb := X.2.1
  have hl : lv_has ls 4 [(0, .ref a_t)] := hl
  unfold F_X1_numberStates at hf
  refine lv_aload_n hx hb dX1_numberStates_0 rfl (lv_at hl 0 rfl) ?_
  refine m_get X hK hP cl_X1 iT_X1 6 (by decide) fl_X1_31 0 rfl rfl dX1_numberStates_1 ?_
  refine m_iconst X dX1_numberStates_4 ?_
  obtain ⟨o1, ho, hf⟩ := bd_some hf
  refine m_cSW X hK hP hD hS hA (wr := [(a_t, .inr (1, [.ref a_t_plan, .int (z4 t_pasts), .ref a_t_leads, .ref a_t_part, .ref a_t_finer, .ref a_t_keys, .ref a_t_stateOfPart, .ref a_t_pastOfState, .int (z4 t_states), .ref a_t_steps, .ref a_t_away])), (a_t_part, .inl (E 0, 64, .inl (A4 t_part))), (a_t_pastOfState, .inl (E 0, 64, .inl (A4 t_pastOfState))), (a_t_leads, .inl (E 0, 320, .inl (A4 t_leads))), (a_t_steps, .inl (E 0, 320, .inl (A4 t_steps)))]) (k_J7_fill_53178 n a_t_stateOfPart 64 (by decide) t_stateOfPart (-1) o1 ho) [1] [0, 2, 3, 4, 5] [0, 5, 1, 2, 3, 4] [(a_t, .inr (1, [.ref a_t_plan, .int (z4 t_pasts), .ref a_t_leads, .ref a_t_part, .ref a_t_finer, .ref a_t_keys, .ref a_t_stateOfPart, .ref a_t_pastOfState, .int (z4 t_states), .ref a_t_steps, .ref a_t_away])), (a_t_stateOfPart, .inl (E 0, 64, .inl (A4 o1))), (a_t_part, .inl (E 0, 64, .inl (A4 t_part))), (a_t_pastOfState, .inl (E 0, 64, .inl (A4 t_pastOfState))), (a_t_leads, .inl (E 0, 320, .inl (A4 t_leads))), (a_t_steps, .inl (E 0, 320, .inl (A4 t_steps)))] rfl rfl rfl rfl (by decide) rfl rfl lk_X1_74 co_J7_fill_53178 dy_J7_fill_53178 rfl rfl ⟨Nat.le_of_ble_eq_true rfl, Nat.le_of_ble_eq_true rfl⟩ hl.1 rfl (Nat.le_of_ble_eq_true rfl) dX1_numberStates_5 (Nat.zero_le _) (Nat.zero_le _) (fun H locs hP hD hS => ?_)
  refine lv_aload_n hx hb dX1_numberStates_8 rfl (lv_at hl 0 rfl) ?_
  refine m_iconst X dX1_numberStates_9 ?_
  refine m_put X hK hP hD hS cl_X1 iT_X1 tyX1 tyX1_ok nmX1 8 (by decide) fl_X1_102 rfl 0 rfl rfl rfl (Nat.le_of_ble_eq_true rfl) [(a_t, .inr (1, [.ref a_t_plan, .int (z4 t_pasts), .ref a_t_leads, .ref a_t_part, .ref a_t_finer, .ref a_t_keys, .ref a_t_stateOfPart, .ref a_t_pastOfState, .int (z4 0), .ref a_t_steps, .ref a_t_away])), (a_t_stateOfPart, .inl (E 0, 64, .inl (A4 o1))), (a_t_part, .inl (E 0, 64, .inl (A4 t_part))), (a_t_pastOfState, .inl (E 0, 64, .inl (A4 t_pastOfState))), (a_t_leads, .inl (E 0, 320, .inl (A4 t_leads))), (a_t_steps, .inl (E 0, 320, .inl (A4 t_steps)))] rfl dX1_numberStates_10 (fun H locs hP hD hS => ?_)
  refine lv_aload_n hx hb dX1_numberStates_13 rfl (lv_at hl 0 rfl) ?_
  refine m_iconst X dX1_numberStates_14 ?_
  obtain ⟨o2, ho, hf⟩ := bd_some hf
  refine m_cVW X hK hP hD hS hA (wr := [(a_t_leads, .inl (E 0, 320, .inl (A4 t_leads))), (a_t_steps, .inl (E 0, 320, .inl (A4 t_steps)))]) (k_X1_stateOf n a_t a_t_plan a_t_leads a_t_part a_t_finer a_t_keys a_t_stateOfPart a_t_pastOfState a_t_steps a_t_away t_pasts 0 t_part o1 t_pastOfState 0 o2 ho) [0, 2, 1, 3] [4, 5] [2, 4, 3, 5, 0, 1] [(a_t, .inr (1, [.ref a_t_plan, .int (z4 t_pasts), .ref a_t_leads, .ref a_t_part, .ref a_t_finer, .ref a_t_keys, .ref a_t_stateOfPart, .ref a_t_pastOfState, .int (z4 o2.2.1), .ref a_t_steps, .ref a_t_away])), (a_t_stateOfPart, .inl (E 0, 64, .inl (A4 o2.2.2.1))), (a_t_part, .inl (E 0, 64, .inl (A4 t_part))), (a_t_pastOfState, .inl (E 0, 64, .inl (A4 o2.2.2.2))), (a_t_leads, .inl (E 0, 320, .inl (A4 t_leads))), (a_t_steps, .inl (E 0, 320, .inl (A4 t_steps)))] rfl rfl rfl rfl (by decide) rfl rfl rfl cl_X1 lk_X1_105 co_X1_stateOf dy_X1_stateOf rfl rfl ⟨Nat.le_of_ble_eq_true rfl, Nat.le_of_ble_eq_true rfl⟩ hl.1 rfl (Nat.le_of_ble_eq_true rfl) dX1_numberStates_15 (Nat.zero_le _) (Nat.zero_le _) (fun H locs hP hD hS => ?_)
  refine lv_pop hx hb dX1_numberStates_18 rfl ?_
  refine m_iconst X dX1_numberStates_19 ?_
  refine lv_istore_n (lv' := [(1, .int (z4 0)), (0, .ref a_t)]) hx hb dX1_numberStates_20 rfl hl (by decide) rfl (fun ls hl => ?_)
  obtain ⟨o3, hj3, hr3⟩ := bd_some hf
  have E3_0 : ∀ (o_ : Int × (Nat → Int) × (Nat → Int) × (Nat → Int)), o3 = o_ → ∀ (H : Heap) (locs : List Loc) (ls : Array Slot), lv_has ls 4 [] → va_P D vwCl [(a_t, .inr (1, [.ref a_t_plan, .int (z4 t_pasts), .ref a_t_leads, .ref a_t_part, .ref a_t_finer, .ref a_t_keys, .ref a_t_stateOfPart, .ref a_t_pastOfState, .int (z4 o_.1), .ref a_t_steps, .ref a_t_away])), (a_t_stateOfPart, .inl (E 0, 64, .inl (A4 o_.2.1))), (a_t_part, .inl (E 0, 64, .inl (A4 t_part))), (a_t_pastOfState, .inl (E 0, 64, .inl (A4 o_.2.2.1))), (a_t_leads, .inl (E 0, 320, .inl (A4 t_leads))), (a_t_steps, .inl (E 0, 320, .inl (A4 o_.2.2.2)))] H → va_D A [(a_t, .inr (1, [.ref a_t_plan, .int (z4 t_pasts), .ref a_t_leads, .ref a_t_part, .ref a_t_finer, .ref a_t_keys, .ref a_t_stateOfPart, .ref a_t_pastOfState, .int (z4 o_.1), .ref a_t_steps, .ref a_t_away])), (a_t_stateOfPart, .inl (E 0, 64, .inl (A4 o_.2.1))), (a_t_part, .inl (E 0, 64, .inl (A4 t_part))), (a_t_pastOfState, .inl (E 0, 64, .inl (A4 o_.2.2.1))), (a_t_leads, .inl (E 0, 320, .inl (A4 t_leads))), (a_t_steps, .inl (E 0, 320, .inl (A4 o_.2.2.2)))] → va_S A s.heap H locs → W p l e rm_X1_numberStates s m args below meth c H locs 0 0 Q (F0 m 96 ls []) := by
    intro o_ ho_ H locs ls hl hP hD hS
    subst ho_
    obtain rfl := Option.some.inj hr3
    exact ret _ _ _ _ hP hD hS dX1_numberStates_96
  have L3 : ∀ (k_ : Nat) (v21_1 : Int) (t_states_l21 : Int) (t_stateOfPart_l21 : Nat → Int) (t_pastOfState_l21 : Nat → Int) (t_steps_l21 : Nat → Int), ∀ (H : Heap) (locs : List Loc) (ls : Array Slot), lv_has ls 4 [(0, .ref a_t), (1, .int (z4 v21_1))] → va_P D vwCl [(a_t, .inr (1, [.ref a_t_plan, .int (z4 t_pasts), .ref a_t_leads, .ref a_t_part, .ref a_t_finer, .ref a_t_keys, .ref a_t_stateOfPart, .ref a_t_pastOfState, .int (z4 t_states_l21), .ref a_t_steps, .ref a_t_away])), (a_t_stateOfPart, .inl (E 0, 64, .inl (A4 t_stateOfPart_l21))), (a_t_part, .inl (E 0, 64, .inl (A4 t_part))), (a_t_pastOfState, .inl (E 0, 64, .inl (A4 t_pastOfState_l21))), (a_t_leads, .inl (E 0, 320, .inl (A4 t_leads))), (a_t_steps, .inl (E 0, 320, .inl (A4 t_steps_l21)))] H → va_D A [(a_t, .inr (1, [.ref a_t_plan, .int (z4 t_pasts), .ref a_t_leads, .ref a_t_part, .ref a_t_finer, .ref a_t_keys, .ref a_t_stateOfPart, .ref a_t_pastOfState, .int (z4 t_states_l21), .ref a_t_steps, .ref a_t_away])), (a_t_stateOfPart, .inl (E 0, 64, .inl (A4 t_stateOfPart_l21))), (a_t_part, .inl (E 0, 64, .inl (A4 t_part))), (a_t_pastOfState, .inl (E 0, 64, .inl (A4 t_pastOfState_l21))), (a_t_leads, .inl (E 0, 320, .inl (A4 t_leads))), (a_t_steps, .inl (E 0, 320, .inl (A4 t_steps_l21)))] → va_S A s.heap H locs → lp_ (fun (q : Int × Int × (Nat → Int) × (Nat → Int) × (Nat → Int)) => F_X1_numberStates_L21 n t_leads t_part q.1 q.2.1 q.2.2.1 q.2.2.2.1 q.2.2.2.2) k_ (v21_1, t_states_l21, t_stateOfPart_l21, t_pastOfState_l21, t_steps_l21) = some o3 → W p l e rm_X1_numberStates s m args below meth c H locs 0 0 Q (F0 m 21 ls []) := by
    intro k_
    induction k_ with
    | zero =>
      intro v21_1 t_states_l21 t_stateOfPart_l21 t_pastOfState_l21 t_steps_l21 H locs ls hl hP hD hS hq_; exact (lp_zero hq_).elim
    | succ k_ ih3 =>
      intro v21_1 t_states_l21 t_stateOfPart_l21 t_pastOfState_l21 t_steps_l21 H locs ls hl hP hD hS hq_
      obtain ⟨t_3, hb3, hq3⟩ := lp_some hq_
      replace hb3 : F_X1_numberStates_L21 n t_leads t_part v21_1 t_states_l21 t_stateOfPart_l21 t_pastOfState_l21 t_steps_l21 = some t_3 := hb3
      unfold F_X1_numberStates_L21 at hb3
      refine lv_iload_n hx hb dX1_numberStates_21 rfl (lv_at hl 1 rfl) ?_
      refine lv_aload_n hx hb dX1_numberStates_22 rfl (lv_at hl 0 rfl) ?_
      refine m_get X hK hP cl_X1 iT_X1 8 (by decide) fl_X1_102 0 rfl rfl dX1_numberStates_23 ?_
      obtain ⟨h4, hb3⟩ := ck_some hb3
      refine m_icmp_ge X h4 dX1_numberStates_26 (tgt := 96) (by decide) (fun (hc_ : ¬ (v21_1 < t_states_l21)) => ?_) (fun (hc_ : v21_1 < t_states_l21) => ?_)
      · rw [if_neg hc_] at hb3
        obtain rfl := Option.some.inj hb3
        exact E3_0 _ (Option.some.inj hq3).symm _ _ _ (lv_sub hl [] rfl) hP hD hS
      · rw [if_pos hc_] at hb3
        refine lv_iload_n hx hb dX1_numberStates_29 rfl (lv_at hl 1 rfl) ?_
        refine m_bipush X dX1_numberStates_30 (by decide) ?_
        obtain ⟨h5, hb3⟩ := ck_some hb3
        refine m_icmp_ge X ⟨h5, ⟨by decide, by decide⟩⟩ dX1_numberStates_32 (tgt := 96) (by decide) (fun (hc_ : ¬ (v21_1 < 64)) => ?_) (fun (hc_ : v21_1 < 64) => ?_)
        · rw [if_neg hc_] at hb3
          obtain rfl := Option.some.inj hb3
          exact E3_0 _ (Option.some.inj hq3).symm _ _ _ (lv_sub hl [] rfl) hP hD hS
        · rw [if_pos hc_] at hb3
          refine m_iconst X dX1_numberStates_35 ?_
          refine lv_istore_n (lv' := [(2, .int (z4 0)), (0, .ref a_t), (1, .int (z4 v21_1))]) hx hb dX1_numberStates_36 rfl hl (by decide) rfl (fun ls hl => ?_)
          obtain ⟨o6, hj6, hr6⟩ := bd_some hb3
          have E6_0 : ∀ (o_ : Int × (Nat → Int) × (Nat → Int) × (Nat → Int)), o6 = o_ → ∀ (H : Heap) (locs : List Loc) (ls : Array Slot), lv_has ls 4 [(0, .ref a_t), (1, .int (z4 v21_1))] → va_P D vwCl [(a_t, .inr (1, [.ref a_t_plan, .int (z4 t_pasts), .ref a_t_leads, .ref a_t_part, .ref a_t_finer, .ref a_t_keys, .ref a_t_stateOfPart, .ref a_t_pastOfState, .int (z4 o_.1), .ref a_t_steps, .ref a_t_away])), (a_t_stateOfPart, .inl (E 0, 64, .inl (A4 o_.2.1))), (a_t_part, .inl (E 0, 64, .inl (A4 t_part))), (a_t_pastOfState, .inl (E 0, 64, .inl (A4 o_.2.2.1))), (a_t_leads, .inl (E 0, 320, .inl (A4 t_leads))), (a_t_steps, .inl (E 0, 320, .inl (A4 o_.2.2.2)))] H → va_D A [(a_t, .inr (1, [.ref a_t_plan, .int (z4 t_pasts), .ref a_t_leads, .ref a_t_part, .ref a_t_finer, .ref a_t_keys, .ref a_t_stateOfPart, .ref a_t_pastOfState, .int (z4 o_.1), .ref a_t_steps, .ref a_t_away])), (a_t_stateOfPart, .inl (E 0, 64, .inl (A4 o_.2.1))), (a_t_part, .inl (E 0, 64, .inl (A4 t_part))), (a_t_pastOfState, .inl (E 0, 64, .inl (A4 o_.2.2.1))), (a_t_leads, .inl (E 0, 320, .inl (A4 t_leads))), (a_t_steps, .inl (E 0, 320, .inl (A4 o_.2.2.2)))] → va_S A s.heap H locs → W p l e rm_X1_numberStates s m args below meth c H locs 0 0 Q (F0 m 90 ls []) := by
            intro o_ ho_ H locs ls hl hP hD hS
            subst ho_
            refine m_iinc X 1 [(1, .int (z4 (v21_1 + 1))), (0, .ref a_t)] dX1_numberStates_90 hl rfl (by decide) rfl (fun ls hl => ?_)
            refine lv_goto (tgt := 21) hx hb dX1_numberStates_93 (by decide) ?_
            obtain rfl := Option.some.inj hr6
            exact ih3 _ _ _ _ _ _ _ _ (lv_sub hl [1, 0] rfl) hP hD hS hq3
          have L6 : ∀ (k_ : Nat) (v37_2 : Int) (t_states_l37 : Int) (t_stateOfPart_l37 : Nat → Int) (t_pastOfState_l37 : Nat → Int) (t_steps_l37 : Nat → Int), ∀ (H : Heap) (locs : List Loc) (ls : Array Slot), lv_has ls 4 [(0, .ref a_t), (1, .int (z4 v21_1)), (2, .int (z4 v37_2))] → va_P D vwCl [(a_t, .inr (1, [.ref a_t_plan, .int (z4 t_pasts), .ref a_t_leads, .ref a_t_part, .ref a_t_finer, .ref a_t_keys, .ref a_t_stateOfPart, .ref a_t_pastOfState, .int (z4 t_states_l37), .ref a_t_steps, .ref a_t_away])), (a_t_stateOfPart, .inl (E 0, 64, .inl (A4 t_stateOfPart_l37))), (a_t_part, .inl (E 0, 64, .inl (A4 t_part))), (a_t_pastOfState, .inl (E 0, 64, .inl (A4 t_pastOfState_l37))), (a_t_leads, .inl (E 0, 320, .inl (A4 t_leads))), (a_t_steps, .inl (E 0, 320, .inl (A4 t_steps_l37)))] H → va_D A [(a_t, .inr (1, [.ref a_t_plan, .int (z4 t_pasts), .ref a_t_leads, .ref a_t_part, .ref a_t_finer, .ref a_t_keys, .ref a_t_stateOfPart, .ref a_t_pastOfState, .int (z4 t_states_l37), .ref a_t_steps, .ref a_t_away])), (a_t_stateOfPart, .inl (E 0, 64, .inl (A4 t_stateOfPart_l37))), (a_t_part, .inl (E 0, 64, .inl (A4 t_part))), (a_t_pastOfState, .inl (E 0, 64, .inl (A4 t_pastOfState_l37))), (a_t_leads, .inl (E 0, 320, .inl (A4 t_leads))), (a_t_steps, .inl (E 0, 320, .inl (A4 t_steps_l37)))] → va_S A s.heap H locs → lp_ (fun (q : Int × Int × (Nat → Int) × (Nat → Int) × (Nat → Int)) => F_X1_numberStates_L37 n v21_1 t_leads t_part q.1 q.2.1 q.2.2.1 q.2.2.2.1 q.2.2.2.2) k_ (v37_2, t_states_l37, t_stateOfPart_l37, t_pastOfState_l37, t_steps_l37) = some o6 → W p l e rm_X1_numberStates s m args below meth c H locs 0 0 Q (F0 m 37 ls []) := by
            intro k_
            induction k_ with
            | zero =>
              intro v37_2 t_states_l37 t_stateOfPart_l37 t_pastOfState_l37 t_steps_l37 H locs ls hl hP hD hS hq_; exact (lp_zero hq_).elim
            | succ k_ ih6 =>
              intro v37_2 t_states_l37 t_stateOfPart_l37 t_pastOfState_l37 t_steps_l37 H locs ls hl hP hD hS hq_
              obtain ⟨t_6, hb6, hq6⟩ := lp_some hq_
              replace hb6 : F_X1_numberStates_L37 n v21_1 t_leads t_part v37_2 t_states_l37 t_stateOfPart_l37 t_pastOfState_l37 t_steps_l37 = some t_6 := hb6
              unfold F_X1_numberStates_L37 at hb6
              refine lv_iload_n hx hb dX1_numberStates_37 rfl (lv_at hl 2 rfl) ?_
              refine m_iconst X dX1_numberStates_38 ?_
              obtain ⟨h7, hb6⟩ := ck_some hb6
              refine m_icmp_ge X ⟨h7, ⟨by decide, by decide⟩⟩ dX1_numberStates_39 (tgt := 90) (by decide) (fun (hc_ : ¬ (v37_2 < 5)) => ?_) (fun (hc_ : v37_2 < 5) => ?_)
              · rw [if_neg hc_] at hb6
                obtain rfl := Option.some.inj hb6
                exact E6_0 _ (Option.some.inj hq6).symm _ _ _ (lv_sub hl [0, 1] rfl) hP hD hS
              · rw [if_pos hc_] at hb6
                refine lv_aload_n hx hb dX1_numberStates_42 rfl (lv_at hl 0 rfl) ?_
                refine m_get X hK hP cl_X1 iT_X1 2 (by decide) fl_X1_18 0 rfl rfl dX1_numberStates_43 ?_
                refine lv_aload_n hx hb dX1_numberStates_46 rfl (lv_at hl 0 rfl) ?_
                refine m_get X hK hP cl_X1 iT_X1 7 (by decide) fl_X1_34 0 rfl rfl dX1_numberStates_47 ?_
                refine lv_iload_n hx hb dX1_numberStates_50 rfl (lv_at hl 1 rfl) ?_
                obtain ⟨h8, hb6⟩ := ck_some hb6
                refine m_iald X hK hP 3 rfl (by decide) h8 dX1_numberStates_51 ?_
                refine m_iconst X dX1_numberStates_52 ?_
                refine m_imul X dX1_numberStates_53 ?_
                refine lv_iload_n hx hb dX1_numberStates_54 rfl (lv_at hl 2 rfl) ?_
                refine m_iadd X dX1_numberStates_55 ?_
                obtain ⟨h9, hb6⟩ := ck_some hb6
                refine m_iald X hK hP 4 rfl (by decide) h9 dX1_numberStates_56 ?_
                refine lv_istore_n (lv' := [(3, .int (z4 (t_leads (((t_pastOfState_l37 (v21_1).toNat) * 5) + v37_2).toNat))), (0, .ref a_t), (1, .int (z4 v21_1)), (2, .int (z4 v37_2))]) hx hb dX1_numberStates_57 rfl hl (by decide) rfl (fun ls hl => ?_)
                refine lv_aload_n hx hb dX1_numberStates_58 rfl (lv_at hl 1 rfl) ?_
                refine m_get X hK hP cl_X1 iT_X1 9 (by decide) fl_X1_37 0 rfl rfl dX1_numberStates_59 ?_
                refine lv_iload_n hx hb dX1_numberStates_62 rfl (lv_at hl 2 rfl) ?_
                refine m_iconst X dX1_numberStates_63 ?_
                refine m_imul X dX1_numberStates_64 ?_
                refine lv_iload_n hx hb dX1_numberStates_65 rfl (lv_at hl 3 rfl) ?_
                refine m_iadd X dX1_numberStates_66 ?_
                refine lv_iload_n hx hb dX1_numberStates_67 rfl (lv_at hl 0 rfl) ?_
                refine m_bipush X dX1_numberStates_68 (by decide) ?_
                obtain ⟨o10, hj10, hr10⟩ := bd_some hb6
                have J10 : ∀ (o_ : Int × Int × (Nat → Int) × (Nat → Int)), o10 = o_ → ∀ (H : Heap) (locs : List Loc) (ls : Array Slot), lv_has ls 4 [(0, .ref a_t), (1, .int (z4 v21_1)), (2, .int (z4 v37_2))] → va_P D vwCl [(a_t, .inr (1, [.ref a_t_plan, .int (z4 t_pasts), .ref a_t_leads, .ref a_t_part, .ref a_t_finer, .ref a_t_keys, .ref a_t_stateOfPart, .ref a_t_pastOfState, .int (z4 o_.2.1), .ref a_t_steps, .ref a_t_away])), (a_t_stateOfPart, .inl (E 0, 64, .inl (A4 o_.2.2.1))), (a_t_part, .inl (E 0, 64, .inl (A4 t_part))), (a_t_pastOfState, .inl (E 0, 64, .inl (A4 o_.2.2.2))), (a_t_leads, .inl (E 0, 320, .inl (A4 t_leads))), (a_t_steps, .inl (E 0, 320, .inl (A4 t_steps_l37)))] H → va_D A [(a_t, .inr (1, [.ref a_t_plan, .int (z4 t_pasts), .ref a_t_leads, .ref a_t_part, .ref a_t_finer, .ref a_t_keys, .ref a_t_stateOfPart, .ref a_t_pastOfState, .int (z4 o_.2.1), .ref a_t_steps, .ref a_t_away])), (a_t_stateOfPart, .inl (E 0, 64, .inl (A4 o_.2.2.1))), (a_t_part, .inl (E 0, 64, .inl (A4 t_part))), (a_t_pastOfState, .inl (E 0, 64, .inl (A4 o_.2.2.2))), (a_t_leads, .inl (E 0, 320, .inl (A4 t_leads))), (a_t_steps, .inl (E 0, 320, .inl (A4 t_steps_l37)))] → va_S A s.heap H locs → W p l e rm_X1_numberStates s m args below meth c H locs 0 0 Q (F0 m 83 ls [.int (z4 o_.1), .int (z4 ((v21_1 * 5) + v37_2)), .ref a_t_steps]) := by
                  intro o_ ho_ H locs ls hl hP hD hS
                  subst ho_
                  obtain ⟨h13, hr10⟩ := ck_some hr10
                  refine m_iast X hK hP hD hS 5 rfl (by decide) h13 [(a_t, .inr (1, [.ref a_t_plan, .int (z4 t_pasts), .ref a_t_leads, .ref a_t_part, .ref a_t_finer, .ref a_t_keys, .ref a_t_stateOfPart, .ref a_t_pastOfState, .int (z4 o10.2.1), .ref a_t_steps, .ref a_t_away])), (a_t_stateOfPart, .inl (E 0, 64, .inl (A4 o10.2.2.1))), (a_t_part, .inl (E 0, 64, .inl (A4 t_part))), (a_t_pastOfState, .inl (E 0, 64, .inl (A4 o10.2.2.2))), (a_t_leads, .inl (E 0, 320, .inl (A4 t_leads))), (a_t_steps, .inl (E 0, 320, .inl (A4 (up_ t_steps_l37 ((v21_1 * 5) + v37_2).toNat o10.1))))] rfl dX1_numberStates_83 (fun H locs hP hD hS => ?_)
                  refine m_iinc X 2 [(2, .int (z4 (v37_2 + 1))), (0, .ref a_t), (1, .int (z4 v21_1))] dX1_numberStates_84 hl rfl (by decide) rfl (fun ls hl => ?_)
                  refine lv_goto (tgt := 37) hx hb dX1_numberStates_87 (by decide) ?_
                  obtain rfl := Option.some.inj hr10
                  exact ih6 _ _ _ _ _ _ _ _ (lv_sub hl [1, 2, 0] rfl) hP hD hS hq6
                obtain ⟨h11, hj10⟩ := ck_some hj10
                refine m_icmp_ne X ⟨h11, ⟨by decide, by decide⟩⟩ dX1_numberStates_70 (tgt := 78) (by decide) (fun (hc_ : ¬ (t_leads (((t_pastOfState_l37 (v21_1).toNat) * 5) + v37_2).toNat = (-5))) => ?_) (fun (hc_ : t_leads (((t_pastOfState_l37 (v21_1).toNat) * 5) + v37_2).toNat = (-5)) => ?_)
                · rw [if_neg hc_] at hj10
                  refine lv_aload_n hx hb dX1_numberStates_78 rfl (lv_at hl 1 rfl) ?_
                  refine lv_iload_n hx hb dX1_numberStates_79 rfl (lv_at hl 0 rfl) ?_
                  obtain ⟨o12, ho, hj10⟩ := bd_some hj10
                  refine m_cVW X hK hP hD hS hA (wr := [(a_t_leads, .inl (E 0, 320, .inl (A4 t_leads))), (a_t_steps, .inl (E 0, 320, .inl (A4 t_steps_l37)))]) (k_X1_stateOf n a_t a_t_plan a_t_leads a_t_part a_t_finer a_t_keys a_t_stateOfPart a_t_pastOfState a_t_steps a_t_away t_pasts t_states_l37 t_part t_stateOfPart_l37 t_pastOfState_l37 (t_leads (((t_pastOfState_l37 (v21_1).toNat) * 5) + v37_2).toNat) o12 ho) [0, 2, 1, 3] [4, 5] [2, 4, 3, 5, 0, 1] [(a_t, .inr (1, [.ref a_t_plan, .int (z4 t_pasts), .ref a_t_leads, .ref a_t_part, .ref a_t_finer, .ref a_t_keys, .ref a_t_stateOfPart, .ref a_t_pastOfState, .int (z4 o12.2.1), .ref a_t_steps, .ref a_t_away])), (a_t_stateOfPart, .inl (E 0, 64, .inl (A4 o12.2.2.1))), (a_t_part, .inl (E 0, 64, .inl (A4 t_part))), (a_t_pastOfState, .inl (E 0, 64, .inl (A4 o12.2.2.2))), (a_t_leads, .inl (E 0, 320, .inl (A4 t_leads))), (a_t_steps, .inl (E 0, 320, .inl (A4 t_steps_l37)))] rfl rfl rfl rfl (by decide) rfl rfl rfl cl_X1 lk_X1_105 co_X1_stateOf dy_X1_stateOf rfl rfl ⟨Nat.le_of_ble_eq_true rfl, Nat.le_of_ble_eq_true rfl⟩ hl.1 rfl (Nat.le_of_ble_eq_true rfl) dX1_numberStates_80 (Nat.zero_le _) (Nat.zero_le _) (fun H locs hP hD hS => ?_)
                  exact J10 _ (Option.some.inj hj10).symm _ _ _ (lv_sub hl [1, 2, 3] rfl) hP hD hS
                · rw [if_pos hc_] at hj10
                  refine m_bipush X dX1_numberStates_73 (by decide) ?_
                  refine lv_goto (tgt := 83) hx hb dX1_numberStates_75 (by decide) ?_
                  exact J10 _ (Option.some.inj hj10).symm _ _ _ (lv_sub hl [1, 2, 3] rfl) hP hD hS
          exact L6 n _ _ _ _ _ _ _ _ (lv_sub hl [1, 2, 0] rfl) hP hD hS hj6
  exact L3 n _ _ _ _ _ _ _ _ (lv_sub hl [1, 0] rfl) hP hD hS hj3
def F_X1_signTo_L2 (n : Nat) (x1 : Int) (t_steps : Nat → Int) (t_away : Nat → Int) (x2 : Int) (v2_3 : Int) : Option ((Int) ⊕ ((Unit) ⊕ (Int))) :=
  ck (r4 v2_3) <|
  if v2_3 < 5 then
    ck (ix_ ((x1 * 5) + v2_3) 320) <|
    Option.bind (α := Int) (
      ck (r4 (t_steps ((x1 * 5) + v2_3).toNat)) <|
      if t_steps ((x1 * 5) + v2_3).toNat = (-5) then
        some 0
      else
        ck (ix_ (t_steps ((x1 * 5) + v2_3).toNat) 64) <|
        some (t_away (t_steps ((x1 * 5) + v2_3).toNat).toNat)) fun o4 =>
    ck (r4 o4 ∧ r4 x2) <|
    if o4 = x2 then
      some (.inr (.inr v2_3))
    else
      some (.inl (v2_3 + 1))
  else
    some (.inr (.inl ()))
def F_X1_signTo (n : Nat)  (t_steps : Nat → Int) (t_away : Nat → Int) (x1 : Int) (x2 : Int) : Option (Int) :=
  (lp_ (fun (q : Int) => F_X1_signTo_L2 n x1 t_steps t_away x2 q) n 0).bind fun o1 => match o1 with
  | .inl o1_0 =>
    some (-9)
  | .inr o1_1 =>
    some o1_1
def rm_X1_signTo : Room := { frames := 0, cells := 0, slots := 0, locals := 0 }
set_option maxHeartbeats 4000000 in
set_option maxRecDepth 100000 in
theorem k_X1_signTo {l : Launch} {D : va_G} {E : Nat → ClassId} (n : Nat) (a_t a_t_plan a_t_leads a_t_part a_t_finer a_t_keys a_t_stateOfPart a_t_pastOfState a_t_steps a_t_away : Nat) (t_pasts : Int) (t_states : Int) (t_steps : Nat → Int) (t_away : Nat → Int) (x1 : Int) (x2 : Int) (res : Int) (hf : F_X1_signTo n t_steps t_away x1 x2 = some res) : MR l yX1_signTo (.code yX1_signTo cX1_signTo 6 (some .int)) rm_X1_signTo D E [.ref a_t, .int (z4 x1), .int (z4 x2)] [(a_t, .inr (1, [.ref a_t_plan, .int (z4 t_pasts), .ref a_t_leads, .ref a_t_part, .ref a_t_finer, .ref a_t_keys, .ref a_t_stateOfPart, .ref a_t_pastOfState, .int (z4 t_states), .ref a_t_steps, .ref a_t_away])), (a_t_steps, .inl (E 0, 320, .inl (A4 t_steps))), (a_t_away, .inl (E 0, 64, .inl (A4 t_away)))] (some (.int (z4 res))) := by
  refine MRi (by decide) (Nat.le_of_ble_eq_true rfl) ?_
  intro p e s m args below meth c Q X hK hP ret ls hl
  have hx := X.1
  have hb := X.2.1
  have hl : lv_has ls 6 [(0, .ref a_t), (1, .int (z4 x1)), (2, .int (z4 x2))] := hl
  unfold F_X1_signTo at hf
  refine m_iconst X dX1_signTo_0 ?_
  refine lv_istore_n (lv' := [(3, .int (z4 0)), (0, .ref a_t), (1, .int (z4 x1)), (2, .int (z4 x2))]) hx hb dX1_signTo_1 rfl hl (by decide) rfl (fun ls hl => ?_)
  obtain ⟨o1, hj1, hr1⟩ := bd_some hf
  have E1_0 : ∀ (o_ : Unit), o1 = (.inl o_) → ∀ (ls : Array Slot), lv_has ls 6 [] → W p l e rm_X1_signTo s m args below meth c s.heap [] 0 0 Q (F0 m 53 ls []) := by
    intro o1_0 ho_ ls hl 
    subst ho_
    refine m_bipush X dX1_signTo_53 (by decide) ?_
    obtain rfl := Option.some.inj hr1
    exact ret _ _ dX1_signTo_55
  have E1_1 : ∀ (o_ : Int), o1 = (.inr o_) → ∀ (ls : Array Slot), lv_has ls 6 [(3, .int (z4 o_))] → W p l e rm_X1_signTo s m args below meth c s.heap [] 0 0 Q (F0 m 45 ls []) := by
    intro o1_1 ho_ ls hl 
    subst ho_
    refine lv_iload_n hx hb dX1_signTo_45 rfl (lv_at hl 0 rfl) ?_
    obtain rfl := Option.some.inj hr1
    exact ret _ _ dX1_signTo_46
  have L1 : ∀ (k_ : Nat) (v2_3 : Int), ∀ (ls : Array Slot), lv_has ls 6 [(0, .ref a_t), (1, .int (z4 x1)), (2, .int (z4 x2)), (3, .int (z4 v2_3))] → lp_ (fun (q : Int) => F_X1_signTo_L2 n x1 t_steps t_away x2 q) k_ v2_3 = some o1 → W p l e rm_X1_signTo s m args below meth c s.heap [] 0 0 Q (F0 m 2 ls []) := by
    intro k_
    induction k_ with
    | zero =>
      intro v2_3 ls hl  hq_; exact (lp_zero hq_).elim
    | succ k_ ih1 =>
      intro v2_3 ls hl  hq_
      obtain ⟨t_1, hb1, hq1⟩ := lp_some hq_
      replace hb1 : F_X1_signTo_L2 n x1 t_steps t_away x2 v2_3 = some t_1 := hb1
      unfold F_X1_signTo_L2 at hb1
      refine lv_iload_n hx hb dX1_signTo_2 rfl (lv_at hl 3 rfl) ?_
      refine m_iconst X dX1_signTo_3 ?_
      obtain ⟨h2, hb1⟩ := ck_some hb1
      refine m_icmp_ge X ⟨h2, ⟨by decide, by decide⟩⟩ dX1_signTo_4 (tgt := 53) (by decide) (fun (hc_ : ¬ (v2_3 < 5)) => ?_) (fun (hc_ : v2_3 < 5) => ?_)
      · rw [if_neg hc_] at hb1
        obtain rfl := Option.some.inj hb1
        exact E1_0 _ (Option.some.inj hq1).symm _ (lv_sub hl [] rfl) 
      · rw [if_pos hc_] at hb1
        refine lv_aload_n hx hb dX1_signTo_7 rfl (lv_at hl 0 rfl) ?_
        refine m_get X hK hP cl_X1 iT_X1 9 (by decide) fl_X1_37 0 rfl rfl dX1_signTo_8 ?_
        refine lv_iload_n hx hb dX1_signTo_11 rfl (lv_at hl 1 rfl) ?_
        refine m_iconst X dX1_signTo_12 ?_
        refine m_imul X dX1_signTo_13 ?_
        refine lv_iload_n hx hb dX1_signTo_14 rfl (lv_at hl 3 rfl) ?_
        refine m_iadd X dX1_signTo_15 ?_
        obtain ⟨h3, hb1⟩ := ck_some hb1
        refine m_iald X hK hP 1 rfl (by decide) h3 dX1_signTo_16 ?_
        refine lv_istore (lv' := [(4, .int (z4 (t_steps ((x1 * 5) + v2_3).toNat))), (0, .ref a_t), (1, .int (z4 x1)), (2, .int (z4 x2)), (3, .int (z4 v2_3))]) hx hb dX1_signTo_17 hl (by decide) rfl (fun ls hl => ?_)
        refine lv_iload hx hb dX1_signTo_19 (lv_at hl 0 rfl) ?_
        refine m_bipush X dX1_signTo_21 (by decide) ?_
        obtain ⟨o4, hj4, hr4⟩ := bd_some hb1
        have J4 : ∀ (o_ : Int), o4 = o_ → ∀ (ls : Array Slot), lv_has ls 6 [(0, .ref a_t), (1, .int (z4 x1)), (2, .int (z4 x2)), (3, .int (z4 v2_3))] → W p l e rm_X1_signTo s m args below meth c s.heap [] 0 0 Q (F0 m 37 ls [.int (z4 o_)]) := by
          intro o_ ho_ ls hl 
          subst ho_
          refine lv_istore (lv' := [(5, .int (z4 o4)), (0, .ref a_t), (1, .int (z4 x1)), (2, .int (z4 x2)), (3, .int (z4 v2_3))]) hx hb dX1_signTo_37 hl (by decide) rfl (fun ls hl => ?_)
          refine lv_iload hx hb dX1_signTo_39 (lv_at hl 0 rfl) ?_
          refine lv_iload_n hx hb dX1_signTo_41 rfl (lv_at hl 3 rfl) ?_
          obtain ⟨h7, hr4⟩ := ck_some hr4
          refine m_icmp_ne X h7 dX1_signTo_42 (tgt := 47) (by decide) (fun (hc_ : ¬ (o4 = x2)) => ?_) (fun (hc_ : o4 = x2) => ?_)
          · rw [if_neg hc_] at hr4
            refine m_iinc X 4 [(3, .int (z4 (v2_3 + 1))), (5, .int (z4 o4)), (0, .ref a_t), (1, .int (z4 x1)), (2, .int (z4 x2))] dX1_signTo_47 hl rfl (by decide) rfl (fun ls hl => ?_)
            refine lv_goto (tgt := 2) hx hb dX1_signTo_50 (by decide) ?_
            obtain rfl := Option.some.inj hr4
            exact ih1 _ _ (lv_sub hl [2, 3, 4, 0] rfl)  hq1
          · rw [if_pos hc_] at hr4
            obtain rfl := Option.some.inj hr4
            exact E1_1 _ (Option.some.inj hq1).symm _ (lv_sub hl [4] rfl) 
        obtain ⟨h5, hj4⟩ := ck_some hj4
        refine m_icmp_ne X ⟨h5, ⟨by decide, by decide⟩⟩ dX1_signTo_23 (tgt := 30) (by decide) (fun (hc_ : ¬ (t_steps ((x1 * 5) + v2_3).toNat = (-5))) => ?_) (fun (hc_ : t_steps ((x1 * 5) + v2_3).toNat = (-5)) => ?_)
        · rw [if_neg hc_] at hj4
          refine lv_aload_n hx hb dX1_signTo_30 rfl (lv_at hl 1 rfl) ?_
          refine m_get X hK hP cl_X1 iT_X1 10 (by decide) fl_X1_40 0 rfl rfl dX1_signTo_31 ?_
          refine lv_iload hx hb dX1_signTo_34 (lv_at hl 0 rfl) ?_
          obtain ⟨h6, hj4⟩ := ck_some hj4
          refine m_iald X hK hP 2 rfl (by decide) h6 dX1_signTo_36 ?_
          exact J4 _ (Option.some.inj hj4).symm _ (lv_sub hl [1, 2, 3, 4] rfl) 
        · rw [if_pos hc_] at hj4
          refine m_iconst X dX1_signTo_26 ?_
          refine lv_goto (tgt := 37) hx hb dX1_signTo_27 (by decide) ?_
          exact J4 _ (Option.some.inj hj4).symm _ (lv_sub hl [1, 2, 3, 4] rfl) 
  exact L1 n _ _ (lv_sub hl [1, 2, 3, 0] rfl)  hj1
def F_X1_measure_L27 (n : Nat) (t_states : Int) (t_steps : Nat → Int) (v13_2 : Int) (v27_1 : Int) (v27_3 : Int) (t_away_l27 : Nat → Int) : Option ((Int × Int × (Nat → Int)) ⊕ (Int × (Nat → Int))) :=
  ck (r4 v27_3 ∧ r4 t_states) <|
  if v27_3 < t_states then
    ck (ix_ v27_3 64) <|
    Option.bind (α := Int × (Nat → Int)) (
      ck (r4 (t_away_l27 (v27_3).toNat)) <|
      if t_away_l27 (v27_3).toNat = (-9) then
        (F_X1_signTo n t_steps t_away_l27 v27_3 (v13_2 - 1)).bind fun o10 =>
        ck (r4 o10) <|
        if o10 = (-9) then
          some (v27_1, t_away_l27)
        else
          ck (ix_ v27_3 64) <|
          some (1, up_ t_away_l27 (v27_3).toNat v13_2)
      else
        some (v27_1, t_away_l27)) fun o8 =>
    some (.inl (o8.1, v27_3 + 1, o8.2))
  else
    some (.inr (v27_1, t_away_l27))
def F_X1_measure_L13 (n : Nat) (t_states : Int) (t_steps : Nat → Int) (v13_1 : Int) (v13_2 : Int) (t_away_l13 : Nat → Int) : Option ((Int × Int × (Nat → Int)) ⊕ ((Nat → Int))) :=
  ck (r4 v13_2) <|
  if 64 < v13_2 then
    some (.inr t_away_l13)
  else
    ck (r4 v13_1) <|
    if v13_1 = 0 then
      some (.inr t_away_l13)
    else
      (lp_ (fun (q : Int × Int × (Nat → Int)) => F_X1_measure_L27 n t_states t_steps v13_2 q.1 q.2.1 q.2.2) n (0, 0, t_away_l13)).bind fun o5 =>
      some (.inl (o5.1, v13_2 + 1, o5.2))
def F_X1_measure (n : Nat)  (t_states : Int) (t_away : Nat → Int) (t_steps : Nat → Int)  : Option ((Nat → Int)) :=
  (F_J7_fill_53178 n 64 t_away (-9)).bind fun o1 =>
  (lp_ (fun (q : Int × Int × (Nat → Int)) => F_X1_measure_L13 n t_states t_steps q.1 q.2.1 q.2.2) n (1, 1, o1)).bind fun o2 =>
  some o2
def rm_X1_measure : Room := { frames := 1, cells := 0, slots := 0, locals := 25 }
set_option maxHeartbeats 4000000 in
set_option maxRecDepth 100000 in
theorem k_X1_measure {l : Launch} {D : va_G} {E : Nat → ClassId} (n : Nat) (a_t a_t_plan a_t_leads a_t_part a_t_finer a_t_keys a_t_stateOfPart a_t_pastOfState a_t_steps a_t_away : Nat) (t_pasts : Int) (t_states : Int) (t_away : Nat → Int) (t_steps : Nat → Int) (res : (Nat → Int)) (hf : F_X1_measure n t_states t_away t_steps = some res) : MW l yX1_measure (.code yX1_measure cX1_measure 4 none) rm_X1_measure D E [.ref a_t] [(a_t, .inr (1, [.ref a_t_plan, .int (z4 t_pasts), .ref a_t_leads, .ref a_t_part, .ref a_t_finer, .ref a_t_keys, .ref a_t_stateOfPart, .ref a_t_pastOfState, .int (z4 t_states), .ref a_t_steps, .ref a_t_away])), (a_t_away, .inl (E 0, 64, .inl (A4 t_away))), (a_t_steps, .inl (E 0, 320, .inl (A4 t_steps)))] none [(a_t, .inr (1, [.ref a_t_plan, .int (z4 t_pasts), .ref a_t_leads, .ref a_t_part, .ref a_t_finer, .ref a_t_keys, .ref a_t_stateOfPart, .ref a_t_pastOfState, .int (z4 t_states), .ref a_t_steps, .ref a_t_away])), (a_t_away, .inl (E 0, 64, .inl (A4 res))), (a_t_steps, .inl (E 0, 320, .inl (A4 t_steps)))] := by
  refine MWv (by decide) (Nat.le_of_ble_eq_true rfl) ?_
  intro p e s m args below meth c A Q X hK hP hD hA ret ls hl
  have hS : va_S A s.heap s.heap [] := va_S.rf
  have hx := X.1
  have hb := X.2.1
  have hl : lv_has ls 4 [(0, .ref a_t)] := hl
  unfold F_X1_measure at hf
  refine lv_aload_n hx hb dX1_measure_0 rfl (lv_at hl 0 rfl) ?_
  refine m_get X hK hP cl_X1 iT_X1 10 (by decide) fl_X1_40 0 rfl rfl dX1_measure_1 ?_
  refine m_bipush X dX1_measure_4 (by decide) ?_
  obtain ⟨o1, ho, hf⟩ := bd_some hf
  refine m_cSW X hK hP hD hS hA (wr := [(a_t, .inr (1, [.ref a_t_plan, .int (z4 t_pasts), .ref a_t_leads, .ref a_t_part, .ref a_t_finer, .ref a_t_keys, .ref a_t_stateOfPart, .ref a_t_pastOfState, .int (z4 t_states), .ref a_t_steps, .ref a_t_away])), (a_t_steps, .inl (E 0, 320, .inl (A4 t_steps)))]) (k_J7_fill_53178 n a_t_away 64 (by decide) t_away (-9) o1 ho) [1] [0, 2] [0, 2, 1] [(a_t, .inr (1, [.ref a_t_plan, .int (z4 t_pasts), .ref a_t_leads, .ref a_t_part, .ref a_t_finer, .ref a_t_keys, .ref a_t_stateOfPart, .ref a_t_pastOfState, .int (z4 t_states), .ref a_t_steps, .ref a_t_away])), (a_t_away, .inl (E 0, 64, .inl (A4 o1))), (a_t_steps, .inl (E 0, 320, .inl (A4 t_steps)))] rfl rfl rfl rfl (by decide) rfl rfl lk_X1_74 co_J7_fill_53178 dy_J7_fill_53178 rfl rfl ⟨Nat.le_of_ble_eq_true rfl, Nat.le_of_ble_eq_true rfl⟩ hl.1 rfl (Nat.le_of_ble_eq_true rfl) dX1_measure_6 (Nat.zero_le _) (Nat.zero_le _) (fun H locs hP hD hS => ?_)
  refine m_iconst X dX1_measure_9 ?_
  refine lv_istore_n (lv' := [(1, .int (z4 1)), (0, .ref a_t)]) hx hb dX1_measure_10 rfl hl (by decide) rfl (fun ls hl => ?_)
  refine m_iconst X dX1_measure_11 ?_
  refine lv_istore_n (lv' := [(2, .int (z4 1)), (1, .int (z4 1)), (0, .ref a_t)]) hx hb dX1_measure_12 rfl hl (by decide) rfl (fun ls hl => ?_)
  obtain ⟨o2, hj2, hr2⟩ := bd_some hf
  have E2_0 : ∀ (o_ : (Nat → Int)), o2 = o_ → ∀ (H : Heap) (locs : List Loc) (ls : Array Slot), lv_has ls 4 [] → va_P D vwCl [(a_t, .inr (1, [.ref a_t_plan, .int (z4 t_pasts), .ref a_t_leads, .ref a_t_part, .ref a_t_finer, .ref a_t_keys, .ref a_t_stateOfPart, .ref a_t_pastOfState, .int (z4 t_states), .ref a_t_steps, .ref a_t_away])), (a_t_away, .inl (E 0, 64, .inl (A4 o_))), (a_t_steps, .inl (E 0, 320, .inl (A4 t_steps)))] H → va_D A [(a_t, .inr (1, [.ref a_t_plan, .int (z4 t_pasts), .ref a_t_leads, .ref a_t_part, .ref a_t_finer, .ref a_t_keys, .ref a_t_stateOfPart, .ref a_t_pastOfState, .int (z4 t_states), .ref a_t_steps, .ref a_t_away])), (a_t_away, .inl (E 0, 64, .inl (A4 o_))), (a_t_steps, .inl (E 0, 320, .inl (A4 t_steps)))] → va_S A s.heap H locs → W p l e rm_X1_measure s m args below meth c H locs 0 0 Q (F0 m 80 ls []) := by
    intro o_ ho_ H locs ls hl hP hD hS
    subst ho_
    obtain rfl := Option.some.inj hr2
    exact ret _ _ _ _ hP hD hS dX1_measure_80
  have L2 : ∀ (k_ : Nat) (v13_1 : Int) (v13_2 : Int) (t_away_l13 : Nat → Int), ∀ (H : Heap) (locs : List Loc) (ls : Array Slot), lv_has ls 4 [(0, .ref a_t), (1, .int (z4 v13_1)), (2, .int (z4 v13_2))] → va_P D vwCl [(a_t, .inr (1, [.ref a_t_plan, .int (z4 t_pasts), .ref a_t_leads, .ref a_t_part, .ref a_t_finer, .ref a_t_keys, .ref a_t_stateOfPart, .ref a_t_pastOfState, .int (z4 t_states), .ref a_t_steps, .ref a_t_away])), (a_t_away, .inl (E 0, 64, .inl (A4 t_away_l13))), (a_t_steps, .inl (E 0, 320, .inl (A4 t_steps)))] H → va_D A [(a_t, .inr (1, [.ref a_t_plan, .int (z4 t_pasts), .ref a_t_leads, .ref a_t_part, .ref a_t_finer, .ref a_t_keys, .ref a_t_stateOfPart, .ref a_t_pastOfState, .int (z4 t_states), .ref a_t_steps, .ref a_t_away])), (a_t_away, .inl (E 0, 64, .inl (A4 t_away_l13))), (a_t_steps, .inl (E 0, 320, .inl (A4 t_steps)))] → va_S A s.heap H locs → lp_ (fun (q : Int × Int × (Nat → Int)) => F_X1_measure_L13 n t_states t_steps q.1 q.2.1 q.2.2) k_ (v13_1, v13_2, t_away_l13) = some o2 → W p l e rm_X1_measure s m args below meth c H locs 0 0 Q (F0 m 13 ls []) := by
    intro k_
    induction k_ with
    | zero =>
      intro v13_1 v13_2 t_away_l13 H locs ls hl hP hD hS hq_; exact (lp_zero hq_).elim
    | succ k_ ih2 =>
      intro v13_1 v13_2 t_away_l13 H locs ls hl hP hD hS hq_
      obtain ⟨t_2, hb2, hq2⟩ := lp_some hq_
      replace hb2 : F_X1_measure_L13 n t_states t_steps v13_1 v13_2 t_away_l13 = some t_2 := hb2
      unfold F_X1_measure_L13 at hb2
      refine lv_iload_n hx hb dX1_measure_13 rfl (lv_at hl 2 rfl) ?_
      refine m_bipush X dX1_measure_14 (by decide) ?_
      obtain ⟨h3, hb2⟩ := ck_some hb2
      refine m_icmp_gt X ⟨h3, ⟨by decide, by decide⟩⟩ dX1_measure_16 (tgt := 80) (by decide) (fun (hc_ : 64 < v13_2) => ?_) (fun (hc_ : ¬ (64 < v13_2)) => ?_)
      · rw [if_pos hc_] at hb2
        obtain rfl := Option.some.inj hb2
        exact E2_0 _ (Option.some.inj hq2).symm _ _ _ (lv_sub hl [] rfl) hP hD hS
      · rw [if_neg hc_] at hb2
        refine lv_iload_n hx hb dX1_measure_19 rfl (lv_at hl 1 rfl) ?_
        obtain ⟨h4, hb2⟩ := ck_some hb2
        refine m_if_eq X h4 dX1_measure_20 (tgt := 80) (by decide) (fun (hc_ : v13_1 = 0) => ?_) (fun (hc_ : ¬ (v13_1 = 0)) => ?_)
        · rw [if_pos hc_] at hb2
          obtain rfl := Option.some.inj hb2
          exact E2_0 _ (Option.some.inj hq2).symm _ _ _ (lv_sub hl [] rfl) hP hD hS
        · rw [if_neg hc_] at hb2
          refine m_iconst X dX1_measure_23 ?_
          refine lv_istore_n (lv' := [(1, .int (z4 0)), (0, .ref a_t), (2, .int (z4 v13_2))]) hx hb dX1_measure_24 rfl hl (by decide) rfl (fun ls hl => ?_)
          refine m_iconst X dX1_measure_25 ?_
          refine lv_istore_n (lv' := [(3, .int (z4 0)), (1, .int (z4 0)), (0, .ref a_t), (2, .int (z4 v13_2))]) hx hb dX1_measure_26 rfl hl (by decide) rfl (fun ls hl => ?_)
          obtain ⟨o5, hj5, hr5⟩ := bd_some hb2
          have E5_0 : ∀ (o_ : Int × (Nat → Int)), o5 = o_ → ∀ (H : Heap) (locs : List Loc) (ls : Array Slot), lv_has ls 4 [(0, .ref a_t), (1, .int (z4 o_.1)), (2, .int (z4 v13_2))] → va_P D vwCl [(a_t, .inr (1, [.ref a_t_plan, .int (z4 t_pasts), .ref a_t_leads, .ref a_t_part, .ref a_t_finer, .ref a_t_keys, .ref a_t_stateOfPart, .ref a_t_pastOfState, .int (z4 t_states), .ref a_t_steps, .ref a_t_away])), (a_t_away, .inl (E 0, 64, .inl (A4 o_.2))), (a_t_steps, .inl (E 0, 320, .inl (A4 t_steps)))] H → va_D A [(a_t, .inr (1, [.ref a_t_plan, .int (z4 t_pasts), .ref a_t_leads, .ref a_t_part, .ref a_t_finer, .ref a_t_keys, .ref a_t_stateOfPart, .ref a_t_pastOfState, .int (z4 t_states), .ref a_t_steps, .ref a_t_away])), (a_t_away, .inl (E 0, 64, .inl (A4 o_.2))), (a_t_steps, .inl (E 0, 320, .inl (A4 t_steps)))] → va_S A s.heap H locs → W p l e rm_X1_measure s m args below meth c H locs 0 0 Q (F0 m 74 ls []) := by
            intro o_ ho_ H locs ls hl hP hD hS
            subst ho_
            refine m_iinc X 2 [(2, .int (z4 (v13_2 + 1))), (0, .ref a_t), (1, .int (z4 o5.1))] dX1_measure_74 hl rfl (by decide) rfl (fun ls hl => ?_)
            refine lv_goto (tgt := 13) hx hb dX1_measure_77 (by decide) ?_
            obtain rfl := Option.some.inj hr5
            exact ih2 _ _ _ _ _ _ (lv_sub hl [1, 2, 0] rfl) hP hD hS hq2
          have L5 : ∀ (k_ : Nat) (v27_1 : Int) (v27_3 : Int) (t_away_l27 : Nat → Int), ∀ (H : Heap) (locs : List Loc) (ls : Array Slot), lv_has ls 4 [(0, .ref a_t), (1, .int (z4 v27_1)), (2, .int (z4 v13_2)), (3, .int (z4 v27_3))] → va_P D vwCl [(a_t, .inr (1, [.ref a_t_plan, .int (z4 t_pasts), .ref a_t_leads, .ref a_t_part, .ref a_t_finer, .ref a_t_keys, .ref a_t_stateOfPart, .ref a_t_pastOfState, .int (z4 t_states), .ref a_t_steps, .ref a_t_away])), (a_t_away, .inl (E 0, 64, .inl (A4 t_away_l27))), (a_t_steps, .inl (E 0, 320, .inl (A4 t_steps)))] H → va_D A [(a_t, .inr (1, [.ref a_t_plan, .int (z4 t_pasts), .ref a_t_leads, .ref a_t_part, .ref a_t_finer, .ref a_t_keys, .ref a_t_stateOfPart, .ref a_t_pastOfState, .int (z4 t_states), .ref a_t_steps, .ref a_t_away])), (a_t_away, .inl (E 0, 64, .inl (A4 t_away_l27))), (a_t_steps, .inl (E 0, 320, .inl (A4 t_steps)))] → va_S A s.heap H locs → lp_ (fun (q : Int × Int × (Nat → Int)) => F_X1_measure_L27 n t_states t_steps v13_2 q.1 q.2.1 q.2.2) k_ (v27_1, v27_3, t_away_l27) = some o5 → W p l e rm_X1_measure s m args below meth c H locs 0 0 Q (F0 m 27 ls []) := by
            intro k_
            induction k_ with
            | zero =>
              intro v27_1 v27_3 t_away_l27 H locs ls hl hP hD hS hq_; exact (lp_zero hq_).elim
            | succ k_ ih5 =>
              intro v27_1 v27_3 t_away_l27 H locs ls hl hP hD hS hq_
              obtain ⟨t_5, hb5, hq5⟩ := lp_some hq_
              replace hb5 : F_X1_measure_L27 n t_states t_steps v13_2 v27_1 v27_3 t_away_l27 = some t_5 := hb5
              unfold F_X1_measure_L27 at hb5
              refine lv_iload_n hx hb dX1_measure_27 rfl (lv_at hl 3 rfl) ?_
              refine lv_aload_n hx hb dX1_measure_28 rfl (lv_at hl 0 rfl) ?_
              refine m_get X hK hP cl_X1 iT_X1 8 (by decide) fl_X1_102 0 rfl rfl dX1_measure_29 ?_
              obtain ⟨h6, hb5⟩ := ck_some hb5
              refine m_icmp_ge X h6 dX1_measure_32 (tgt := 74) (by decide) (fun (hc_ : ¬ (v27_3 < t_states)) => ?_) (fun (hc_ : v27_3 < t_states) => ?_)
              · rw [if_neg hc_] at hb5
                obtain rfl := Option.some.inj hb5
                exact E5_0 _ (Option.some.inj hq5).symm _ _ _ (lv_sub hl [0, 1, 2] rfl) hP hD hS
              · rw [if_pos hc_] at hb5
                refine lv_aload_n hx hb dX1_measure_35 rfl (lv_at hl 0 rfl) ?_
                refine m_get X hK hP cl_X1 iT_X1 10 (by decide) fl_X1_40 0 rfl rfl dX1_measure_36 ?_
                refine lv_iload_n hx hb dX1_measure_39 rfl (lv_at hl 3 rfl) ?_
                obtain ⟨h7, hb5⟩ := ck_some hb5
                refine m_iald X hK hP 1 rfl (by decide) h7 dX1_measure_40 ?_
                refine m_bipush X dX1_measure_41 (by decide) ?_
                obtain ⟨o8, hj8, hr8⟩ := bd_some hb5
                have J8 : ∀ (o_ : Int × (Nat → Int)), o8 = o_ → ∀ (H : Heap) (locs : List Loc) (ls : Array Slot), lv_has ls 4 [(0, .ref a_t), (1, .int (z4 o_.1)), (2, .int (z4 v13_2)), (3, .int (z4 v27_3))] → va_P D vwCl [(a_t, .inr (1, [.ref a_t_plan, .int (z4 t_pasts), .ref a_t_leads, .ref a_t_part, .ref a_t_finer, .ref a_t_keys, .ref a_t_stateOfPart, .ref a_t_pastOfState, .int (z4 t_states), .ref a_t_steps, .ref a_t_away])), (a_t_away, .inl (E 0, 64, .inl (A4 o_.2))), (a_t_steps, .inl (E 0, 320, .inl (A4 t_steps)))] H → va_D A [(a_t, .inr (1, [.ref a_t_plan, .int (z4 t_pasts), .ref a_t_leads, .ref a_t_part, .ref a_t_finer, .ref a_t_keys, .ref a_t_stateOfPart, .ref a_t_pastOfState, .int (z4 t_states), .ref a_t_steps, .ref a_t_away])), (a_t_away, .inl (E 0, 64, .inl (A4 o_.2))), (a_t_steps, .inl (E 0, 320, .inl (A4 t_steps)))] → va_S A s.heap H locs → W p l e rm_X1_measure s m args below meth c H locs 0 0 Q (F0 m 68 ls []) := by
                  intro o_ ho_ H locs ls hl hP hD hS
                  subst ho_
                  refine m_iinc X 3 [(3, .int (z4 (v27_3 + 1))), (0, .ref a_t), (1, .int (z4 o8.1)), (2, .int (z4 v13_2))] dX1_measure_68 hl rfl (by decide) rfl (fun ls hl => ?_)
                  refine lv_goto (tgt := 27) hx hb dX1_measure_71 (by decide) ?_
                  obtain rfl := Option.some.inj hr8
                  exact ih5 _ _ _ _ _ _ (lv_sub hl [1, 2, 3, 0] rfl) hP hD hS hq5
                obtain ⟨h9, hj8⟩ := ck_some hj8
                refine m_icmp_ne X ⟨h9, ⟨by decide, by decide⟩⟩ dX1_measure_43 (tgt := 68) (by decide) (fun (hc_ : ¬ (t_away_l27 (v27_3).toNat = (-9))) => ?_) (fun (hc_ : t_away_l27 (v27_3).toNat = (-9)) => ?_)
                · rw [if_neg hc_] at hj8
                  exact J8 _ (Option.some.inj hj8).symm _ _ _ (lv_sub hl [0, 1, 2, 3] rfl) hP hD hS
                · rw [if_pos hc_] at hj8
                  refine lv_aload_n hx hb dX1_measure_46 rfl (lv_at hl 0 rfl) ?_
                  refine lv_iload_n hx hb dX1_measure_47 rfl (lv_at hl 3 rfl) ?_
                  refine lv_iload_n hx hb dX1_measure_48 rfl (lv_at hl 2 rfl) ?_
                  refine m_iconst X dX1_measure_49 ?_
                  refine m_isub X dX1_measure_50 ?_
                  obtain ⟨o10, ho, hj8⟩ := bd_some hj8
                  refine m_cVR X hK (k_X1_signTo n a_t a_t_plan a_t_leads a_t_part a_t_finer a_t_keys a_t_stateOfPart a_t_pastOfState a_t_steps a_t_away t_pasts t_states t_steps t_away_l27 v27_3 (v13_2 - 1) o10 ho) (hP.sub [0, 2, 1] rfl) rfl cl_X1 lk_X1_108 co_X1_signTo dy_X1_signTo rfl rfl ⟨Nat.le_of_ble_eq_true rfl, Nat.le_of_ble_eq_true rfl⟩ hl.1 rfl (Nat.le_of_ble_eq_true rfl) dX1_measure_51 (Nat.zero_le _) (Nat.zero_le _) ?_
                  refine m_bipush X dX1_measure_54 (by decide) ?_
                  obtain ⟨h11, hj8⟩ := ck_some hj8
                  refine m_icmp_eq X ⟨h11, ⟨by decide, by decide⟩⟩ dX1_measure_56 (tgt := 68) (by decide) (fun (hc_ : o10 = (-9)) => ?_) (fun (hc_ : ¬ (o10 = (-9))) => ?_)
                  · rw [if_pos hc_] at hj8
                    exact J8 _ (Option.some.inj hj8).symm _ _ _ (lv_sub hl [0, 1, 2, 3] rfl) hP hD hS
                  · rw [if_neg hc_] at hj8
                    refine lv_aload_n hx hb dX1_measure_59 rfl (lv_at hl 0 rfl) ?_
                    refine m_get X hK hP cl_X1 iT_X1 10 (by decide) fl_X1_40 0 rfl rfl dX1_measure_60 ?_
                    refine lv_iload_n hx hb dX1_measure_63 rfl (lv_at hl 3 rfl) ?_
                    refine lv_iload_n hx hb dX1_measure_64 rfl (lv_at hl 2 rfl) ?_
                    obtain ⟨h12, hj8⟩ := ck_some hj8
                    refine m_iast X hK hP hD hS 1 rfl (by decide) h12 [(a_t, .inr (1, [.ref a_t_plan, .int (z4 t_pasts), .ref a_t_leads, .ref a_t_part, .ref a_t_finer, .ref a_t_keys, .ref a_t_stateOfPart, .ref a_t_pastOfState, .int (z4 t_states), .ref a_t_steps, .ref a_t_away])), (a_t_away, .inl (E 0, 64, .inl (A4 (up_ t_away_l27 (v27_3).toNat v13_2)))), (a_t_steps, .inl (E 0, 320, .inl (A4 t_steps)))] rfl dX1_measure_65 (fun H locs hP hD hS => ?_)
                    refine m_iconst X dX1_measure_66 ?_
                    refine lv_istore_n (lv' := [(1, .int (z4 1)), (0, .ref a_t), (2, .int (z4 v13_2)), (3, .int (z4 v27_3))]) hx hb dX1_measure_67 rfl hl (by decide) rfl (fun ls hl => ?_)
                    exact J8 _ (Option.some.inj hj8).symm _ _ _ (lv_sub hl [1, 0, 2, 3] rfl) hP hD hS
          exact L5 n _ _ _ _ _ _ (lv_sub hl [2, 1, 3, 0] rfl) hP hD hS hj5
  exact L2 n _ _ _ _ _ _ (lv_sub hl [2, 1, 0] rfl) hP hD hS hj2
def F_X1_build_L34 (n : Nat) (o1 : Int) (o4 : (Nat → Int)) (v34_1 : Int) (v34_2 : Int) (t_part_l34 : Nat → Int) (t_keys_l34 : Nat → Int) (t_finer_l34 : Nat → Int) : Option ((Int × Int × (Nat → Int) × (Nat → Int) × (Nat → Int)) ⊕ (((Nat → Int) × (Nat → Int) × (Nat → Int)) ⊕ ((Nat → Int) × (Nat → Int) × (Nat → Int)))) :=
  ck (r4 v34_2) <|
  if v34_2 < 64 then
    (F_X1_split n (min 64 (sl_ 1 o1)) o4 t_part_l34 t_keys_l34 t_finer_l34).bind fun o8 =>
    ck (r4 o8.1 ∧ r4 v34_1) <|
    if o8.1 = v34_1 then
      some (.inr (.inr (o8.2.1, o8.2.2.1, o8.2.2.2)))
    else
      some (.inl (o8.1, v34_2 + 1, o8.2.1, o8.2.2.1, o8.2.2.2))
  else
    some (.inr (.inl (t_part_l34, t_keys_l34, t_finer_l34)))
def F_X1_build (n : Nat)  (t_plan_rules : Int) (t_plan_of : Nat → Int) (t_plan_set : Nat → Int) (t_plan_least : Nat → Int) (t_leads : Nat → Int) (t_part : Nat → Int) (t_keys : Nat → Int) (t_finer : Nat → Int) (t_stateOfPart : Nat → Int) (t_pastOfState : Nat → Int) (t_steps : Nat → Int) (t_away : Nat → Int)  : Option (Int × Int × (Nat → Int) × (Nat → Int) × (Nat → Int) × (Nat → Int) × (Nat → Int) × (Nat → Int) × (Nat → Int) × (Nat → Int)) :=
  (F_X4_pastWidth n t_plan_rules t_plan_of).bind fun o1 =>
  ck (hS_ 1 o1) <|
  ck (r4 (sl_ 1 o1)) <|
  (F_X1_lead n (min 64 (sl_ 1 o1)) t_plan_rules t_plan_of t_plan_set t_plan_least t_leads).bind fun o4 =>
  (F_J7_fill_53178 n 64 t_part 0).bind fun o5 =>
  (lp_ (fun (q : Int × Int × (Nat → Int) × (Nat → Int) × (Nat → Int)) => F_X1_build_L34 n o1 o4 q.1 q.2.1 q.2.2.1 q.2.2.2.1 q.2.2.2.2) n (1, 0, o5, t_keys, t_finer)).bind fun o6 => match o6 with
  | .inl o6_0 =>
    (F_X1_numberStates n t_stateOfPart o6_0.1 t_pastOfState o4 t_steps).bind fun o10 =>
    (F_X1_measure n o10.1 t_away o10.2.2.2).bind fun o11 =>
    some (min 64 (sl_ 1 o1), o10.1, o4, o6_0.1, o6_0.2.1, o6_0.2.2, o10.2.1, o10.2.2.1, o10.2.2.2, o11)
  | .inr o6_1 =>
    (F_X1_numberStates n t_stateOfPart o6_1.1 t_pastOfState o4 t_steps).bind fun o12 =>
    (F_X1_measure n o12.1 t_away o12.2.2.2).bind fun o13 =>
    some (min 64 (sl_ 1 o1), o12.1, o4, o6_1.1, o6_1.2.1, o6_1.2.2, o12.2.1, o12.2.2.1, o12.2.2.2, o13)
def rm_X1_build : Room := { frames := 3, cells := 0, slots := 0, locals := 73 }
set_option maxHeartbeats 4000000 in
set_option maxRecDepth 100000 in
theorem k_X1_build {l : Launch} {D : va_G} {E : Nat → ClassId} (n : Nat) (a_t a_t_plan a_t_leads a_t_part a_t_finer a_t_keys a_t_stateOfPart a_t_pastOfState a_t_steps a_t_away a_t_plan_least a_t_plan_of a_t_plan_set a_t_plan_chances : Nat) (t_pasts : Int) (t_states : Int) (t_plan_rules : Int) (t_plan_slack : Int) (t_plan_limit : Int) (t_plan_of : Nat → Int) (t_plan_set : Nat → Int) (t_plan_least : Nat → Int) (t_leads : Nat → Int) (t_part : Nat → Int) (t_keys : Nat → Int) (t_finer : Nat → Int) (t_stateOfPart : Nat → Int) (t_pastOfState : Nat → Int) (t_steps : Nat → Int) (t_away : Nat → Int) (res : Int × Int × (Nat → Int) × (Nat → Int) × (Nat → Int) × (Nat → Int) × (Nat → Int) × (Nat → Int) × (Nat → Int) × (Nat → Int)) (hf : F_X1_build n t_plan_rules t_plan_of t_plan_set t_plan_least t_leads t_part t_keys t_finer t_stateOfPart t_pastOfState t_steps t_away = some res) : MW l yX1_build (.code yX1_build cX1_build 4 none) rm_X1_build D E [.ref a_t] [(a_t, .inr (1, [.ref a_t_plan, .int (z4 t_pasts), .ref a_t_leads, .ref a_t_part, .ref a_t_finer, .ref a_t_keys, .ref a_t_stateOfPart, .ref a_t_pastOfState, .int (z4 t_states), .ref a_t_steps, .ref a_t_away])), (a_t_plan, .inr (4, [.int (z4 t_plan_rules), .ref a_t_plan_least, .ref a_t_plan_of, .ref a_t_plan_set, .ref a_t_plan_chances, .int (z4 t_plan_slack), .int (z4 t_plan_limit)])), (a_t_plan_of, .inl (E 0, 3, .inl (A4 t_plan_of))), (a_t_plan_set, .inl (E 0, 3, .inl (A4 t_plan_set))), (a_t_plan_least, .inl (E 0, 3, .inl (A4 t_plan_least))), (a_t_leads, .inl (E 0, 320, .inl (A4 t_leads))), (a_t_part, .inl (E 0, 64, .inl (A4 t_part))), (a_t_keys, .inl (E 0, 64, .inl (A4 t_keys))), (a_t_finer, .inl (E 0, 64, .inl (A4 t_finer))), (a_t_stateOfPart, .inl (E 0, 64, .inl (A4 t_stateOfPart))), (a_t_pastOfState, .inl (E 0, 64, .inl (A4 t_pastOfState))), (a_t_steps, .inl (E 0, 320, .inl (A4 t_steps))), (a_t_away, .inl (E 0, 64, .inl (A4 t_away)))] none [(a_t, .inr (1, [.ref a_t_plan, .int (z4 res.1), .ref a_t_leads, .ref a_t_part, .ref a_t_finer, .ref a_t_keys, .ref a_t_stateOfPart, .ref a_t_pastOfState, .int (z4 res.2.1), .ref a_t_steps, .ref a_t_away])), (a_t_plan, .inr (4, [.int (z4 t_plan_rules), .ref a_t_plan_least, .ref a_t_plan_of, .ref a_t_plan_set, .ref a_t_plan_chances, .int (z4 t_plan_slack), .int (z4 t_plan_limit)])), (a_t_plan_of, .inl (E 0, 3, .inl (A4 t_plan_of))), (a_t_plan_set, .inl (E 0, 3, .inl (A4 t_plan_set))), (a_t_plan_least, .inl (E 0, 3, .inl (A4 t_plan_least))), (a_t_leads, .inl (E 0, 320, .inl (A4 res.2.2.1))), (a_t_part, .inl (E 0, 64, .inl (A4 res.2.2.2.1))), (a_t_keys, .inl (E 0, 64, .inl (A4 res.2.2.2.2.1))), (a_t_finer, .inl (E 0, 64, .inl (A4 res.2.2.2.2.2.1))), (a_t_stateOfPart, .inl (E 0, 64, .inl (A4 res.2.2.2.2.2.2.1))), (a_t_pastOfState, .inl (E 0, 64, .inl (A4 res.2.2.2.2.2.2.2.1))), (a_t_steps, .inl (E 0, 320, .inl (A4 res.2.2.2.2.2.2.2.2.1))), (a_t_away, .inl (E 0, 64, .inl (A4 res.2.2.2.2.2.2.2.2.2)))] := by
  refine MWv (by decide) (Nat.le_of_ble_eq_true rfl) ?_
  intro p e s m args below meth c A Q X hK hP hD hA ret ls hl
  have hS : va_S A s.heap s.heap [] := va_S.rf
  have hx := X.1
  have hb := X.2.1
  have hl : lv_has ls 4 [(0, .ref a_t)] := hl
  unfold F_X1_build at hf
  refine lv_aload_n hx hb dX1_build_0 rfl (lv_at hl 0 rfl) ?_
  refine m_bipush X dX1_build_1 (by decide) ?_
  refine m_iconst X dX1_build_3 ?_
  refine lv_aload_n hx hb dX1_build_4 rfl (lv_at hl 0 rfl) ?_
  refine m_get X hK hP cl_X1 iT_X1 0 (by decide) fl_X1_12 0 rfl rfl dX1_build_5 ?_
  obtain ⟨o1, ho, hf⟩ := bd_some hf
  refine m_cVR X hK (k_X4_pastWidth n a_t_plan a_t_plan_least a_t_plan_of a_t_plan_set a_t_plan_chances t_plan_rules t_plan_slack t_plan_limit t_plan_of o1 ho) (hP.sub [1, 2] rfl) rfl cl_X4 lk_X1_60 co_X4_pastWidth dy_X4_pastWidth rfl rfl ⟨Nat.le_of_ble_eq_true rfl, Nat.le_of_ble_eq_true rfl⟩ hl.1 rfl (Nat.le_of_ble_eq_true rfl) dX1_build_8 (Nat.zero_le _) (Nat.zero_le _) ?_
  obtain ⟨h2, hf⟩ := ck_some hf
  refine m_ishl X h2 dX1_build_11 ?_
  obtain ⟨h3, hf⟩ := ck_some hf
  refine m_min X ml_X1_64 st_min in_Math cd_min hl.1 (Nat.le_of_ble_eq_true rfl) (Nat.le_of_ble_eq_true rfl) (Nat.zero_le _) (Nat.zero_le _) ⟨⟨by decide, by decide⟩, h3⟩ dX1_build_12 ?_
  refine m_put X hK hP hD hS cl_X1 iT_X1 tyX1 tyX1_ok nmX1 1 (by decide) fl_X1_67 rfl 0 rfl rfl rfl (Nat.le_of_ble_eq_true rfl) [(a_t, .inr (1, [.ref a_t_plan, .int (z4 (min 64 (sl_ 1 o1))), .ref a_t_leads, .ref a_t_part, .ref a_t_finer, .ref a_t_keys, .ref a_t_stateOfPart, .ref a_t_pastOfState, .int (z4 t_states), .ref a_t_steps, .ref a_t_away])), (a_t_plan, .inr (4, [.int (z4 t_plan_rules), .ref a_t_plan_least, .ref a_t_plan_of, .ref a_t_plan_set, .ref a_t_plan_chances, .int (z4 t_plan_slack), .int (z4 t_plan_limit)])), (a_t_plan_of, .inl (E 0, 3, .inl (A4 t_plan_of))), (a_t_plan_set, .inl (E 0, 3, .inl (A4 t_plan_set))), (a_t_plan_least, .inl (E 0, 3, .inl (A4 t_plan_least))), (a_t_leads, .inl (E 0, 320, .inl (A4 t_leads))), (a_t_part, .inl (E 0, 64, .inl (A4 t_part))), (a_t_keys, .inl (E 0, 64, .inl (A4 t_keys))), (a_t_finer, .inl (E 0, 64, .inl (A4 t_finer))), (a_t_stateOfPart, .inl (E 0, 64, .inl (A4 t_stateOfPart))), (a_t_pastOfState, .inl (E 0, 64, .inl (A4 t_pastOfState))), (a_t_steps, .inl (E 0, 320, .inl (A4 t_steps))), (a_t_away, .inl (E 0, 64, .inl (A4 t_away)))] rfl dX1_build_15 (fun H locs hP hD hS => ?_)
  refine lv_aload_n hx hb dX1_build_18 rfl (lv_at hl 0 rfl) ?_
  obtain ⟨o4, ho, hf⟩ := bd_some hf
  refine m_cVW X hK hP hD hS hA (wr := [(a_t_part, .inl (E 0, 64, .inl (A4 t_part))), (a_t_keys, .inl (E 0, 64, .inl (A4 t_keys))), (a_t_finer, .inl (E 0, 64, .inl (A4 t_finer))), (a_t_stateOfPart, .inl (E 0, 64, .inl (A4 t_stateOfPart))), (a_t_pastOfState, .inl (E 0, 64, .inl (A4 t_pastOfState))), (a_t_steps, .inl (E 0, 320, .inl (A4 t_steps))), (a_t_away, .inl (E 0, 64, .inl (A4 t_away)))]) (k_X1_lead n a_t a_t_plan a_t_leads a_t_part a_t_finer a_t_keys a_t_stateOfPart a_t_pastOfState a_t_steps a_t_away a_t_plan_least a_t_plan_of a_t_plan_set a_t_plan_chances (min 64 (sl_ 1 o1)) t_states t_plan_rules t_plan_slack t_plan_limit t_plan_of t_plan_set t_plan_least t_leads o4 ho) [0, 1, 2, 3, 4, 5] [6, 7, 8, 9, 10, 11, 12] [7, 8, 9, 10, 11, 12, 0, 1, 2, 3, 4, 5, 6] [(a_t, .inr (1, [.ref a_t_plan, .int (z4 (min 64 (sl_ 1 o1))), .ref a_t_leads, .ref a_t_part, .ref a_t_finer, .ref a_t_keys, .ref a_t_stateOfPart, .ref a_t_pastOfState, .int (z4 t_states), .ref a_t_steps, .ref a_t_away])), (a_t_plan, .inr (4, [.int (z4 t_plan_rules), .ref a_t_plan_least, .ref a_t_plan_of, .ref a_t_plan_set, .ref a_t_plan_chances, .int (z4 t_plan_slack), .int (z4 t_plan_limit)])), (a_t_plan_of, .inl (E 0, 3, .inl (A4 t_plan_of))), (a_t_plan_set, .inl (E 0, 3, .inl (A4 t_plan_set))), (a_t_plan_least, .inl (E 0, 3, .inl (A4 t_plan_least))), (a_t_leads, .inl (E 0, 320, .inl (A4 o4))), (a_t_part, .inl (E 0, 64, .inl (A4 t_part))), (a_t_keys, .inl (E 0, 64, .inl (A4 t_keys))), (a_t_finer, .inl (E 0, 64, .inl (A4 t_finer))), (a_t_stateOfPart, .inl (E 0, 64, .inl (A4 t_stateOfPart))), (a_t_pastOfState, .inl (E 0, 64, .inl (A4 t_pastOfState))), (a_t_steps, .inl (E 0, 320, .inl (A4 t_steps))), (a_t_away, .inl (E 0, 64, .inl (A4 t_away)))] rfl rfl rfl rfl (by decide) rfl rfl rfl cl_X1 lk_X1_71 co_X1_lead dy_X1_lead rfl rfl ⟨Nat.le_of_ble_eq_true rfl, Nat.le_of_ble_eq_true rfl⟩ hl.1 rfl (Nat.le_of_ble_eq_true rfl) dX1_build_19 (Nat.zero_le _) (Nat.zero_le _) (fun H locs hP hD hS => ?_)
  refine lv_aload_n hx hb dX1_build_22 rfl (lv_at hl 0 rfl) ?_
  refine m_get X hK hP cl_X1 iT_X1 3 (by decide) fl_X1_22 0 rfl rfl dX1_build_23 ?_
  refine m_iconst X dX1_build_26 ?_
  obtain ⟨o5, ho, hf⟩ := bd_some hf
  refine m_cSW X hK hP hD hS hA (wr := [(a_t, .inr (1, [.ref a_t_plan, .int (z4 (min 64 (sl_ 1 o1))), .ref a_t_leads, .ref a_t_part, .ref a_t_finer, .ref a_t_keys, .ref a_t_stateOfPart, .ref a_t_pastOfState, .int (z4 t_states), .ref a_t_steps, .ref a_t_away])), (a_t_plan, .inr (4, [.int (z4 t_plan_rules), .ref a_t_plan_least, .ref a_t_plan_of, .ref a_t_plan_set, .ref a_t_plan_chances, .int (z4 t_plan_slack), .int (z4 t_plan_limit)])), (a_t_plan_of, .inl (E 0, 3, .inl (A4 t_plan_of))), (a_t_plan_set, .inl (E 0, 3, .inl (A4 t_plan_set))), (a_t_plan_least, .inl (E 0, 3, .inl (A4 t_plan_least))), (a_t_leads, .inl (E 0, 320, .inl (A4 o4))), (a_t_keys, .inl (E 0, 64, .inl (A4 t_keys))), (a_t_finer, .inl (E 0, 64, .inl (A4 t_finer))), (a_t_stateOfPart, .inl (E 0, 64, .inl (A4 t_stateOfPart))), (a_t_pastOfState, .inl (E 0, 64, .inl (A4 t_pastOfState))), (a_t_steps, .inl (E 0, 320, .inl (A4 t_steps))), (a_t_away, .inl (E 0, 64, .inl (A4 t_away)))]) (k_J7_fill_53178 n a_t_part 64 (by decide) t_part 0 o5 ho) [6] [0, 1, 2, 3, 4, 5, 7, 8, 9, 10, 11, 12] [0, 1, 2, 3, 4, 5, 12, 6, 7, 8, 9, 10, 11] [(a_t, .inr (1, [.ref a_t_plan, .int (z4 (min 64 (sl_ 1 o1))), .ref a_t_leads, .ref a_t_part, .ref a_t_finer, .ref a_t_keys, .ref a_t_stateOfPart, .ref a_t_pastOfState, .int (z4 t_states), .ref a_t_steps, .ref a_t_away])), (a_t_plan, .inr (4, [.int (z4 t_plan_rules), .ref a_t_plan_least, .ref a_t_plan_of, .ref a_t_plan_set, .ref a_t_plan_chances, .int (z4 t_plan_slack), .int (z4 t_plan_limit)])), (a_t_plan_of, .inl (E 0, 3, .inl (A4 t_plan_of))), (a_t_plan_set, .inl (E 0, 3, .inl (A4 t_plan_set))), (a_t_plan_least, .inl (E 0, 3, .inl (A4 t_plan_least))), (a_t_leads, .inl (E 0, 320, .inl (A4 o4))), (a_t_part, .inl (E 0, 64, .inl (A4 o5))), (a_t_keys, .inl (E 0, 64, .inl (A4 t_keys))), (a_t_finer, .inl (E 0, 64, .inl (A4 t_finer))), (a_t_stateOfPart, .inl (E 0, 64, .inl (A4 t_stateOfPart))), (a_t_pastOfState, .inl (E 0, 64, .inl (A4 t_pastOfState))), (a_t_steps, .inl (E 0, 320, .inl (A4 t_steps))), (a_t_away, .inl (E 0, 64, .inl (A4 t_away)))] rfl rfl rfl rfl (by decide) rfl rfl lk_X1_74 co_J7_fill_53178 dy_J7_fill_53178 rfl rfl ⟨Nat.le_of_ble_eq_true rfl, Nat.le_of_ble_eq_true rfl⟩ hl.1 rfl (Nat.le_of_ble_eq_true rfl) dX1_build_27 (Nat.zero_le _) (Nat.zero_le _) (fun H locs hP hD hS => ?_)
  refine m_iconst X dX1_build_30 ?_
  refine lv_istore_n (lv' := [(1, .int (z4 1)), (0, .ref a_t)]) hx hb dX1_build_31 rfl hl (by decide) rfl (fun ls hl => ?_)
  refine m_iconst X dX1_build_32 ?_
  refine lv_istore_n (lv' := [(2, .int (z4 0)), (1, .int (z4 1)), (0, .ref a_t)]) hx hb dX1_build_33 rfl hl (by decide) rfl (fun ls hl => ?_)
  obtain ⟨o6, hj6, hr6⟩ := bd_some hf
  have E6_0 : ∀ (o_ : (Nat → Int) × (Nat → Int) × (Nat → Int)), o6 = (.inl o_) → ∀ (H : Heap) (locs : List Loc) (ls : Array Slot), lv_has ls 4 [(0, .ref a_t)] → va_P D vwCl [(a_t, .inr (1, [.ref a_t_plan, .int (z4 (min 64 (sl_ 1 o1))), .ref a_t_leads, .ref a_t_part, .ref a_t_finer, .ref a_t_keys, .ref a_t_stateOfPart, .ref a_t_pastOfState, .int (z4 t_states), .ref a_t_steps, .ref a_t_away])), (a_t_plan, .inr (4, [.int (z4 t_plan_rules), .ref a_t_plan_least, .ref a_t_plan_of, .ref a_t_plan_set, .ref a_t_plan_chances, .int (z4 t_plan_slack), .int (z4 t_plan_limit)])), (a_t_plan_of, .inl (E 0, 3, .inl (A4 t_plan_of))), (a_t_plan_set, .inl (E 0, 3, .inl (A4 t_plan_set))), (a_t_plan_least, .inl (E 0, 3, .inl (A4 t_plan_least))), (a_t_leads, .inl (E 0, 320, .inl (A4 o4))), (a_t_part, .inl (E 0, 64, .inl (A4 o_.1))), (a_t_keys, .inl (E 0, 64, .inl (A4 o_.2.1))), (a_t_finer, .inl (E 0, 64, .inl (A4 o_.2.2))), (a_t_stateOfPart, .inl (E 0, 64, .inl (A4 t_stateOfPart))), (a_t_pastOfState, .inl (E 0, 64, .inl (A4 t_pastOfState))), (a_t_steps, .inl (E 0, 320, .inl (A4 t_steps))), (a_t_away, .inl (E 0, 64, .inl (A4 t_away)))] H → va_D A [(a_t, .inr (1, [.ref a_t_plan, .int (z4 (min 64 (sl_ 1 o1))), .ref a_t_leads, .ref a_t_part, .ref a_t_finer, .ref a_t_keys, .ref a_t_stateOfPart, .ref a_t_pastOfState, .int (z4 t_states), .ref a_t_steps, .ref a_t_away])), (a_t_plan, .inr (4, [.int (z4 t_plan_rules), .ref a_t_plan_least, .ref a_t_plan_of, .ref a_t_plan_set, .ref a_t_plan_chances, .int (z4 t_plan_slack), .int (z4 t_plan_limit)])), (a_t_plan_of, .inl (E 0, 3, .inl (A4 t_plan_of))), (a_t_plan_set, .inl (E 0, 3, .inl (A4 t_plan_set))), (a_t_plan_least, .inl (E 0, 3, .inl (A4 t_plan_least))), (a_t_leads, .inl (E 0, 320, .inl (A4 o4))), (a_t_part, .inl (E 0, 64, .inl (A4 o_.1))), (a_t_keys, .inl (E 0, 64, .inl (A4 o_.2.1))), (a_t_finer, .inl (E 0, 64, .inl (A4 o_.2.2))), (a_t_stateOfPart, .inl (E 0, 64, .inl (A4 t_stateOfPart))), (a_t_pastOfState, .inl (E 0, 64, .inl (A4 t_pastOfState))), (a_t_steps, .inl (E 0, 320, .inl (A4 t_steps))), (a_t_away, .inl (E 0, 64, .inl (A4 t_away)))] → va_S A s.heap H locs → W p l e rm_X1_build s m args below meth c H locs 0 0 Q (F0 m 61 ls []) := by
    intro o6_0 ho_ H locs ls hl hP hD hS
    subst ho_
    refine lv_aload_n hx hb dX1_build_61 rfl (lv_at hl 0 rfl) ?_
    obtain ⟨o10, ho, hr6⟩ := bd_some hr6
    refine m_cVW X hK hP hD hS hA (wr := [(a_t_plan, .inr (4, [.int (z4 t_plan_rules), .ref a_t_plan_least, .ref a_t_plan_of, .ref a_t_plan_set, .ref a_t_plan_chances, .int (z4 t_plan_slack), .int (z4 t_plan_limit)])), (a_t_plan_of, .inl (E 0, 3, .inl (A4 t_plan_of))), (a_t_plan_set, .inl (E 0, 3, .inl (A4 t_plan_set))), (a_t_plan_least, .inl (E 0, 3, .inl (A4 t_plan_least))), (a_t_keys, .inl (E 0, 64, .inl (A4 o6_0.2.1))), (a_t_finer, .inl (E 0, 64, .inl (A4 o6_0.2.2))), (a_t_away, .inl (E 0, 64, .inl (A4 t_away)))]) (k_X1_numberStates n a_t a_t_plan a_t_leads a_t_part a_t_finer a_t_keys a_t_stateOfPart a_t_pastOfState a_t_steps a_t_away (min 64 (sl_ 1 o1)) t_states t_stateOfPart o6_0.1 t_pastOfState o4 t_steps o10 ho) [0, 9, 6, 10, 5, 11] [1, 2, 3, 4, 7, 8, 12] [7, 0, 1, 2, 3, 11, 9, 4, 5, 8, 10, 12, 6] [(a_t, .inr (1, [.ref a_t_plan, .int (z4 (min 64 (sl_ 1 o1))), .ref a_t_leads, .ref a_t_part, .ref a_t_finer, .ref a_t_keys, .ref a_t_stateOfPart, .ref a_t_pastOfState, .int (z4 o10.1), .ref a_t_steps, .ref a_t_away])), (a_t_plan, .inr (4, [.int (z4 t_plan_rules), .ref a_t_plan_least, .ref a_t_plan_of, .ref a_t_plan_set, .ref a_t_plan_chances, .int (z4 t_plan_slack), .int (z4 t_plan_limit)])), (a_t_plan_of, .inl (E 0, 3, .inl (A4 t_plan_of))), (a_t_plan_set, .inl (E 0, 3, .inl (A4 t_plan_set))), (a_t_plan_least, .inl (E 0, 3, .inl (A4 t_plan_least))), (a_t_leads, .inl (E 0, 320, .inl (A4 o4))), (a_t_part, .inl (E 0, 64, .inl (A4 o6_0.1))), (a_t_keys, .inl (E 0, 64, .inl (A4 o6_0.2.1))), (a_t_finer, .inl (E 0, 64, .inl (A4 o6_0.2.2))), (a_t_stateOfPart, .inl (E 0, 64, .inl (A4 o10.2.1))), (a_t_pastOfState, .inl (E 0, 64, .inl (A4 o10.2.2.1))), (a_t_steps, .inl (E 0, 320, .inl (A4 o10.2.2.2))), (a_t_away, .inl (E 0, 64, .inl (A4 t_away)))] rfl rfl rfl rfl (by decide) rfl rfl rfl cl_X1 lk_X1_83 co_X1_numberStates dy_X1_numberStates rfl rfl ⟨Nat.le_of_ble_eq_true rfl, Nat.le_of_ble_eq_true rfl⟩ hl.1 rfl (Nat.le_of_ble_eq_true rfl) dX1_build_62 (Nat.zero_le _) (Nat.zero_le _) (fun H locs hP hD hS => ?_)
    refine lv_aload_n hx hb dX1_build_65 rfl (lv_at hl 0 rfl) ?_
    obtain ⟨o11, ho, hr6⟩ := bd_some hr6
    refine m_cVW X hK hP hD hS hA (wr := [(a_t_plan, .inr (4, [.int (z4 t_plan_rules), .ref a_t_plan_least, .ref a_t_plan_of, .ref a_t_plan_set, .ref a_t_plan_chances, .int (z4 t_plan_slack), .int (z4 t_plan_limit)])), (a_t_plan_of, .inl (E 0, 3, .inl (A4 t_plan_of))), (a_t_plan_set, .inl (E 0, 3, .inl (A4 t_plan_set))), (a_t_plan_least, .inl (E 0, 3, .inl (A4 t_plan_least))), (a_t_leads, .inl (E 0, 320, .inl (A4 o4))), (a_t_part, .inl (E 0, 64, .inl (A4 o6_0.1))), (a_t_keys, .inl (E 0, 64, .inl (A4 o6_0.2.1))), (a_t_finer, .inl (E 0, 64, .inl (A4 o6_0.2.2))), (a_t_stateOfPart, .inl (E 0, 64, .inl (A4 o10.2.1))), (a_t_pastOfState, .inl (E 0, 64, .inl (A4 o10.2.2.1)))]) (k_X1_measure n a_t a_t_plan a_t_leads a_t_part a_t_finer a_t_keys a_t_stateOfPart a_t_pastOfState a_t_steps a_t_away (min 64 (sl_ 1 o1)) o10.1 t_away o10.2.2.2 o11 ho) [0, 12, 11] [1, 2, 3, 4, 5, 6, 7, 8, 9, 10] [10, 0, 1, 2, 3, 4, 5, 6, 7, 8, 9, 12, 11] [(a_t, .inr (1, [.ref a_t_plan, .int (z4 (min 64 (sl_ 1 o1))), .ref a_t_leads, .ref a_t_part, .ref a_t_finer, .ref a_t_keys, .ref a_t_stateOfPart, .ref a_t_pastOfState, .int (z4 o10.1), .ref a_t_steps, .ref a_t_away])), (a_t_plan, .inr (4, [.int (z4 t_plan_rules), .ref a_t_plan_least, .ref a_t_plan_of, .ref a_t_plan_set, .ref a_t_plan_chances, .int (z4 t_plan_slack), .int (z4 t_plan_limit)])), (a_t_plan_of, .inl (E 0, 3, .inl (A4 t_plan_of))), (a_t_plan_set, .inl (E 0, 3, .inl (A4 t_plan_set))), (a_t_plan_least, .inl (E 0, 3, .inl (A4 t_plan_least))), (a_t_leads, .inl (E 0, 320, .inl (A4 o4))), (a_t_part, .inl (E 0, 64, .inl (A4 o6_0.1))), (a_t_keys, .inl (E 0, 64, .inl (A4 o6_0.2.1))), (a_t_finer, .inl (E 0, 64, .inl (A4 o6_0.2.2))), (a_t_stateOfPart, .inl (E 0, 64, .inl (A4 o10.2.1))), (a_t_pastOfState, .inl (E 0, 64, .inl (A4 o10.2.2.1))), (a_t_steps, .inl (E 0, 320, .inl (A4 o10.2.2.2))), (a_t_away, .inl (E 0, 64, .inl (A4 o11)))] rfl rfl rfl rfl (by decide) rfl rfl rfl cl_X1 lk_X1_86 co_X1_measure dy_X1_measure rfl rfl ⟨Nat.le_of_ble_eq_true rfl, Nat.le_of_ble_eq_true rfl⟩ hl.1 rfl (Nat.le_of_ble_eq_true rfl) dX1_build_66 (Nat.zero_le _) (Nat.zero_le _) (fun H locs hP hD hS => ?_)
    obtain rfl := Option.some.inj hr6
    exact ret _ _ _ _ hP hD hS dX1_build_69
  have E6_1 : ∀ (o_ : (Nat → Int) × (Nat → Int) × (Nat → Int)), o6 = (.inr o_) → ∀ (H : Heap) (locs : List Loc) (ls : Array Slot), lv_has ls 4 [(0, .ref a_t)] → va_P D vwCl [(a_t, .inr (1, [.ref a_t_plan, .int (z4 (min 64 (sl_ 1 o1))), .ref a_t_leads, .ref a_t_part, .ref a_t_finer, .ref a_t_keys, .ref a_t_stateOfPart, .ref a_t_pastOfState, .int (z4 t_states), .ref a_t_steps, .ref a_t_away])), (a_t_plan, .inr (4, [.int (z4 t_plan_rules), .ref a_t_plan_least, .ref a_t_plan_of, .ref a_t_plan_set, .ref a_t_plan_chances, .int (z4 t_plan_slack), .int (z4 t_plan_limit)])), (a_t_plan_of, .inl (E 0, 3, .inl (A4 t_plan_of))), (a_t_plan_set, .inl (E 0, 3, .inl (A4 t_plan_set))), (a_t_plan_least, .inl (E 0, 3, .inl (A4 t_plan_least))), (a_t_leads, .inl (E 0, 320, .inl (A4 o4))), (a_t_part, .inl (E 0, 64, .inl (A4 o_.1))), (a_t_keys, .inl (E 0, 64, .inl (A4 o_.2.1))), (a_t_finer, .inl (E 0, 64, .inl (A4 o_.2.2))), (a_t_stateOfPart, .inl (E 0, 64, .inl (A4 t_stateOfPart))), (a_t_pastOfState, .inl (E 0, 64, .inl (A4 t_pastOfState))), (a_t_steps, .inl (E 0, 320, .inl (A4 t_steps))), (a_t_away, .inl (E 0, 64, .inl (A4 t_away)))] H → va_D A [(a_t, .inr (1, [.ref a_t_plan, .int (z4 (min 64 (sl_ 1 o1))), .ref a_t_leads, .ref a_t_part, .ref a_t_finer, .ref a_t_keys, .ref a_t_stateOfPart, .ref a_t_pastOfState, .int (z4 t_states), .ref a_t_steps, .ref a_t_away])), (a_t_plan, .inr (4, [.int (z4 t_plan_rules), .ref a_t_plan_least, .ref a_t_plan_of, .ref a_t_plan_set, .ref a_t_plan_chances, .int (z4 t_plan_slack), .int (z4 t_plan_limit)])), (a_t_plan_of, .inl (E 0, 3, .inl (A4 t_plan_of))), (a_t_plan_set, .inl (E 0, 3, .inl (A4 t_plan_set))), (a_t_plan_least, .inl (E 0, 3, .inl (A4 t_plan_least))), (a_t_leads, .inl (E 0, 320, .inl (A4 o4))), (a_t_part, .inl (E 0, 64, .inl (A4 o_.1))), (a_t_keys, .inl (E 0, 64, .inl (A4 o_.2.1))), (a_t_finer, .inl (E 0, 64, .inl (A4 o_.2.2))), (a_t_stateOfPart, .inl (E 0, 64, .inl (A4 t_stateOfPart))), (a_t_pastOfState, .inl (E 0, 64, .inl (A4 t_pastOfState))), (a_t_steps, .inl (E 0, 320, .inl (A4 t_steps))), (a_t_away, .inl (E 0, 64, .inl (A4 t_away)))] → va_S A s.heap H locs → W p l e rm_X1_build s m args below meth c H locs 0 0 Q (F0 m 50 ls []) := by
    intro o6_1 ho_ H locs ls hl hP hD hS
    subst ho_
    refine lv_goto (tgt := 61) hx hb dX1_build_50 (by decide) ?_
    refine lv_aload_n hx hb dX1_build_61 rfl (lv_at hl 0 rfl) ?_
    obtain ⟨o12, ho, hr6⟩ := bd_some hr6
    refine m_cVW X hK hP hD hS hA (wr := [(a_t_plan, .inr (4, [.int (z4 t_plan_rules), .ref a_t_plan_least, .ref a_t_plan_of, .ref a_t_plan_set, .ref a_t_plan_chances, .int (z4 t_plan_slack), .int (z4 t_plan_limit)])), (a_t_plan_of, .inl (E 0, 3, .inl (A4 t_plan_of))), (a_t_plan_set, .inl (E 0, 3, .inl (A4 t_plan_set))), (a_t_plan_least, .inl (E 0, 3, .inl (A4 t_plan_least))), (a_t_keys, .inl (E 0, 64, .inl (A4 o6_1.2.1))), (a_t_finer, .inl (E 0, 64, .inl (A4 o6_1.2.2))), (a_t_away, .inl (E 0, 64, .inl (A4 t_away)))]) (k_X1_numberStates n a_t a_t_plan a_t_leads a_t_part a_t_finer a_t_keys a_t_stateOfPart a_t_pastOfState a_t_steps a_t_away (min 64 (sl_ 1 o1)) t_states t_stateOfPart o6_1.1 t_pastOfState o4 t_steps o12 ho) [0, 9, 6, 10, 5, 11] [1, 2, 3, 4, 7, 8, 12] [7, 0, 1, 2, 3, 11, 9, 4, 5, 8, 10, 12, 6] [(a_t, .inr (1, [.ref a_t_plan, .int (z4 (min 64 (sl_ 1 o1))), .ref a_t_leads, .ref a_t_part, .ref a_t_finer, .ref a_t_keys, .ref a_t_stateOfPart, .ref a_t_pastOfState, .int (z4 o12.1), .ref a_t_steps, .ref a_t_away])), (a_t_plan, .inr (4, [.int (z4 t_plan_rules), .ref a_t_plan_least, .ref a_t_plan_of, .ref a_t_plan_set, .ref a_t_plan_chances, .int (z4 t_plan_slack), .int (z4 t_plan_limit)])), (a_t_plan_of, .inl (E 0, 3, .inl (A4 t_plan_of))), (a_t_plan_set, .inl (E 0, 3, .inl (A4 t_plan_set))), (a_t_plan_least, .inl (E 0, 3, .inl (A4 t_plan_least))), (a_t_leads, .inl (E 0, 320, .inl (A4 o4))), (a_t_part, .inl (E 0, 64, .inl (A4 o6_1.1))), (a_t_keys, .inl (E 0, 64, .inl (A4 o6_1.2.1))), (a_t_finer, .inl (E 0, 64, .inl (A4 o6_1.2.2))), (a_t_stateOfPart, .inl (E 0, 64, .inl (A4 o12.2.1))), (a_t_pastOfState, .inl (E 0, 64, .inl (A4 o12.2.2.1))), (a_t_steps, .inl (E 0, 320, .inl (A4 o12.2.2.2))), (a_t_away, .inl (E 0, 64, .inl (A4 t_away)))] rfl rfl rfl rfl (by decide) rfl rfl rfl cl_X1 lk_X1_83 co_X1_numberStates dy_X1_numberStates rfl rfl ⟨Nat.le_of_ble_eq_true rfl, Nat.le_of_ble_eq_true rfl⟩ hl.1 rfl (Nat.le_of_ble_eq_true rfl) dX1_build_62 (Nat.zero_le _) (Nat.zero_le _) (fun H locs hP hD hS => ?_)
    refine lv_aload_n hx hb dX1_build_65 rfl (lv_at hl 0 rfl) ?_
    obtain ⟨o13, ho, hr6⟩ := bd_some hr6
    refine m_cVW X hK hP hD hS hA (wr := [(a_t_plan, .inr (4, [.int (z4 t_plan_rules), .ref a_t_plan_least, .ref a_t_plan_of, .ref a_t_plan_set, .ref a_t_plan_chances, .int (z4 t_plan_slack), .int (z4 t_plan_limit)])), (a_t_plan_of, .inl (E 0, 3, .inl (A4 t_plan_of))), (a_t_plan_set, .inl (E 0, 3, .inl (A4 t_plan_set))), (a_t_plan_least, .inl (E 0, 3, .inl (A4 t_plan_least))), (a_t_leads, .inl (E 0, 320, .inl (A4 o4))), (a_t_part, .inl (E 0, 64, .inl (A4 o6_1.1))), (a_t_keys, .inl (E 0, 64, .inl (A4 o6_1.2.1))), (a_t_finer, .inl (E 0, 64, .inl (A4 o6_1.2.2))), (a_t_stateOfPart, .inl (E 0, 64, .inl (A4 o12.2.1))), (a_t_pastOfState, .inl (E 0, 64, .inl (A4 o12.2.2.1)))]) (k_X1_measure n a_t a_t_plan a_t_leads a_t_part a_t_finer a_t_keys a_t_stateOfPart a_t_pastOfState a_t_steps a_t_away (min 64 (sl_ 1 o1)) o12.1 t_away o12.2.2.2 o13 ho) [0, 12, 11] [1, 2, 3, 4, 5, 6, 7, 8, 9, 10] [10, 0, 1, 2, 3, 4, 5, 6, 7, 8, 9, 12, 11] [(a_t, .inr (1, [.ref a_t_plan, .int (z4 (min 64 (sl_ 1 o1))), .ref a_t_leads, .ref a_t_part, .ref a_t_finer, .ref a_t_keys, .ref a_t_stateOfPart, .ref a_t_pastOfState, .int (z4 o12.1), .ref a_t_steps, .ref a_t_away])), (a_t_plan, .inr (4, [.int (z4 t_plan_rules), .ref a_t_plan_least, .ref a_t_plan_of, .ref a_t_plan_set, .ref a_t_plan_chances, .int (z4 t_plan_slack), .int (z4 t_plan_limit)])), (a_t_plan_of, .inl (E 0, 3, .inl (A4 t_plan_of))), (a_t_plan_set, .inl (E 0, 3, .inl (A4 t_plan_set))), (a_t_plan_least, .inl (E 0, 3, .inl (A4 t_plan_least))), (a_t_leads, .inl (E 0, 320, .inl (A4 o4))), (a_t_part, .inl (E 0, 64, .inl (A4 o6_1.1))), (a_t_keys, .inl (E 0, 64, .inl (A4 o6_1.2.1))), (a_t_finer, .inl (E 0, 64, .inl (A4 o6_1.2.2))), (a_t_stateOfPart, .inl (E 0, 64, .inl (A4 o12.2.1))), (a_t_pastOfState, .inl (E 0, 64, .inl (A4 o12.2.2.1))), (a_t_steps, .inl (E 0, 320, .inl (A4 o12.2.2.2))), (a_t_away, .inl (E 0, 64, .inl (A4 o13)))] rfl rfl rfl rfl (by decide) rfl rfl rfl cl_X1 lk_X1_86 co_X1_measure dy_X1_measure rfl rfl ⟨Nat.le_of_ble_eq_true rfl, Nat.le_of_ble_eq_true rfl⟩ hl.1 rfl (Nat.le_of_ble_eq_true rfl) dX1_build_66 (Nat.zero_le _) (Nat.zero_le _) (fun H locs hP hD hS => ?_)
    obtain rfl := Option.some.inj hr6
    exact ret _ _ _ _ hP hD hS dX1_build_69
  have L6 : ∀ (k_ : Nat) (v34_1 : Int) (v34_2 : Int) (t_part_l34 : Nat → Int) (t_keys_l34 : Nat → Int) (t_finer_l34 : Nat → Int), ∀ (H : Heap) (locs : List Loc) (ls : Array Slot), lv_has ls 4 [(0, .ref a_t), (1, .int (z4 v34_1)), (2, .int (z4 v34_2))] → va_P D vwCl [(a_t, .inr (1, [.ref a_t_plan, .int (z4 (min 64 (sl_ 1 o1))), .ref a_t_leads, .ref a_t_part, .ref a_t_finer, .ref a_t_keys, .ref a_t_stateOfPart, .ref a_t_pastOfState, .int (z4 t_states), .ref a_t_steps, .ref a_t_away])), (a_t_plan, .inr (4, [.int (z4 t_plan_rules), .ref a_t_plan_least, .ref a_t_plan_of, .ref a_t_plan_set, .ref a_t_plan_chances, .int (z4 t_plan_slack), .int (z4 t_plan_limit)])), (a_t_plan_of, .inl (E 0, 3, .inl (A4 t_plan_of))), (a_t_plan_set, .inl (E 0, 3, .inl (A4 t_plan_set))), (a_t_plan_least, .inl (E 0, 3, .inl (A4 t_plan_least))), (a_t_leads, .inl (E 0, 320, .inl (A4 o4))), (a_t_part, .inl (E 0, 64, .inl (A4 t_part_l34))), (a_t_keys, .inl (E 0, 64, .inl (A4 t_keys_l34))), (a_t_finer, .inl (E 0, 64, .inl (A4 t_finer_l34))), (a_t_stateOfPart, .inl (E 0, 64, .inl (A4 t_stateOfPart))), (a_t_pastOfState, .inl (E 0, 64, .inl (A4 t_pastOfState))), (a_t_steps, .inl (E 0, 320, .inl (A4 t_steps))), (a_t_away, .inl (E 0, 64, .inl (A4 t_away)))] H → va_D A [(a_t, .inr (1, [.ref a_t_plan, .int (z4 (min 64 (sl_ 1 o1))), .ref a_t_leads, .ref a_t_part, .ref a_t_finer, .ref a_t_keys, .ref a_t_stateOfPart, .ref a_t_pastOfState, .int (z4 t_states), .ref a_t_steps, .ref a_t_away])), (a_t_plan, .inr (4, [.int (z4 t_plan_rules), .ref a_t_plan_least, .ref a_t_plan_of, .ref a_t_plan_set, .ref a_t_plan_chances, .int (z4 t_plan_slack), .int (z4 t_plan_limit)])), (a_t_plan_of, .inl (E 0, 3, .inl (A4 t_plan_of))), (a_t_plan_set, .inl (E 0, 3, .inl (A4 t_plan_set))), (a_t_plan_least, .inl (E 0, 3, .inl (A4 t_plan_least))), (a_t_leads, .inl (E 0, 320, .inl (A4 o4))), (a_t_part, .inl (E 0, 64, .inl (A4 t_part_l34))), (a_t_keys, .inl (E 0, 64, .inl (A4 t_keys_l34))), (a_t_finer, .inl (E 0, 64, .inl (A4 t_finer_l34))), (a_t_stateOfPart, .inl (E 0, 64, .inl (A4 t_stateOfPart))), (a_t_pastOfState, .inl (E 0, 64, .inl (A4 t_pastOfState))), (a_t_steps, .inl (E 0, 320, .inl (A4 t_steps))), (a_t_away, .inl (E 0, 64, .inl (A4 t_away)))] → va_S A s.heap H locs → lp_ (fun (q : Int × Int × (Nat → Int) × (Nat → Int) × (Nat → Int)) => F_X1_build_L34 n o1 o4 q.1 q.2.1 q.2.2.1 q.2.2.2.1 q.2.2.2.2) k_ (v34_1, v34_2, t_part_l34, t_keys_l34, t_finer_l34) = some o6 → W p l e rm_X1_build s m args below meth c H locs 0 0 Q (F0 m 34 ls []) := by
    intro k_
    induction k_ with
    | zero =>
      intro v34_1 v34_2 t_part_l34 t_keys_l34 t_finer_l34 H locs ls hl hP hD hS hq_; exact (lp_zero hq_).elim
    | succ k_ ih6 =>
      intro v34_1 v34_2 t_part_l34 t_keys_l34 t_finer_l34 H locs ls hl hP hD hS hq_
      obtain ⟨t_6, hb6, hq6⟩ := lp_some hq_
      replace hb6 : F_X1_build_L34 n o1 o4 v34_1 v34_2 t_part_l34 t_keys_l34 t_finer_l34 = some t_6 := hb6
      unfold F_X1_build_L34 at hb6
      refine lv_iload_n hx hb dX1_build_34 rfl (lv_at hl 2 rfl) ?_
      refine m_bipush X dX1_build_35 (by decide) ?_
      obtain ⟨h7, hb6⟩ := ck_some hb6
      refine m_icmp_ge X ⟨h7, ⟨by decide, by decide⟩⟩ dX1_build_37 (tgt := 61) (by decide) (fun (hc_ : ¬ (v34_2 < 64)) => ?_) (fun (hc_ : v34_2 < 64) => ?_)
      · rw [if_neg hc_] at hb6
        obtain rfl := Option.some.inj hb6
        exact E6_0 _ (Option.some.inj hq6).symm _ _ _ (lv_sub hl [0] rfl) hP hD hS
      · rw [if_pos hc_] at hb6
        refine lv_aload_n hx hb dX1_build_40 rfl (lv_at hl 0 rfl) ?_
        obtain ⟨o8, ho, hb6⟩ := bd_some hb6
        refine m_cVW X hK hP hD hS hA (wr := [(a_t_plan, .inr (4, [.int (z4 t_plan_rules), .ref a_t_plan_least, .ref a_t_plan_of, .ref a_t_plan_set, .ref a_t_plan_chances, .int (z4 t_plan_slack), .int (z4 t_plan_limit)])), (a_t_plan_of, .inl (E 0, 3, .inl (A4 t_plan_of))), (a_t_plan_set, .inl (E 0, 3, .inl (A4 t_plan_set))), (a_t_plan_least, .inl (E 0, 3, .inl (A4 t_plan_least))), (a_t_stateOfPart, .inl (E 0, 64, .inl (A4 t_stateOfPart))), (a_t_pastOfState, .inl (E 0, 64, .inl (A4 t_pastOfState))), (a_t_steps, .inl (E 0, 320, .inl (A4 t_steps))), (a_t_away, .inl (E 0, 64, .inl (A4 t_away)))]) (k_X1_split n a_t a_t_plan a_t_leads a_t_part a_t_finer a_t_keys a_t_stateOfPart a_t_pastOfState a_t_steps a_t_away (min 64 (sl_ 1 o1)) t_states o4 t_part_l34 t_keys_l34 t_finer_l34 o8 ho) [0, 5, 6, 7, 8] [1, 2, 3, 4, 9, 10, 11, 12] [8, 0, 1, 2, 3, 9, 10, 11, 12, 4, 5, 6, 7] [(a_t, .inr (1, [.ref a_t_plan, .int (z4 (min 64 (sl_ 1 o1))), .ref a_t_leads, .ref a_t_part, .ref a_t_finer, .ref a_t_keys, .ref a_t_stateOfPart, .ref a_t_pastOfState, .int (z4 t_states), .ref a_t_steps, .ref a_t_away])), (a_t_plan, .inr (4, [.int (z4 t_plan_rules), .ref a_t_plan_least, .ref a_t_plan_of, .ref a_t_plan_set, .ref a_t_plan_chances, .int (z4 t_plan_slack), .int (z4 t_plan_limit)])), (a_t_plan_of, .inl (E 0, 3, .inl (A4 t_plan_of))), (a_t_plan_set, .inl (E 0, 3, .inl (A4 t_plan_set))), (a_t_plan_least, .inl (E 0, 3, .inl (A4 t_plan_least))), (a_t_leads, .inl (E 0, 320, .inl (A4 o4))), (a_t_part, .inl (E 0, 64, .inl (A4 o8.2.1))), (a_t_keys, .inl (E 0, 64, .inl (A4 o8.2.2.1))), (a_t_finer, .inl (E 0, 64, .inl (A4 o8.2.2.2))), (a_t_stateOfPart, .inl (E 0, 64, .inl (A4 t_stateOfPart))), (a_t_pastOfState, .inl (E 0, 64, .inl (A4 t_pastOfState))), (a_t_steps, .inl (E 0, 320, .inl (A4 t_steps))), (a_t_away, .inl (E 0, 64, .inl (A4 t_away)))] rfl rfl rfl rfl (by decide) rfl rfl rfl cl_X1 lk_X1_80 co_X1_split dy_X1_split rfl rfl ⟨Nat.le_of_ble_eq_true rfl, Nat.le_of_ble_eq_true rfl⟩ hl.1 rfl (Nat.le_of_ble_eq_true rfl) dX1_build_41 (Nat.zero_le _) (Nat.zero_le _) (fun H locs hP hD hS => ?_)
        refine lv_istore_n (lv' := [(3, .int (z4 o8.1)), (0, .ref a_t), (1, .int (z4 v34_1)), (2, .int (z4 v34_2))]) hx hb dX1_build_44 rfl hl (by decide) rfl (fun ls hl => ?_)
        refine lv_iload_n hx hb dX1_build_45 rfl (lv_at hl 0 rfl) ?_
        refine lv_iload_n hx hb dX1_build_46 rfl (lv_at hl 2 rfl) ?_
        obtain ⟨h9, hb6⟩ := ck_some hb6
        refine m_icmp_ne X h9 dX1_build_47 (tgt := 53) (by decide) (fun (hc_ : ¬ (o8.1 = v34_1)) => ?_) (fun (hc_ : o8.1 = v34_1) => ?_)
        · rw [if_neg hc_] at hb6
          refine lv_iload_n hx hb dX1_build_53 rfl (lv_at hl 0 rfl) ?_
          refine lv_istore_n (lv' := [(1, .int (z4 o8.1)), (3, .int (z4 o8.1)), (0, .ref a_t), (2, .int (z4 v34_2))]) hx hb dX1_build_54 rfl hl (by decide) rfl (fun ls hl => ?_)
          refine m_iinc X 3 [(2, .int (z4 (v34_2 + 1))), (1, .int (z4 o8.1)), (3, .int (z4 o8.1)), (0, .ref a_t)] dX1_build_55 hl rfl (by decide) rfl (fun ls hl => ?_)
          refine lv_goto (tgt := 34) hx hb dX1_build_58 (by decide) ?_
          obtain rfl := Option.some.inj hb6
          exact ih6 _ _ _ _ _ _ _ _ (lv_sub hl [3, 1, 0] rfl) hP hD hS hq6
        · rw [if_pos hc_] at hb6
          obtain rfl := Option.some.inj hb6
          exact E6_1 _ (Option.some.inj hq6).symm _ _ _ (lv_sub hl [1] rfl) hP hD hS
  exact L6 n _ _ _ _ _ _ _ _ (lv_sub hl [2, 1, 0] rfl) hP hD hS hj6
def F_X1_fit (n : Nat)  (t_pasts : Int) (t_states : Int) (t_plan_rules : Int) (t_plan_slack : Int) (t_plan_limit : Int) (p1_rules : Int) (p1_slack : Int) (p1_limit : Int) (t_plan_least : Nat → Int) (p1_least : Nat → Int) (t_plan_of : Nat → Int) (p1_of : Nat → Int) (t_plan_set : Nat → Int) (p1_set : Nat → Int) (p1_chances : Nat → Int) (t_plan_chances : Nat → Int) (t_leads : Nat → Int) (t_part : Nat → Int) (t_keys : Nat → Int) (t_finer : Nat → Int) (t_stateOfPart : Nat → Int) (t_pastOfState : Nat → Int) (t_steps : Nat → Int) (t_away : Nat → Int)  : Option (Int × Int × Int × Int × Int × (Nat → Int) × (Nat → Int) × (Nat → Int) × (Nat → Int) × (Nat → Int) × (Nat → Int) × (Nat → Int) × (Nat → Int) × (Nat → Int) × (Nat → Int) × (Nat → Int) × (Nat → Int)) :=
  (F_X4_hasRulesOf n t_plan_rules p1_rules t_plan_least p1_least t_plan_of p1_of t_plan_set p1_set).bind fun o1 =>
  Option.bind (α := Int × Int × Int × Int × Int × (Nat → Int) × (Nat → Int) × (Nat → Int) × (Nat → Int) × (Nat → Int) × (Nat → Int) × (Nat → Int) × (Nat → Int) × (Nat → Int) × (Nat → Int) × (Nat → Int) × (Nat → Int)) (
    ck (r4 o1) <|
    if o1 = 0 then
      (F_X4_take n p1_rules p1_slack p1_limit p1_least t_plan_least p1_of t_plan_of p1_set t_plan_set p1_chances t_plan_chances).bind fun o4 =>
      (F_X1_build n o4.1 o4.2.2.2.2.1 o4.2.2.2.2.2.1 o4.2.2.2.1 t_leads t_part t_keys t_finer t_stateOfPart t_pastOfState t_steps t_away).bind fun o5 =>
      some (o5.1, o5.2.1, o4.1, o4.2.1, o4.2.2.1, o4.2.2.2.1, o4.2.2.2.2.1, o4.2.2.2.2.2.1, o4.2.2.2.2.2.2, o5.2.2.1, o5.2.2.2.1, o5.2.2.2.2.1, o5.2.2.2.2.2.1, o5.2.2.2.2.2.2.1, o5.2.2.2.2.2.2.2.1, o5.2.2.2.2.2.2.2.2.1, o5.2.2.2.2.2.2.2.2.2)
    else
      some (t_pasts, t_states, t_plan_rules, t_plan_slack, t_plan_limit, t_plan_least, t_plan_of, t_plan_set, t_plan_chances, t_leads, t_part, t_keys, t_finer, t_stateOfPart, t_pastOfState, t_steps, t_away)) fun o2 =>
  some (o2.1, o2.2.1, o2.2.2.1, o2.2.2.2.1, o2.2.2.2.2.1, o2.2.2.2.2.2.1, o2.2.2.2.2.2.2.1, o2.2.2.2.2.2.2.2.1, o2.2.2.2.2.2.2.2.2.1, o2.2.2.2.2.2.2.2.2.2.1, o2.2.2.2.2.2.2.2.2.2.2.1, o2.2.2.2.2.2.2.2.2.2.2.2.1, o2.2.2.2.2.2.2.2.2.2.2.2.2.1, o2.2.2.2.2.2.2.2.2.2.2.2.2.2.1, o2.2.2.2.2.2.2.2.2.2.2.2.2.2.2.1, o2.2.2.2.2.2.2.2.2.2.2.2.2.2.2.2.1, o2.2.2.2.2.2.2.2.2.2.2.2.2.2.2.2.2)
def rm_X1_fit : Room := { frames := 4, cells := 0, slots := 0, locals := 96 }
set_option maxHeartbeats 4000000 in
set_option maxRecDepth 100000 in
theorem k_X1_fit {l : Launch} {D : va_G} {E : Nat → ClassId} (n : Nat) (a_t a_t_plan a_t_leads a_t_part a_t_finer a_t_keys a_t_stateOfPart a_t_pastOfState a_t_steps a_t_away a_t_plan_least a_t_plan_of a_t_plan_set a_t_plan_chances a_p1 a_p1_least a_p1_of a_p1_set a_p1_chances : Nat) (t_pasts : Int) (t_states : Int) (t_plan_rules : Int) (t_plan_slack : Int) (t_plan_limit : Int) (p1_rules : Int) (p1_slack : Int) (p1_limit : Int) (t_plan_least : Nat → Int) (p1_least : Nat → Int) (t_plan_of : Nat → Int) (p1_of : Nat → Int) (t_plan_set : Nat → Int) (p1_set : Nat → Int) (p1_chances : Nat → Int) (t_plan_chances : Nat → Int) (t_leads : Nat → Int) (t_part : Nat → Int) (t_keys : Nat → Int) (t_finer : Nat → Int) (t_stateOfPart : Nat → Int) (t_pastOfState : Nat → Int) (t_steps : Nat → Int) (t_away : Nat → Int) (res : Int × Int × Int × Int × Int × (Nat → Int) × (Nat → Int) × (Nat → Int) × (Nat → Int) × (Nat → Int) × (Nat → Int) × (Nat → Int) × (Nat → Int) × (Nat → Int) × (Nat → Int) × (Nat → Int) × (Nat → Int)) (hf : F_X1_fit n t_pasts t_states t_plan_rules t_plan_slack t_plan_limit p1_rules p1_slack p1_limit t_plan_least p1_least t_plan_of p1_of t_plan_set p1_set p1_chances t_plan_chances t_leads t_part t_keys t_finer t_stateOfPart t_pastOfState t_steps t_away = some res) : MW l yX1_fit (.code yX1_fit cX1_fit 2 none) rm_X1_fit D E [.ref a_t, .ref a_p1] [(a_t, .inr (1, [.ref a_t_plan, .int (z4 t_pasts), .ref a_t_leads, .ref a_t_part, .ref a_t_finer, .ref a_t_keys, .ref a_t_stateOfPart, .ref a_t_pastOfState, .int (z4 t_states), .ref a_t_steps, .ref a_t_away])), (a_t_plan, .inr (4, [.int (z4 t_plan_rules), .ref a_t_plan_least, .ref a_t_plan_of, .ref a_t_plan_set, .ref a_t_plan_chances, .int (z4 t_plan_slack), .int (z4 t_plan_limit)])), (a_p1, .inr (4, [.int (z4 p1_rules), .ref a_p1_least, .ref a_p1_of, .ref a_p1_set, .ref a_p1_chances, .int (z4 p1_slack), .int (z4 p1_limit)])), (a_t_plan_least, .inl (E 0, 3, .inl (A4 t_plan_least))), (a_p1_least, .inl (E 0, 3, .inl (A4 p1_least))), (a_t_plan_of, .inl (E 0, 3, .inl (A4 t_plan_of))), (a_p1_of, .inl (E 0, 3, .inl (A4 p1_of))), (a_t_plan_set, .inl (E 0, 3, .inl (A4 t_plan_set))), (a_p1_set, .inl (E 0, 3, .inl (A4 p1_set))), (a_p1_chances, .inl (E 0, 5, .inl (A4 p1_chances))), (a_t_plan_chances, .inl (E 0, 5, .inl (A4 t_plan_chances))), (a_t_leads, .inl (E 0, 320, .inl (A4 t_leads))), (a_t_part, .inl (E 0, 64, .inl (A4 t_part))), (a_t_keys, .inl (E 0, 64, .inl (A4 t_keys))), (a_t_finer, .inl (E 0, 64, .inl (A4 t_finer))), (a_t_stateOfPart, .inl (E 0, 64, .inl (A4 t_stateOfPart))), (a_t_pastOfState, .inl (E 0, 64, .inl (A4 t_pastOfState))), (a_t_steps, .inl (E 0, 320, .inl (A4 t_steps))), (a_t_away, .inl (E 0, 64, .inl (A4 t_away)))] none [(a_t, .inr (1, [.ref a_t_plan, .int (z4 res.1), .ref a_t_leads, .ref a_t_part, .ref a_t_finer, .ref a_t_keys, .ref a_t_stateOfPart, .ref a_t_pastOfState, .int (z4 res.2.1), .ref a_t_steps, .ref a_t_away])), (a_t_plan, .inr (4, [.int (z4 res.2.2.1), .ref a_t_plan_least, .ref a_t_plan_of, .ref a_t_plan_set, .ref a_t_plan_chances, .int (z4 res.2.2.2.1), .int (z4 res.2.2.2.2.1)])), (a_p1, .inr (4, [.int (z4 p1_rules), .ref a_p1_least, .ref a_p1_of, .ref a_p1_set, .ref a_p1_chances, .int (z4 p1_slack), .int (z4 p1_limit)])), (a_t_plan_least, .inl (E 0, 3, .inl (A4 res.2.2.2.2.2.1))), (a_p1_least, .inl (E 0, 3, .inl (A4 p1_least))), (a_t_plan_of, .inl (E 0, 3, .inl (A4 res.2.2.2.2.2.2.1))), (a_p1_of, .inl (E 0, 3, .inl (A4 p1_of))), (a_t_plan_set, .inl (E 0, 3, .inl (A4 res.2.2.2.2.2.2.2.1))), (a_p1_set, .inl (E 0, 3, .inl (A4 p1_set))), (a_p1_chances, .inl (E 0, 5, .inl (A4 p1_chances))), (a_t_plan_chances, .inl (E 0, 5, .inl (A4 res.2.2.2.2.2.2.2.2.1))), (a_t_leads, .inl (E 0, 320, .inl (A4 res.2.2.2.2.2.2.2.2.2.1))), (a_t_part, .inl (E 0, 64, .inl (A4 res.2.2.2.2.2.2.2.2.2.2.1))), (a_t_keys, .inl (E 0, 64, .inl (A4 res.2.2.2.2.2.2.2.2.2.2.2.1))), (a_t_finer, .inl (E 0, 64, .inl (A4 res.2.2.2.2.2.2.2.2.2.2.2.2.1))), (a_t_stateOfPart, .inl (E 0, 64, .inl (A4 res.2.2.2.2.2.2.2.2.2.2.2.2.2.1))), (a_t_pastOfState, .inl (E 0, 64, .inl (A4 res.2.2.2.2.2.2.2.2.2.2.2.2.2.2.1))), (a_t_steps, .inl (E 0, 320, .inl (A4 res.2.2.2.2.2.2.2.2.2.2.2.2.2.2.2.1))), (a_t_away, .inl (E 0, 64, .inl (A4 res.2.2.2.2.2.2.2.2.2.2.2.2.2.2.2.2)))] := by
  refine MWv (by decide) (Nat.le_of_ble_eq_true rfl) ?_
  intro p e s m args below meth c A Q X hK hP hD hA ret ls hl
  have hS : va_S A s.heap s.heap [] := va_S.rf
  have hx := X.1
  have hb := X.2.1
  have hl : lv_has ls 2 [(0, .ref a_t), (1, .ref a_p1)] := hl
  unfold F_X1_fit at hf
  refine lv_aload_n hx hb dX1_fit_0 rfl (lv_at hl 0 rfl) ?_
  refine m_get X hK hP cl_X1 iT_X1 0 (by decide) fl_X1_12 0 rfl rfl dX1_fit_1 ?_
  refine lv_aload_n hx hb dX1_fit_4 rfl (lv_at hl 1 rfl) ?_
  obtain ⟨o1, ho, hf⟩ := bd_some hf
  refine m_cVR X hK (k_X4_hasRulesOf n a_t_plan a_t_plan_least a_t_plan_of a_t_plan_set a_t_plan_chances a_p1 a_p1_least a_p1_of a_p1_set a_p1_chances t_plan_rules t_plan_slack t_plan_limit p1_rules p1_slack p1_limit t_plan_least p1_least t_plan_of p1_of t_plan_set p1_set o1 ho) (hP.sub [1, 2, 3, 4, 5, 6, 7, 8] rfl) rfl cl_X4 lk_X1_46 co_X4_hasRulesOf dy_X4_hasRulesOf rfl rfl ⟨Nat.le_of_ble_eq_true rfl, Nat.le_of_ble_eq_true rfl⟩ hl.1 rfl (Nat.le_of_ble_eq_true rfl) dX1_fit_5 (Nat.zero_le _) (Nat.zero_le _) ?_
  obtain ⟨o2, hj2, hr2⟩ := bd_some hf
  have J2 : ∀ (o_ : Int × Int × Int × Int × Int × (Nat → Int) × (Nat → Int) × (Nat → Int) × (Nat → Int) × (Nat → Int) × (Nat → Int) × (Nat → Int) × (Nat → Int) × (Nat → Int) × (Nat → Int) × (Nat → Int) × (Nat → Int)), o2 = o_ → ∀ (H : Heap) (locs : List Loc) (ls : Array Slot), lv_has ls 2 [] → va_P D vwCl [(a_t, .inr (1, [.ref a_t_plan, .int (z4 o_.1), .ref a_t_leads, .ref a_t_part, .ref a_t_finer, .ref a_t_keys, .ref a_t_stateOfPart, .ref a_t_pastOfState, .int (z4 o_.2.1), .ref a_t_steps, .ref a_t_away])), (a_t_plan, .inr (4, [.int (z4 o_.2.2.1), .ref a_t_plan_least, .ref a_t_plan_of, .ref a_t_plan_set, .ref a_t_plan_chances, .int (z4 o_.2.2.2.1), .int (z4 o_.2.2.2.2.1)])), (a_p1, .inr (4, [.int (z4 p1_rules), .ref a_p1_least, .ref a_p1_of, .ref a_p1_set, .ref a_p1_chances, .int (z4 p1_slack), .int (z4 p1_limit)])), (a_t_plan_least, .inl (E 0, 3, .inl (A4 o_.2.2.2.2.2.1))), (a_p1_least, .inl (E 0, 3, .inl (A4 p1_least))), (a_t_plan_of, .inl (E 0, 3, .inl (A4 o_.2.2.2.2.2.2.1))), (a_p1_of, .inl (E 0, 3, .inl (A4 p1_of))), (a_t_plan_set, .inl (E 0, 3, .inl (A4 o_.2.2.2.2.2.2.2.1))), (a_p1_set, .inl (E 0, 3, .inl (A4 p1_set))), (a_p1_chances, .inl (E 0, 5, .inl (A4 p1_chances))), (a_t_plan_chances, .inl (E 0, 5, .inl (A4 o_.2.2.2.2.2.2.2.2.1))), (a_t_leads, .inl (E 0, 320, .inl (A4 o_.2.2.2.2.2.2.2.2.2.1))), (a_t_part, .inl (E 0, 64, .inl (A4 o_.2.2.2.2.2.2.2.2.2.2.1))), (a_t_keys, .inl (E 0, 64, .inl (A4 o_.2.2.2.2.2.2.2.2.2.2.2.1))), (a_t_finer, .inl (E 0, 64, .inl (A4 o_.2.2.2.2.2.2.2.2.2.2.2.2.1))), (a_t_stateOfPart, .inl (E 0, 64, .inl (A4 o_.2.2.2.2.2.2.2.2.2.2.2.2.2.1))), (a_t_pastOfState, .inl (E 0, 64, .inl (A4 o_.2.2.2.2.2.2.2.2.2.2.2.2.2.2.1))), (a_t_steps, .inl (E 0, 320, .inl (A4 o_.2.2.2.2.2.2.2.2.2.2.2.2.2.2.2.1))), (a_t_away, .inl (E 0, 64, .inl (A4 o_.2.2.2.2.2.2.2.2.2.2.2.2.2.2.2.2)))] H → va_D A [(a_t, .inr (1, [.ref a_t_plan, .int (z4 o_.1), .ref a_t_leads, .ref a_t_part, .ref a_t_finer, .ref a_t_keys, .ref a_t_stateOfPart, .ref a_t_pastOfState, .int (z4 o_.2.1), .ref a_t_steps, .ref a_t_away])), (a_t_plan, .inr (4, [.int (z4 o_.2.2.1), .ref a_t_plan_least, .ref a_t_plan_of, .ref a_t_plan_set, .ref a_t_plan_chances, .int (z4 o_.2.2.2.1), .int (z4 o_.2.2.2.2.1)])), (a_p1, .inr (4, [.int (z4 p1_rules), .ref a_p1_least, .ref a_p1_of, .ref a_p1_set, .ref a_p1_chances, .int (z4 p1_slack), .int (z4 p1_limit)])), (a_t_plan_least, .inl (E 0, 3, .inl (A4 o_.2.2.2.2.2.1))), (a_p1_least, .inl (E 0, 3, .inl (A4 p1_least))), (a_t_plan_of, .inl (E 0, 3, .inl (A4 o_.2.2.2.2.2.2.1))), (a_p1_of, .inl (E 0, 3, .inl (A4 p1_of))), (a_t_plan_set, .inl (E 0, 3, .inl (A4 o_.2.2.2.2.2.2.2.1))), (a_p1_set, .inl (E 0, 3, .inl (A4 p1_set))), (a_p1_chances, .inl (E 0, 5, .inl (A4 p1_chances))), (a_t_plan_chances, .inl (E 0, 5, .inl (A4 o_.2.2.2.2.2.2.2.2.1))), (a_t_leads, .inl (E 0, 320, .inl (A4 o_.2.2.2.2.2.2.2.2.2.1))), (a_t_part, .inl (E 0, 64, .inl (A4 o_.2.2.2.2.2.2.2.2.2.2.1))), (a_t_keys, .inl (E 0, 64, .inl (A4 o_.2.2.2.2.2.2.2.2.2.2.2.1))), (a_t_finer, .inl (E 0, 64, .inl (A4 o_.2.2.2.2.2.2.2.2.2.2.2.2.1))), (a_t_stateOfPart, .inl (E 0, 64, .inl (A4 o_.2.2.2.2.2.2.2.2.2.2.2.2.2.1))), (a_t_pastOfState, .inl (E 0, 64, .inl (A4 o_.2.2.2.2.2.2.2.2.2.2.2.2.2.2.1))), (a_t_steps, .inl (E 0, 320, .inl (A4 o_.2.2.2.2.2.2.2.2.2.2.2.2.2.2.2.1))), (a_t_away, .inl (E 0, 64, .inl (A4 o_.2.2.2.2.2.2.2.2.2.2.2.2.2.2.2.2)))] → va_S A s.heap H locs → W p l e rm_X1_fit s m args below meth c H locs 0 0 Q (F0 m 23 ls []) := by
    intro o_ ho_ H locs ls hl hP hD hS
    subst ho_
    obtain rfl := Option.some.inj hr2
    exact ret _ _ _ _ hP hD hS dX1_fit_23
  obtain ⟨h3, hj2⟩ := ck_some hj2
  refine m_if_ne X h3 dX1_fit_8 (tgt := 23) (by decide) (fun (hc_ : ¬ (o1 = 0)) => ?_) (fun (hc_ : o1 = 0) => ?_)
  · rw [if_neg hc_] at hj2
    exact J2 _ (Option.some.inj hj2).symm _ _ _ (lv_sub hl [] rfl) hP hD hS
  · rw [if_pos hc_] at hj2
    refine lv_aload_n hx hb dX1_fit_11 rfl (lv_at hl 0 rfl) ?_
    refine m_get X hK hP cl_X1 iT_X1 0 (by decide) fl_X1_12 0 rfl rfl dX1_fit_12 ?_
    refine lv_aload_n hx hb dX1_fit_15 rfl (lv_at hl 1 rfl) ?_
    obtain ⟨o4, ho, hj2⟩ := bd_some hj2
    refine m_cVW X hK hP hD hS hA (wr := [(a_t, .inr (1, [.ref a_t_plan, .int (z4 t_pasts), .ref a_t_leads, .ref a_t_part, .ref a_t_finer, .ref a_t_keys, .ref a_t_stateOfPart, .ref a_t_pastOfState, .int (z4 t_states), .ref a_t_steps, .ref a_t_away])), (a_t_leads, .inl (E 0, 320, .inl (A4 t_leads))), (a_t_part, .inl (E 0, 64, .inl (A4 t_part))), (a_t_keys, .inl (E 0, 64, .inl (A4 t_keys))), (a_t_finer, .inl (E 0, 64, .inl (A4 t_finer))), (a_t_stateOfPart, .inl (E 0, 64, .inl (A4 t_stateOfPart))), (a_t_pastOfState, .inl (E 0, 64, .inl (A4 t_pastOfState))), (a_t_steps, .inl (E 0, 320, .inl (A4 t_steps))), (a_t_away, .inl (E 0, 64, .inl (A4 t_away)))]) (k_X4_take n a_t_plan a_t_plan_least a_t_plan_of a_t_plan_set a_t_plan_chances a_p1 a_p1_least a_p1_of a_p1_set a_p1_chances t_plan_rules t_plan_slack t_plan_limit p1_rules p1_slack p1_limit p1_least t_plan_least p1_of t_plan_of p1_set t_plan_set p1_chances t_plan_chances o4 ho) [1, 2, 4, 3, 6, 5, 8, 7, 9, 10] [0, 11, 12, 13, 14, 15, 16, 17, 18] [0, 9, 10, 12, 11, 14, 13, 16, 15, 17, 18, 1, 2, 3, 4, 5, 6, 7, 8] [(a_t, .inr (1, [.ref a_t_plan, .int (z4 t_pasts), .ref a_t_leads, .ref a_t_part, .ref a_t_finer, .ref a_t_keys, .ref a_t_stateOfPart, .ref a_t_pastOfState, .int (z4 t_states), .ref a_t_steps, .ref a_t_away])), (a_t_plan, .inr (4, [.int (z4 o4.1), .ref a_t_plan_least, .ref a_t_plan_of, .ref a_t_plan_set, .ref a_t_plan_chances, .int (z4 o4.2.1), .int (z4 o4.2.2.1)])), (a_p1, .inr (4, [.int (z4 p1_rules), .ref a_p1_least, .ref a_p1_of, .ref a_p1_set, .ref a_p1_chances, .int (z4 p1_slack), .int (z4 p1_limit)])), (a_t_plan_least, .inl (E 0, 3, .inl (A4 o4.2.2.2.1))), (a_p1_least, .inl (E 0, 3, .inl (A4 p1_least))), (a_t_plan_of, .inl (E 0, 3, .inl (A4 o4.2.2.2.2.1))), (a_p1_of, .inl (E 0, 3, .inl (A4 p1_of))), (a_t_plan_set, .inl (E 0, 3, .inl (A4 o4.2.2.2.2.2.1))), (a_p1_set, .inl (E 0, 3, .inl (A4 p1_set))), (a_p1_chances, .inl (E 0, 5, .inl (A4 p1_chances))), (a_t_plan_chances, .inl (E 0, 5, .inl (A4 o4.2.2.2.2.2.2))), (a_t_leads, .inl (E 0, 320, .inl (A4 t_leads))), (a_t_part, .inl (E 0, 64, .inl (A4 t_part))), (a_t_keys, .inl (E 0, 64, .inl (A4 t_keys))), (a_t_finer, .inl (E 0, 64, .inl (A4 t_finer))), (a_t_stateOfPart, .inl (E 0, 64, .inl (A4 t_stateOfPart))), (a_t_pastOfState, .inl (E 0, 64, .inl (A4 t_pastOfState))), (a_t_steps, .inl (E 0, 320, .inl (A4 t_steps))), (a_t_away, .inl (E 0, 64, .inl (A4 t_away)))] rfl rfl rfl rfl (by decide) rfl rfl rfl cl_X4 lk_X1_50 co_X4_take dy_X4_take rfl rfl ⟨Nat.le_of_ble_eq_true rfl, Nat.le_of_ble_eq_true rfl⟩ hl.1 rfl (Nat.le_of_ble_eq_true rfl) dX1_fit_16 (Nat.zero_le _) (Nat.zero_le _) (fun H locs hP hD hS => ?_)
    refine lv_aload_n hx hb dX1_fit_19 rfl (lv_at hl 0 rfl) ?_
    obtain ⟨o5, ho, hj2⟩ := bd_some hj2
    refine m_cVW X hK hP hD hS hA (wr := [(a_p1, .inr (4, [.int (z4 p1_rules), .ref a_p1_least, .ref a_p1_of, .ref a_p1_set, .ref a_p1_chances, .int (z4 p1_slack), .int (z4 p1_limit)])), (a_p1_least, .inl (E 0, 3, .inl (A4 p1_least))), (a_p1_of, .inl (E 0, 3, .inl (A4 p1_of))), (a_p1_set, .inl (E 0, 3, .inl (A4 p1_set))), (a_p1_chances, .inl (E 0, 5, .inl (A4 p1_chances))), (a_t_plan_chances, .inl (E 0, 5, .inl (A4 o4.2.2.2.2.2.2)))]) (k_X1_build n a_t a_t_plan a_t_leads a_t_part a_t_finer a_t_keys a_t_stateOfPart a_t_pastOfState a_t_steps a_t_away a_t_plan_least a_t_plan_of a_t_plan_set a_t_plan_chances t_pasts t_states o4.1 o4.2.1 o4.2.2.1 o4.2.2.2.2.1 o4.2.2.2.2.2.1 o4.2.2.2.1 t_leads t_part t_keys t_finer t_stateOfPart t_pastOfState t_steps t_away o5 ho) [0, 1, 5, 7, 3, 11, 12, 13, 14, 15, 16, 17, 18] [2, 4, 6, 8, 9, 10] [6, 7, 0, 10, 1, 8, 2, 9, 3, 4, 5, 11, 12, 13, 14, 15, 16, 17, 18] [(a_t, .inr (1, [.ref a_t_plan, .int (z4 o5.1), .ref a_t_leads, .ref a_t_part, .ref a_t_finer, .ref a_t_keys, .ref a_t_stateOfPart, .ref a_t_pastOfState, .int (z4 o5.2.1), .ref a_t_steps, .ref a_t_away])), (a_t_plan, .inr (4, [.int (z4 o4.1), .ref a_t_plan_least, .ref a_t_plan_of, .ref a_t_plan_set, .ref a_t_plan_chances, .int (z4 o4.2.1), .int (z4 o4.2.2.1)])), (a_p1, .inr (4, [.int (z4 p1_rules), .ref a_p1_least, .ref a_p1_of, .ref a_p1_set, .ref a_p1_chances, .int (z4 p1_slack), .int (z4 p1_limit)])), (a_t_plan_least, .inl (E 0, 3, .inl (A4 o4.2.2.2.1))), (a_p1_least, .inl (E 0, 3, .inl (A4 p1_least))), (a_t_plan_of, .inl (E 0, 3, .inl (A4 o4.2.2.2.2.1))), (a_p1_of, .inl (E 0, 3, .inl (A4 p1_of))), (a_t_plan_set, .inl (E 0, 3, .inl (A4 o4.2.2.2.2.2.1))), (a_p1_set, .inl (E 0, 3, .inl (A4 p1_set))), (a_p1_chances, .inl (E 0, 5, .inl (A4 p1_chances))), (a_t_plan_chances, .inl (E 0, 5, .inl (A4 o4.2.2.2.2.2.2))), (a_t_leads, .inl (E 0, 320, .inl (A4 o5.2.2.1))), (a_t_part, .inl (E 0, 64, .inl (A4 o5.2.2.2.1))), (a_t_keys, .inl (E 0, 64, .inl (A4 o5.2.2.2.2.1))), (a_t_finer, .inl (E 0, 64, .inl (A4 o5.2.2.2.2.2.1))), (a_t_stateOfPart, .inl (E 0, 64, .inl (A4 o5.2.2.2.2.2.2.1))), (a_t_pastOfState, .inl (E 0, 64, .inl (A4 o5.2.2.2.2.2.2.2.1))), (a_t_steps, .inl (E 0, 320, .inl (A4 o5.2.2.2.2.2.2.2.2.1))), (a_t_away, .inl (E 0, 64, .inl (A4 o5.2.2.2.2.2.2.2.2.2)))] rfl rfl rfl rfl (by decide) rfl rfl rfl cl_X1 lk_X1_43 co_X1_build dy_X1_build rfl rfl ⟨Nat.le_of_ble_eq_true rfl, Nat.le_of_ble_eq_true rfl⟩ hl.1 rfl (Nat.le_of_ble_eq_true rfl) dX1_fit_20 (Nat.zero_le _) (Nat.zero_le _) (fun H locs hP hD hS => ?_)
    exact J2 _ (Option.some.inj hj2).symm _ _ _ (lv_sub hl [] rfl) hP hD hS
def F_X1_stateBehind (n : Nat)  (t_part : Nat → Int) (t_stateOfPart : Nat → Int) (x1 : Int) : Option (Int) :=
  ck (r4 x1) <|
  if x1 < 0 then
    some 0
  else
    ck (r4 x1) <|
    if x1 < 64 then
      ck (ix_ x1 64) <|
      ck (ix_ (t_part (x1).toNat) 64) <|
      ck (r4 (t_stateOfPart (t_part (x1).toNat).toNat)) <|
      some (max 0 (t_stateOfPart (t_part (x1).toNat).toNat))
    else
      some 0
def rm_X1_stateBehind : Room := { frames := 1, cells := 0, slots := 0, locals := 13 }
set_option maxHeartbeats 4000000 in
set_option maxRecDepth 100000 in
theorem k_X1_stateBehind {l : Launch} {D : va_G} {E : Nat → ClassId} (n : Nat) (a_t a_t_plan a_t_leads a_t_part a_t_finer a_t_keys a_t_stateOfPart a_t_pastOfState a_t_steps a_t_away : Nat) (t_pasts : Int) (t_states : Int) (t_part : Nat → Int) (t_stateOfPart : Nat → Int) (x1 : Int) (res : Int) (hf : F_X1_stateBehind n t_part t_stateOfPart x1 = some res) : MR l yX1_stateBehind (.code yX1_stateBehind cX1_stateBehind 2 (some .int)) rm_X1_stateBehind D E [.ref a_t, .int (z4 x1)] [(a_t, .inr (1, [.ref a_t_plan, .int (z4 t_pasts), .ref a_t_leads, .ref a_t_part, .ref a_t_finer, .ref a_t_keys, .ref a_t_stateOfPart, .ref a_t_pastOfState, .int (z4 t_states), .ref a_t_steps, .ref a_t_away])), (a_t_part, .inl (E 0, 64, .inl (A4 t_part))), (a_t_stateOfPart, .inl (E 0, 64, .inl (A4 t_stateOfPart)))] (some (.int (z4 res))) := by
  refine MRi (by decide) (Nat.le_of_ble_eq_true rfl) ?_
  intro p e s m args below meth c Q X hK hP ret ls hl
  have hx := X.1
  have hb := X.2.1
  have hl : lv_has ls 2 [(0, .ref a_t), (1, .int (z4 x1))] := hl
  unfold F_X1_stateBehind at hf
  refine lv_iload_n hx hb dX1_stateBehind_0 rfl (lv_at hl 1 rfl) ?_
  obtain ⟨h1, hf⟩ := ck_some hf
  refine m_if_lt X h1 dX1_stateBehind_1 (tgt := 10) (by decide) (fun (hc_ : x1 < 0) => ?_) (fun (hc_ : ¬ (x1 < 0)) => ?_)
  · rw [if_pos hc_] at hf
    refine m_iconst X dX1_stateBehind_10 ?_
    obtain rfl := Option.some.inj hf
    exact ret _ _ dX1_stateBehind_11
  · rw [if_neg hc_] at hf
    refine lv_iload_n hx hb dX1_stateBehind_4 rfl (lv_at hl 1 rfl) ?_
    refine m_bipush X dX1_stateBehind_5 (by decide) ?_
    obtain ⟨h2, hf⟩ := ck_some hf
    refine m_icmp_lt X ⟨h2, ⟨by decide, by decide⟩⟩ dX1_stateBehind_7 (tgt := 12) (by decide) (fun (hc_ : x1 < 64) => ?_) (fun (hc_ : ¬ (x1 < 64)) => ?_)
    · rw [if_pos hc_] at hf
      refine m_iconst X dX1_stateBehind_12 ?_
      refine lv_aload_n hx hb dX1_stateBehind_13 rfl (lv_at hl 0 rfl) ?_
      refine m_get X hK hP cl_X1 iT_X1 6 (by decide) fl_X1_31 0 rfl rfl dX1_stateBehind_14 ?_
      refine lv_aload_n hx hb dX1_stateBehind_17 rfl (lv_at hl 0 rfl) ?_
      refine m_get X hK hP cl_X1 iT_X1 3 (by decide) fl_X1_22 0 rfl rfl dX1_stateBehind_18 ?_
      refine lv_iload_n hx hb dX1_stateBehind_21 rfl (lv_at hl 1 rfl) ?_
      obtain ⟨h3, hf⟩ := ck_some hf
      refine m_iald X hK hP 1 rfl (by decide) h3 dX1_stateBehind_22 ?_
      obtain ⟨h4, hf⟩ := ck_some hf
      refine m_iald X hK hP 2 rfl (by decide) h4 dX1_stateBehind_23 ?_
      obtain ⟨h5, hf⟩ := ck_some hf
      refine m_max X ml_X1_54 st_max in_Math cd_max hl.1 (Nat.le_of_ble_eq_true rfl) (Nat.le_of_ble_eq_true rfl) (Nat.zero_le _) (Nat.zero_le _) ⟨⟨by decide, by decide⟩, h5⟩ dX1_stateBehind_24 ?_
      obtain rfl := Option.some.inj hf
      exact ret _ _ dX1_stateBehind_27
    · rw [if_neg hc_] at hf
      refine m_iconst X dX1_stateBehind_10 ?_
      obtain rfl := Option.some.inj hf
      exact ret _ _ dX1_stateBehind_11
def F_X1_signTowardsAlarm_L9 (n : Nat) (x2 : Int) (t_steps : Nat → Int) (t_away : Nat → Int) (v9_3 : Int) (v9_4 : Int) (v9_5 : Int) : Option ((Int × Int × Int) ⊕ ((Int) ⊕ (Unit) ⊕ (Unit))) :=
  ck (r4 v9_5 ∧ r4 x2) <|
  if x2 < v9_5 then
    some (.inr (.inl v9_4))
  else
    ck (r4 v9_5) <|
    if v9_5 < 64 then
      ck (r4 v9_3) <|
      if v9_3 < 0 then
        some (.inr (.inr (.inl ())))
      else
        ck (r4 v9_3) <|
        if v9_3 < 64 then
          ck (ix_ v9_3 64) <|
          (F_X1_signTo n t_steps t_away v9_3 ((t_away (v9_3).toNat) - 1)).bind fun o7 =>
          ck (r4 o7) <|
          if o7 = (-9) then
            some (.inr (.inr (.inr ())))
          else
            ck (ix_ ((v9_3 * 5) + o7) 320) <|
            some (.inl (t_steps ((v9_3 * 5) + o7).toNat, o7, v9_5 + 1))
        else
          some (.inr (.inr (.inl ())))
    else
      some (.inr (.inl v9_4))
def F_X1_signTowardsAlarm (n : Nat)  (t_away : Nat → Int) (t_steps : Nat → Int) (x1 : Int) (x2 : Int) : Option (Int) :=
  (lp_ (fun (q : Int × Int × Int) => F_X1_signTowardsAlarm_L9 n x2 t_steps t_away q.1 q.2.1 q.2.2) n (x1, (-9), 0)).bind fun o1 => match o1 with
  | .inl o1_0 =>
    some o1_0
  | .inr (.inl o1_1) =>
    some (-9)
  | .inr (.inr o1_2) =>
    some (-9)
def rm_X1_signTowardsAlarm : Room := { frames := 1, cells := 0, slots := 0, locals := 25 }
set_option maxHeartbeats 4000000 in
set_option maxRecDepth 100000 in
theorem k_X1_signTowardsAlarm {l : Launch} {D : va_G} {E : Nat → ClassId} (n : Nat) (a_t a_t_plan a_t_leads a_t_part a_t_finer a_t_keys a_t_stateOfPart a_t_pastOfState a_t_steps a_t_away : Nat) (t_pasts : Int) (t_states : Int) (t_away : Nat → Int) (t_steps : Nat → Int) (x1 : Int) (x2 : Int) (res : Int) (hf : F_X1_signTowardsAlarm n t_away t_steps x1 x2 = some res) : MR l yX1_signTowardsAlarm (.code yX1_signTowardsAlarm cX1_signTowardsAlarm 6 (some .int)) rm_X1_signTowardsAlarm D E [.ref a_t, .int (z4 x1), .int (z4 x2)] [(a_t, .inr (1, [.ref a_t_plan, .int (z4 t_pasts), .ref a_t_leads, .ref a_t_part, .ref a_t_finer, .ref a_t_keys, .ref a_t_stateOfPart, .ref a_t_pastOfState, .int (z4 t_states), .ref a_t_steps, .ref a_t_away])), (a_t_away, .inl (E 0, 64, .inl (A4 t_away))), (a_t_steps, .inl (E 0, 320, .inl (A4 t_steps)))] (some (.int (z4 res))) := by
  refine MRi (by decide) (Nat.le_of_ble_eq_true rfl) ?_
  intro p e s m args below meth c Q X hK hP ret ls hl
  have hx := X.1
  have hb := X.2.1
  have hl : lv_has ls 6 [(0, .ref a_t), (1, .int (z4 x1)), (2, .int (z4 x2))] := hl
  unfold F_X1_signTowardsAlarm at hf
  refine lv_iload_n hx hb dX1_signTowardsAlarm_0 rfl (lv_at hl 1 rfl) ?_
  refine lv_istore_n (lv' := [(3, .int (z4 x1)), (0, .ref a_t), (1, .int (z4 x1)), (2, .int (z4 x2))]) hx hb dX1_signTowardsAlarm_1 rfl hl (by decide) rfl (fun ls hl => ?_)
  refine m_bipush X dX1_signTowardsAlarm_2 (by decide) ?_
  refine lv_istore (lv' := [(4, .int (z4 (-9))), (3, .int (z4 x1)), (0, .ref a_t), (1, .int (z4 x1)), (2, .int (z4 x2))]) hx hb dX1_signTowardsAlarm_4 hl (by decide) rfl (fun ls hl => ?_)
  refine m_iconst X dX1_signTowardsAlarm_6 ?_
  refine lv_istore (lv' := [(5, .int (z4 0)), (4, .int (z4 (-9))), (3, .int (z4 x1)), (0, .ref a_t), (1, .int (z4 x1)), (2, .int (z4 x2))]) hx hb dX1_signTowardsAlarm_7 hl (by decide) rfl (fun ls hl => ?_)
  obtain ⟨o1, hj1, hr1⟩ := bd_some hf
  have E1_0 : ∀ (o_ : Int), o1 = (.inl o_) → ∀ (ls : Array Slot), lv_has ls 6 [(4, .int (z4 o_))] → W p l e rm_X1_signTowardsAlarm s m args below meth c s.heap [] 0 0 Q (F0 m 78 ls []) := by
    intro o1_0 ho_ ls hl 
    subst ho_
    refine lv_iload hx hb dX1_signTowardsAlarm_78 (lv_at hl 0 rfl) ?_
    obtain rfl := Option.some.inj hr1
    exact ret _ _ dX1_signTowardsAlarm_80
  have E1_1 : ∀ (o_ : Unit), o1 = (.inr (.inl o_)) → ∀ (ls : Array Slot), lv_has ls 6 [] → W p l e rm_X1_signTowardsAlarm s m args below meth c s.heap [] 0 0 Q (F0 m 32 ls []) := by
    intro o1_1 ho_ ls hl 
    subst ho_
    refine m_bipush X dX1_signTowardsAlarm_32 (by decide) ?_
    obtain rfl := Option.some.inj hr1
    exact ret _ _ dX1_signTowardsAlarm_34
  have E1_2 : ∀ (o_ : Unit), o1 = (.inr (.inr o_)) → ∀ (ls : Array Slot), lv_has ls 6 [] → W p l e rm_X1_signTowardsAlarm s m args below meth c s.heap [] 0 0 Q (F0 m 57 ls []) := by
    intro o1_2 ho_ ls hl 
    subst ho_
    refine m_bipush X dX1_signTowardsAlarm_57 (by decide) ?_
    obtain rfl := Option.some.inj hr1
    exact ret _ _ dX1_signTowardsAlarm_59
  have L1 : ∀ (k_ : Nat) (v9_3 : Int) (v9_4 : Int) (v9_5 : Int), ∀ (ls : Array Slot), lv_has ls 6 [(0, .ref a_t), (2, .int (z4 x2)), (3, .int (z4 v9_3)), (4, .int (z4 v9_4)), (5, .int (z4 v9_5))] → lp_ (fun (q : Int × Int × Int) => F_X1_signTowardsAlarm_L9 n x2 t_steps t_away q.1 q.2.1 q.2.2) k_ (v9_3, v9_4, v9_5) = some o1 → W p l e rm_X1_signTowardsAlarm s m args below meth c s.heap [] 0 0 Q (F0 m 9 ls []) := by
    intro k_
    induction k_ with
    | zero =>
      intro v9_3 v9_4 v9_5 ls hl  hq_; exact (lp_zero hq_).elim
    | succ k_ ih1 =>
      intro v9_3 v9_4 v9_5 ls hl  hq_
      obtain ⟨t_1, hb1, hq1⟩ := lp_some hq_
      replace hb1 : F_X1_signTowardsAlarm_L9 n x2 t_steps t_away v9_3 v9_4 v9_5 = some t_1 := hb1
      unfold F_X1_signTowardsAlarm_L9 at hb1
      refine lv_iload hx hb dX1_signTowardsAlarm_9 (lv_at hl 4 rfl) ?_
      refine lv_iload_n hx hb dX1_signTowardsAlarm_11 rfl (lv_at hl 1 rfl) ?_
      obtain ⟨h2, hb1⟩ := ck_some hb1
      refine m_icmp_gt X h2 dX1_signTowardsAlarm_12 (tgt := 78) (by decide) (fun (hc_ : x2 < v9_5) => ?_) (fun (hc_ : ¬ (x2 < v9_5)) => ?_)
      · rw [if_pos hc_] at hb1
        obtain rfl := Option.some.inj hb1
        exact E1_0 _ (Option.some.inj hq1).symm _ (lv_sub hl [3] rfl) 
      · rw [if_neg hc_] at hb1
        refine lv_iload hx hb dX1_signTowardsAlarm_15 (lv_at hl 4 rfl) ?_
        refine m_bipush X dX1_signTowardsAlarm_17 (by decide) ?_
        obtain ⟨h3, hb1⟩ := ck_some hb1
        refine m_icmp_ge X ⟨h3, ⟨by decide, by decide⟩⟩ dX1_signTowardsAlarm_19 (tgt := 78) (by decide) (fun (hc_ : ¬ (v9_5 < 64)) => ?_) (fun (hc_ : v9_5 < 64) => ?_)
        · rw [if_neg hc_] at hb1
          obtain rfl := Option.some.inj hb1
          exact E1_0 _ (Option.some.inj hq1).symm _ (lv_sub hl [3] rfl) 
        · rw [if_pos hc_] at hb1
          refine lv_iload_n hx hb dX1_signTowardsAlarm_22 rfl (lv_at hl 2 rfl) ?_
          obtain ⟨h4, hb1⟩ := ck_some hb1
          refine m_if_lt X h4 dX1_signTowardsAlarm_23 (tgt := 32) (by decide) (fun (hc_ : v9_3 < 0) => ?_) (fun (hc_ : ¬ (v9_3 < 0)) => ?_)
          · rw [if_pos hc_] at hb1
            obtain rfl := Option.some.inj hb1
            exact E1_1 _ (Option.some.inj hq1).symm _ (lv_sub hl [] rfl) 
          · rw [if_neg hc_] at hb1
            refine lv_iload_n hx hb dX1_signTowardsAlarm_26 rfl (lv_at hl 2 rfl) ?_
            refine m_bipush X dX1_signTowardsAlarm_27 (by decide) ?_
            obtain ⟨h5, hb1⟩ := ck_some hb1
            refine m_icmp_lt X ⟨h5, ⟨by decide, by decide⟩⟩ dX1_signTowardsAlarm_29 (tgt := 35) (by decide) (fun (hc_ : v9_3 < 64) => ?_) (fun (hc_ : ¬ (v9_3 < 64)) => ?_)
            · rw [if_pos hc_] at hb1
              refine lv_aload_n hx hb dX1_signTowardsAlarm_35 rfl (lv_at hl 0 rfl) ?_
              refine lv_iload_n hx hb dX1_signTowardsAlarm_36 rfl (lv_at hl 2 rfl) ?_
              refine lv_aload_n hx hb dX1_signTowardsAlarm_37 rfl (lv_at hl 0 rfl) ?_
              refine m_get X hK hP cl_X1 iT_X1 10 (by decide) fl_X1_40 0 rfl rfl dX1_signTowardsAlarm_38 ?_
              refine lv_iload_n hx hb dX1_signTowardsAlarm_41 rfl (lv_at hl 2 rfl) ?_
              obtain ⟨h6, hb1⟩ := ck_some hb1
              refine m_iald X hK hP 1 rfl (by decide) h6 dX1_signTowardsAlarm_42 ?_
              refine m_iconst X dX1_signTowardsAlarm_43 ?_
              refine m_isub X dX1_signTowardsAlarm_44 ?_
              obtain ⟨o7, ho, hb1⟩ := bd_some hb1
              refine m_cVR X hK (k_X1_signTo n a_t a_t_plan a_t_leads a_t_part a_t_finer a_t_keys a_t_stateOfPart a_t_pastOfState a_t_steps a_t_away t_pasts t_states t_steps t_away v9_3 ((t_away (v9_3).toNat) - 1) o7 ho) (hP.sub [0, 2, 1] rfl) rfl cl_X1 lk_X1_108 co_X1_signTo dy_X1_signTo rfl rfl ⟨Nat.le_of_ble_eq_true rfl, Nat.le_of_ble_eq_true rfl⟩ hl.1 rfl (Nat.le_of_ble_eq_true rfl) dX1_signTowardsAlarm_45 (Nat.zero_le _) (Nat.zero_le _) ?_
              refine lv_istore (lv' := [(4, .int (z4 o7)), (0, .ref a_t), (2, .int (z4 x2)), (3, .int (z4 v9_3)), (5, .int (z4 v9_5))]) hx hb dX1_signTowardsAlarm_48 hl (by decide) rfl (fun ls hl => ?_)
              refine lv_iload hx hb dX1_signTowardsAlarm_50 (lv_at hl 0 rfl) ?_
              refine m_bipush X dX1_signTowardsAlarm_52 (by decide) ?_
              obtain ⟨h8, hb1⟩ := ck_some hb1
              refine m_icmp_ne X ⟨h8, ⟨by decide, by decide⟩⟩ dX1_signTowardsAlarm_54 (tgt := 60) (by decide) (fun (hc_ : ¬ (o7 = (-9))) => ?_) (fun (hc_ : o7 = (-9)) => ?_)
              · rw [if_neg hc_] at hb1
                refine lv_aload_n hx hb dX1_signTowardsAlarm_60 rfl (lv_at hl 1 rfl) ?_
                refine m_get X hK hP cl_X1 iT_X1 9 (by decide) fl_X1_37 0 rfl rfl dX1_signTowardsAlarm_61 ?_
                refine lv_iload_n hx hb dX1_signTowardsAlarm_64 rfl (lv_at hl 3 rfl) ?_
                refine m_iconst X dX1_signTowardsAlarm_65 ?_
                refine m_imul X dX1_signTowardsAlarm_66 ?_
                refine lv_iload hx hb dX1_signTowardsAlarm_67 (lv_at hl 0 rfl) ?_
                refine m_iadd X dX1_signTowardsAlarm_69 ?_
                obtain ⟨h9, hb1⟩ := ck_some hb1
                refine m_iald X hK hP 2 rfl (by decide) h9 dX1_signTowardsAlarm_70 ?_
                refine lv_istore_n (lv' := [(3, .int (z4 (t_steps ((v9_3 * 5) + o7).toNat))), (4, .int (z4 o7)), (0, .ref a_t), (2, .int (z4 x2)), (5, .int (z4 v9_5))]) hx hb dX1_signTowardsAlarm_71 rfl hl (by decide) rfl (fun ls hl => ?_)
                refine m_iinc X 4 [(5, .int (z4 (v9_5 + 1))), (3, .int (z4 (t_steps ((v9_3 * 5) + o7).toNat))), (4, .int (z4 o7)), (0, .ref a_t), (2, .int (z4 x2))] dX1_signTowardsAlarm_72 hl rfl (by decide) rfl (fun ls hl => ?_)
                refine lv_goto (tgt := 9) hx hb dX1_signTowardsAlarm_75 (by decide) ?_
                obtain rfl := Option.some.inj hb1
                exact ih1 _ _ _ _ (lv_sub hl [3, 4, 1, 2, 0] rfl)  hq1
              · rw [if_pos hc_] at hb1
                obtain rfl := Option.some.inj hb1
                exact E1_2 _ (Option.some.inj hq1).symm _ (lv_sub hl [] rfl) 
            · rw [if_neg hc_] at hb1
              obtain rfl := Option.some.inj hb1
              exact E1_1 _ (Option.some.inj hq1).symm _ (lv_sub hl [] rfl) 
  exact L1 n _ _ _ _ (lv_sub hl [3, 5, 2, 1, 0] rfl)  hj1
