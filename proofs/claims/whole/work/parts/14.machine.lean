def F_X11_isPast (n : Nat)   (x0 : Int) : Option (Int) :=
  Option.bind (α := Int) (
    ck (r4 x0) <|
    if x0 < 0 then
      some 0
    else
      ck (r4 x0) <|
      if x0 < 64 then
        some 1
      else
        some 0) fun o1 =>
  ck (o1 = 0 ∨ o1 = 1) <|
  some o1
def rm_X11_isPast : Room := { frames := 0, cells := 0, slots := 0, locals := 0 }
set_option maxHeartbeats 4000000 in
set_option maxRecDepth 100000 in
theorem k_X11_isPast {l : Launch} {D : va_G} {E : Nat → ClassId} (n : Nat) (x0 : Int) (res : Int) (hf : F_X11_isPast n x0 = some res) : MR l yX11_isPast (.code yX11_isPast cX11_isPast 1 (some .boolean)) rm_X11_isPast D E [.int (z4 x0)] [] (some (.int (z4 res))) := by
  refine MRz (by decide) (Nat.le_of_ble_eq_true rfl) ?_
  intro p e s m args below meth c Q X hK hP ret ls hl
  have hx := X.1
  have hb := X.2.1
  have hl : lv_has ls 1 [(0, .int (z4 x0))] := hl
  unfold F_X11_isPast at hf
  refine lv_iload_n hx hb dX11_isPast_0 rfl (lv_at hl 0 rfl) ?_
  obtain ⟨o1, hj1, hr1⟩ := bd_some hf
  have J1 : ∀ (o_ : Int), o1 = o_ → ∀ (ls : Array Slot), lv_has ls 1 [] → W p l e rm_X11_isPast s m args below meth c s.heap [] 0 0 Q (F0 m 15 ls [.int (z4 o_)]) := by
    intro o_ ho_ ls hl 
    subst ho_
    obtain ⟨h4, hr1⟩ := ck_some hr1
    obtain rfl := Option.some.inj hr1
    exact ret _ _ h4 dX11_isPast_15
  obtain ⟨h2, hj1⟩ := ck_some hj1
  refine m_if_lt X h2 dX11_isPast_1 (tgt := 14) (by decide) (fun (hc_ : x0 < 0) => ?_) (fun (hc_ : ¬ (x0 < 0)) => ?_)
  · rw [if_pos hc_] at hj1
    refine m_iconst X dX11_isPast_14 ?_
    exact J1 _ (Option.some.inj hj1).symm _ (lv_sub hl [] rfl) 
  · rw [if_neg hc_] at hj1
    refine lv_iload_n hx hb dX11_isPast_4 rfl (lv_at hl 0 rfl) ?_
    refine m_bipush X dX11_isPast_5 (by decide) ?_
    obtain ⟨h3, hj1⟩ := ck_some hj1
    refine m_icmp_ge X ⟨h3, ⟨by decide, by decide⟩⟩ dX11_isPast_7 (tgt := 14) (by decide) (fun (hc_ : ¬ (x0 < 64)) => ?_) (fun (hc_ : x0 < 64) => ?_)
    · rw [if_neg hc_] at hj1
      refine m_iconst X dX11_isPast_14 ?_
      exact J1 _ (Option.some.inj hj1).symm _ (lv_sub hl [] rfl) 
    · rw [if_pos hc_] at hj1
      refine m_iconst X dX11_isPast_10 ?_
      refine lv_goto (tgt := 15) hx hb dX11_isPast_11 (by decide) ?_
      exact J1 _ (Option.some.inj hj1).symm _ (lv_sub hl [] rfl) 
def F_X11_isSign (n : Nat)   (x0 : Int) : Option (Int) :=
  Option.bind (α := Int) (
    ck (r4 x0) <|
    if x0 < 0 then
      some 0
    else
      ck (r4 x0) <|
      if x0 < 5 then
        some 1
      else
        some 0) fun o1 =>
  ck (o1 = 0 ∨ o1 = 1) <|
  some o1
def rm_X11_isSign : Room := { frames := 0, cells := 0, slots := 0, locals := 0 }
set_option maxHeartbeats 4000000 in
set_option maxRecDepth 100000 in
theorem k_X11_isSign {l : Launch} {D : va_G} {E : Nat → ClassId} (n : Nat) (x0 : Int) (res : Int) (hf : F_X11_isSign n x0 = some res) : MR l yX11_isSign (.code yX11_isSign cX11_isSign 1 (some .boolean)) rm_X11_isSign D E [.int (z4 x0)] [] (some (.int (z4 res))) := by
  refine MRz (by decide) (Nat.le_of_ble_eq_true rfl) ?_
  intro p e s m args below meth c Q X hK hP ret ls hl
  have hx := X.1
  have hb := X.2.1
  have hl : lv_has ls 1 [(0, .int (z4 x0))] := hl
  unfold F_X11_isSign at hf
  refine lv_iload_n hx hb dX11_isSign_0 rfl (lv_at hl 0 rfl) ?_
  obtain ⟨o1, hj1, hr1⟩ := bd_some hf
  have J1 : ∀ (o_ : Int), o1 = o_ → ∀ (ls : Array Slot), lv_has ls 1 [] → W p l e rm_X11_isSign s m args below meth c s.heap [] 0 0 Q (F0 m 14 ls [.int (z4 o_)]) := by
    intro o_ ho_ ls hl 
    subst ho_
    obtain ⟨h4, hr1⟩ := ck_some hr1
    obtain rfl := Option.some.inj hr1
    exact ret _ _ h4 dX11_isSign_14
  obtain ⟨h2, hj1⟩ := ck_some hj1
  refine m_if_lt X h2 dX11_isSign_1 (tgt := 13) (by decide) (fun (hc_ : x0 < 0) => ?_) (fun (hc_ : ¬ (x0 < 0)) => ?_)
  · rw [if_pos hc_] at hj1
    refine m_iconst X dX11_isSign_13 ?_
    exact J1 _ (Option.some.inj hj1).symm _ (lv_sub hl [] rfl) 
  · rw [if_neg hc_] at hj1
    refine lv_iload_n hx hb dX11_isSign_4 rfl (lv_at hl 0 rfl) ?_
    refine m_iconst X dX11_isSign_5 ?_
    obtain ⟨h3, hj1⟩ := ck_some hj1
    refine m_icmp_ge X ⟨h3, ⟨by decide, by decide⟩⟩ dX11_isSign_6 (tgt := 13) (by decide) (fun (hc_ : ¬ (x0 < 5)) => ?_) (fun (hc_ : x0 < 5) => ?_)
    · rw [if_neg hc_] at hj1
      refine m_iconst X dX11_isSign_13 ?_
      exact J1 _ (Option.some.inj hj1).symm _ (lv_sub hl [] rfl) 
    · rw [if_pos hc_] at hj1
      refine m_iconst X dX11_isSign_9 ?_
      refine lv_goto (tgt := 14) hx hb dX11_isSign_10 (by decide) ?_
      exact J1 _ (Option.some.inj hj1).symm _ (lv_sub hl [] rfl) 
def F_X1_lead_L12 (n : Nat) (t_plan_rules : Int) (t_plan_of : Nat → Int) (t_plan_set : Nat → Int) (t_plan_least : Nat → Int) (v2_1 : Int) (v12_2 : Int) (t_leads_l12 : Nat → Int) : Option ((Int × (Nat → Int)) ⊕ ((Nat → Int))) :=
  ck (r4 v12_2) <|
  if v12_2 < 5 then
    (F_X4_pass n t_plan_rules t_plan_of t_plan_set t_plan_least v2_1 v12_2).bind fun o5 =>
    ck (nn o5 ∧ nn 7) <|
    Option.bind (α := Int) (
      ck (r4 (an_ o5 7)) <|
      if an_ o5 7 = 0 then
        some 0
      else
        some 1) fun o7 =>
    Option.bind (α := Int) (
      ck (r4 o7) <|
      if o7 = 0 then
        ck (hR_ o5 3) <|
        some (sr_ o5 3)
      else
        some (-5)) fun o9 =>
    ck (ix_ ((v2_1 * 5) + v12_2) 320) <|
    some (.inl (v12_2 + 1, up_ t_leads_l12 ((v2_1 * 5) + v12_2).toNat o9))
  else
    some (.inr t_leads_l12)
def F_X1_lead_L2 (n : Nat) (t_pasts : Int) (t_plan_rules : Int) (t_plan_of : Nat → Int) (t_plan_set : Nat → Int) (t_plan_least : Nat → Int) (v2_1 : Int) (t_leads_l2 : Nat → Int) : Option ((Int × (Nat → Int)) ⊕ ((Nat → Int))) :=
  ck (r4 v2_1 ∧ r4 t_pasts) <|
  if v2_1 < t_pasts then
    (lp_ (fun (q : Int × (Nat → Int)) => F_X1_lead_L12 n t_plan_rules t_plan_of t_plan_set t_plan_least v2_1 q.1 q.2) n (0, t_leads_l2)).bind fun o3 =>
    some (.inl (v2_1 + 1, o3))
  else
    some (.inr t_leads_l2)
def F_X1_lead (n : Nat)  (t_pasts : Int) (t_plan_rules : Int) (t_plan_of : Nat → Int) (t_plan_set : Nat → Int) (t_plan_least : Nat → Int) (t_leads : Nat → Int)  : Option ((Nat → Int)) :=
  (lp_ (fun (q : Int × (Nat → Int)) => F_X1_lead_L2 n t_pasts t_plan_rules t_plan_of t_plan_set t_plan_least q.1 q.2) n (0, t_leads)).bind fun o1 =>
  some o1
def rm_X1_lead : Room := { frames := 2, cells := 0, slots := 0, locals := 49 }
set_option maxHeartbeats 4000000 in
set_option maxRecDepth 100000 in
theorem k_X1_lead {l : Launch} {D : va_G} {E : Nat → ClassId} (n : Nat) (a_t a_t_plan a_t_leads a_t_part a_t_finer a_t_keys a_t_stateOfPart a_t_pastOfState a_t_steps a_t_away a_t_plan_least a_t_plan_of a_t_plan_set a_t_plan_chances : Nat) (t_pasts : Int) (t_states : Int) (t_plan_rules : Int) (t_plan_slack : Int) (t_plan_limit : Int) (t_plan_of : Nat → Int) (t_plan_set : Nat → Int) (t_plan_least : Nat → Int) (t_leads : Nat → Int) (res : (Nat → Int)) (hf : F_X1_lead n t_pasts t_plan_rules t_plan_of t_plan_set t_plan_least t_leads = some res) : MW l yX1_lead (.code yX1_lead cX1_lead 5 none) rm_X1_lead D E [.ref a_t] [(a_t, .inr (1, [.ref a_t_plan, .int (z4 t_pasts), .ref a_t_leads, .ref a_t_part, .ref a_t_finer, .ref a_t_keys, .ref a_t_stateOfPart, .ref a_t_pastOfState, .int (z4 t_states), .ref a_t_steps, .ref a_t_away])), (a_t_plan, .inr (4, [.int (z4 t_plan_rules), .ref a_t_plan_least, .ref a_t_plan_of, .ref a_t_plan_set, .ref a_t_plan_chances, .int (z4 t_plan_slack), .int (z4 t_plan_limit)])), (a_t_plan_of, .inl (E 0, 3, .inl (A4 t_plan_of))), (a_t_plan_set, .inl (E 0, 3, .inl (A4 t_plan_set))), (a_t_plan_least, .inl (E 0, 3, .inl (A4 t_plan_least))), (a_t_leads, .inl (E 0, 320, .inl (A4 t_leads)))] none [(a_t, .inr (1, [.ref a_t_plan, .int (z4 t_pasts), .ref a_t_leads, .ref a_t_part, .ref a_t_finer, .ref a_t_keys, .ref a_t_stateOfPart, .ref a_t_pastOfState, .int (z4 t_states), .ref a_t_steps, .ref a_t_away])), (a_t_plan, .inr (4, [.int (z4 t_plan_rules), .ref a_t_plan_least, .ref a_t_plan_of, .ref a_t_plan_set, .ref a_t_plan_chances, .int (z4 t_plan_slack), .int (z4 t_plan_limit)])), (a_t_plan_of, .inl (E 0, 3, .inl (A4 t_plan_of))), (a_t_plan_set, .inl (E 0, 3, .inl (A4 t_plan_set))), (a_t_plan_least, .inl (E 0, 3, .inl (A4 t_plan_least))), (a_t_leads, .inl (E 0, 320, .inl (A4 res)))] := by
  refine MWv (by decide) (Nat.le_of_ble_eq_true rfl) ?_
  intro p e s m args below meth c A Q X hK hP hD hA ret ls hl
  have hS : va_S A s.heap s.heap [] := va_S.rf
  have hx := X.1
  have hb := X.2.1
  have hl : lv_has ls 5 [(0, .ref a_t)] := hl
  unfold F_X1_lead at hf
  refine m_iconst X dX1_lead_0 ?_
  refine lv_istore_n (lv' := [(1, .int (z4 0)), (0, .ref a_t)]) hx hb dX1_lead_1 rfl hl (by decide) rfl (fun ls hl => ?_)
  obtain ⟨o1, hj1, hr1⟩ := bd_some hf
  have E1_0 : ∀ (o_ : (Nat → Int)), o1 = o_ → ∀ (H : Heap) (locs : List Loc) (ls : Array Slot), lv_has ls 5 [] → va_P D vwCl [(a_t, .inr (1, [.ref a_t_plan, .int (z4 t_pasts), .ref a_t_leads, .ref a_t_part, .ref a_t_finer, .ref a_t_keys, .ref a_t_stateOfPart, .ref a_t_pastOfState, .int (z4 t_states), .ref a_t_steps, .ref a_t_away])), (a_t_plan, .inr (4, [.int (z4 t_plan_rules), .ref a_t_plan_least, .ref a_t_plan_of, .ref a_t_plan_set, .ref a_t_plan_chances, .int (z4 t_plan_slack), .int (z4 t_plan_limit)])), (a_t_plan_of, .inl (E 0, 3, .inl (A4 t_plan_of))), (a_t_plan_set, .inl (E 0, 3, .inl (A4 t_plan_set))), (a_t_plan_least, .inl (E 0, 3, .inl (A4 t_plan_least))), (a_t_leads, .inl (E 0, 320, .inl (A4 o_)))] H → va_D A [(a_t, .inr (1, [.ref a_t_plan, .int (z4 t_pasts), .ref a_t_leads, .ref a_t_part, .ref a_t_finer, .ref a_t_keys, .ref a_t_stateOfPart, .ref a_t_pastOfState, .int (z4 t_states), .ref a_t_steps, .ref a_t_away])), (a_t_plan, .inr (4, [.int (z4 t_plan_rules), .ref a_t_plan_least, .ref a_t_plan_of, .ref a_t_plan_set, .ref a_t_plan_chances, .int (z4 t_plan_slack), .int (z4 t_plan_limit)])), (a_t_plan_of, .inl (E 0, 3, .inl (A4 t_plan_of))), (a_t_plan_set, .inl (E 0, 3, .inl (A4 t_plan_set))), (a_t_plan_least, .inl (E 0, 3, .inl (A4 t_plan_least))), (a_t_leads, .inl (E 0, 320, .inl (A4 o_)))] → va_S A s.heap H locs → W p l e rm_X1_lead s m args below meth c H locs 0 0 Q (F0 m 76 ls []) := by
    intro o_ ho_ H locs ls hl hP hD hS
    subst ho_
    obtain rfl := Option.some.inj hr1
    exact ret _ _ _ _ hP hD hS dX1_lead_76
  have L1 : ∀ (k_ : Nat) (v2_1 : Int) (t_leads_l2 : Nat → Int), ∀ (H : Heap) (locs : List Loc) (ls : Array Slot), lv_has ls 5 [(0, .ref a_t), (1, .int (z4 v2_1))] → va_P D vwCl [(a_t, .inr (1, [.ref a_t_plan, .int (z4 t_pasts), .ref a_t_leads, .ref a_t_part, .ref a_t_finer, .ref a_t_keys, .ref a_t_stateOfPart, .ref a_t_pastOfState, .int (z4 t_states), .ref a_t_steps, .ref a_t_away])), (a_t_plan, .inr (4, [.int (z4 t_plan_rules), .ref a_t_plan_least, .ref a_t_plan_of, .ref a_t_plan_set, .ref a_t_plan_chances, .int (z4 t_plan_slack), .int (z4 t_plan_limit)])), (a_t_plan_of, .inl (E 0, 3, .inl (A4 t_plan_of))), (a_t_plan_set, .inl (E 0, 3, .inl (A4 t_plan_set))), (a_t_plan_least, .inl (E 0, 3, .inl (A4 t_plan_least))), (a_t_leads, .inl (E 0, 320, .inl (A4 t_leads_l2)))] H → va_D A [(a_t, .inr (1, [.ref a_t_plan, .int (z4 t_pasts), .ref a_t_leads, .ref a_t_part, .ref a_t_finer, .ref a_t_keys, .ref a_t_stateOfPart, .ref a_t_pastOfState, .int (z4 t_states), .ref a_t_steps, .ref a_t_away])), (a_t_plan, .inr (4, [.int (z4 t_plan_rules), .ref a_t_plan_least, .ref a_t_plan_of, .ref a_t_plan_set, .ref a_t_plan_chances, .int (z4 t_plan_slack), .int (z4 t_plan_limit)])), (a_t_plan_of, .inl (E 0, 3, .inl (A4 t_plan_of))), (a_t_plan_set, .inl (E 0, 3, .inl (A4 t_plan_set))), (a_t_plan_least, .inl (E 0, 3, .inl (A4 t_plan_least))), (a_t_leads, .inl (E 0, 320, .inl (A4 t_leads_l2)))] → va_S A s.heap H locs → lp_ (fun (q : Int × (Nat → Int)) => F_X1_lead_L2 n t_pasts t_plan_rules t_plan_of t_plan_set t_plan_least q.1 q.2) k_ (v2_1, t_leads_l2) = some o1 → W p l e rm_X1_lead s m args below meth c H locs 0 0 Q (F0 m 2 ls []) := by
    intro k_
    induction k_ with
    | zero =>
      intro v2_1 t_leads_l2 H locs ls hl hP hD hS hq_; exact (lp_zero hq_).elim
    | succ k_ ih1 =>
      intro v2_1 t_leads_l2 H locs ls hl hP hD hS hq_
      obtain ⟨t_1, hb1, hq1⟩ := lp_some hq_
      replace hb1 : F_X1_lead_L2 n t_pasts t_plan_rules t_plan_of t_plan_set t_plan_least v2_1 t_leads_l2 = some t_1 := hb1
      unfold F_X1_lead_L2 at hb1
      refine lv_iload_n hx hb dX1_lead_2 rfl (lv_at hl 1 rfl) ?_
      refine lv_aload_n hx hb dX1_lead_3 rfl (lv_at hl 0 rfl) ?_
      refine m_get X hK hP cl_X1 iT_X1 1 (by decide) fl_X1_71 0 rfl rfl dX1_lead_4 ?_
      obtain ⟨h2, hb1⟩ := ck_some hb1
      refine m_icmp_ge X h2 dX1_lead_7 (tgt := 76) (by decide) (fun (hc_ : ¬ (v2_1 < t_pasts)) => ?_) (fun (hc_ : v2_1 < t_pasts) => ?_)
      · rw [if_neg hc_] at hb1
        obtain rfl := Option.some.inj hb1
        exact E1_0 _ (Option.some.inj hq1).symm _ _ _ (lv_sub hl [] rfl) hP hD hS
      · rw [if_pos hc_] at hb1
        refine m_iconst X dX1_lead_10 ?_
        refine lv_istore_n (lv' := [(2, .int (z4 0)), (0, .ref a_t), (1, .int (z4 v2_1))]) hx hb dX1_lead_11 rfl hl (by decide) rfl (fun ls hl => ?_)
        obtain ⟨o3, hj3, hr3⟩ := bd_some hb1
        have E3_0 : ∀ (o_ : (Nat → Int)), o3 = o_ → ∀ (H : Heap) (locs : List Loc) (ls : Array Slot), lv_has ls 5 [(0, .ref a_t), (1, .int (z4 v2_1))] → va_P D vwCl [(a_t, .inr (1, [.ref a_t_plan, .int (z4 t_pasts), .ref a_t_leads, .ref a_t_part, .ref a_t_finer, .ref a_t_keys, .ref a_t_stateOfPart, .ref a_t_pastOfState, .int (z4 t_states), .ref a_t_steps, .ref a_t_away])), (a_t_plan, .inr (4, [.int (z4 t_plan_rules), .ref a_t_plan_least, .ref a_t_plan_of, .ref a_t_plan_set, .ref a_t_plan_chances, .int (z4 t_plan_slack), .int (z4 t_plan_limit)])), (a_t_plan_of, .inl (E 0, 3, .inl (A4 t_plan_of))), (a_t_plan_set, .inl (E 0, 3, .inl (A4 t_plan_set))), (a_t_plan_least, .inl (E 0, 3, .inl (A4 t_plan_least))), (a_t_leads, .inl (E 0, 320, .inl (A4 o_)))] H → va_D A [(a_t, .inr (1, [.ref a_t_plan, .int (z4 t_pasts), .ref a_t_leads, .ref a_t_part, .ref a_t_finer, .ref a_t_keys, .ref a_t_stateOfPart, .ref a_t_pastOfState, .int (z4 t_states), .ref a_t_steps, .ref a_t_away])), (a_t_plan, .inr (4, [.int (z4 t_plan_rules), .ref a_t_plan_least, .ref a_t_plan_of, .ref a_t_plan_set, .ref a_t_plan_chances, .int (z4 t_plan_slack), .int (z4 t_plan_limit)])), (a_t_plan_of, .inl (E 0, 3, .inl (A4 t_plan_of))), (a_t_plan_set, .inl (E 0, 3, .inl (A4 t_plan_set))), (a_t_plan_least, .inl (E 0, 3, .inl (A4 t_plan_least))), (a_t_leads, .inl (E 0, 320, .inl (A4 o_)))] → va_S A s.heap H locs → W p l e rm_X1_lead s m args below meth c H locs 0 0 Q (F0 m 70 ls []) := by
          intro o_ ho_ H locs ls hl hP hD hS
          subst ho_
          refine m_iinc X 1 [(1, .int (z4 (v2_1 + 1))), (0, .ref a_t)] dX1_lead_70 hl rfl (by decide) rfl (fun ls hl => ?_)
          refine lv_goto (tgt := 2) hx hb dX1_lead_73 (by decide) ?_
          obtain rfl := Option.some.inj hr3
          exact ih1 _ _ _ _ _ (lv_sub hl [1, 0] rfl) hP hD hS hq1
        have L3 : ∀ (k_ : Nat) (v12_2 : Int) (t_leads_l12 : Nat → Int), ∀ (H : Heap) (locs : List Loc) (ls : Array Slot), lv_has ls 5 [(0, .ref a_t), (1, .int (z4 v2_1)), (2, .int (z4 v12_2))] → va_P D vwCl [(a_t, .inr (1, [.ref a_t_plan, .int (z4 t_pasts), .ref a_t_leads, .ref a_t_part, .ref a_t_finer, .ref a_t_keys, .ref a_t_stateOfPart, .ref a_t_pastOfState, .int (z4 t_states), .ref a_t_steps, .ref a_t_away])), (a_t_plan, .inr (4, [.int (z4 t_plan_rules), .ref a_t_plan_least, .ref a_t_plan_of, .ref a_t_plan_set, .ref a_t_plan_chances, .int (z4 t_plan_slack), .int (z4 t_plan_limit)])), (a_t_plan_of, .inl (E 0, 3, .inl (A4 t_plan_of))), (a_t_plan_set, .inl (E 0, 3, .inl (A4 t_plan_set))), (a_t_plan_least, .inl (E 0, 3, .inl (A4 t_plan_least))), (a_t_leads, .inl (E 0, 320, .inl (A4 t_leads_l12)))] H → va_D A [(a_t, .inr (1, [.ref a_t_plan, .int (z4 t_pasts), .ref a_t_leads, .ref a_t_part, .ref a_t_finer, .ref a_t_keys, .ref a_t_stateOfPart, .ref a_t_pastOfState, .int (z4 t_states), .ref a_t_steps, .ref a_t_away])), (a_t_plan, .inr (4, [.int (z4 t_plan_rules), .ref a_t_plan_least, .ref a_t_plan_of, .ref a_t_plan_set, .ref a_t_plan_chances, .int (z4 t_plan_slack), .int (z4 t_plan_limit)])), (a_t_plan_of, .inl (E 0, 3, .inl (A4 t_plan_of))), (a_t_plan_set, .inl (E 0, 3, .inl (A4 t_plan_set))), (a_t_plan_least, .inl (E 0, 3, .inl (A4 t_plan_least))), (a_t_leads, .inl (E 0, 320, .inl (A4 t_leads_l12)))] → va_S A s.heap H locs → lp_ (fun (q : Int × (Nat → Int)) => F_X1_lead_L12 n t_plan_rules t_plan_of t_plan_set t_plan_least v2_1 q.1 q.2) k_ (v12_2, t_leads_l12) = some o3 → W p l e rm_X1_lead s m args below meth c H locs 0 0 Q (F0 m 12 ls []) := by
          intro k_
          induction k_ with
          | zero =>
            intro v12_2 t_leads_l12 H locs ls hl hP hD hS hq_; exact (lp_zero hq_).elim
          | succ k_ ih3 =>
            intro v12_2 t_leads_l12 H locs ls hl hP hD hS hq_
            obtain ⟨t_3, hb3, hq3⟩ := lp_some hq_
            replace hb3 : F_X1_lead_L12 n t_plan_rules t_plan_of t_plan_set t_plan_least v2_1 v12_2 t_leads_l12 = some t_3 := hb3
            unfold F_X1_lead_L12 at hb3
            refine lv_iload_n hx hb dX1_lead_12 rfl (lv_at hl 2 rfl) ?_
            refine m_iconst X dX1_lead_13 ?_
            obtain ⟨h4, hb3⟩ := ck_some hb3
            refine m_icmp_ge X ⟨h4, ⟨by decide, by decide⟩⟩ dX1_lead_14 (tgt := 70) (by decide) (fun (hc_ : ¬ (v12_2 < 5)) => ?_) (fun (hc_ : v12_2 < 5) => ?_)
            · rw [if_neg hc_] at hb3
              obtain rfl := Option.some.inj hb3
              exact E3_0 _ (Option.some.inj hq3).symm _ _ _ (lv_sub hl [0, 1] rfl) hP hD hS
            · rw [if_pos hc_] at hb3
              refine lv_aload_n hx hb dX1_lead_17 rfl (lv_at hl 0 rfl) ?_
              refine m_get X hK hP cl_X1 iT_X1 0 (by decide) fl_X1_12 0 rfl rfl dX1_lead_18 ?_
              refine lv_iload_n hx hb dX1_lead_21 rfl (lv_at hl 1 rfl) ?_
              refine lv_iload_n hx hb dX1_lead_22 rfl (lv_at hl 2 rfl) ?_
              obtain ⟨o5, ho, hb3⟩ := bd_some hb3
              refine m_cVR X hK (k_X4_pass n a_t_plan a_t_plan_least a_t_plan_of a_t_plan_set a_t_plan_chances t_plan_rules t_plan_slack t_plan_limit t_plan_of t_plan_set t_plan_least v2_1 v12_2 o5 ho) (hP.sub [1, 2, 3, 4] rfl) rfl cl_X4 lk_X1_93 co_X4_pass dy_X4_pass rfl rfl ⟨Nat.le_of_ble_eq_true rfl, Nat.le_of_ble_eq_true rfl⟩ hl.1 rfl (Nat.le_of_ble_eq_true rfl) dX1_lead_23 (Nat.zero_le _) (Nat.zero_le _) ?_
              refine lv_istore_n (lv' := [(3, .int (z4 o5)), (0, .ref a_t), (1, .int (z4 v2_1)), (2, .int (z4 v12_2))]) hx hb dX1_lead_26 rfl hl (by decide) rfl (fun ls hl => ?_)
              refine lv_iload_n hx hb dX1_lead_27 rfl (lv_at hl 0 rfl) ?_
              refine m_bipush X dX1_lead_28 (by decide) ?_
              obtain ⟨h6, hb3⟩ := ck_some hb3
              refine m_iand X h6 dX1_lead_30 ?_
              obtain ⟨o7, hj7, hr7⟩ := bd_some hb3
              have J7 : ∀ (o_ : Int), o7 = o_ → ∀ (H : Heap) (locs : List Loc) (ls : Array Slot), lv_has ls 5 [(0, .ref a_t), (1, .int (z4 v2_1)), (2, .int (z4 v12_2)), (3, .int (z4 o5))] → va_P D vwCl [(a_t, .inr (1, [.ref a_t_plan, .int (z4 t_pasts), .ref a_t_leads, .ref a_t_part, .ref a_t_finer, .ref a_t_keys, .ref a_t_stateOfPart, .ref a_t_pastOfState, .int (z4 t_states), .ref a_t_steps, .ref a_t_away])), (a_t_plan, .inr (4, [.int (z4 t_plan_rules), .ref a_t_plan_least, .ref a_t_plan_of, .ref a_t_plan_set, .ref a_t_plan_chances, .int (z4 t_plan_slack), .int (z4 t_plan_limit)])), (a_t_plan_of, .inl (E 0, 3, .inl (A4 t_plan_of))), (a_t_plan_set, .inl (E 0, 3, .inl (A4 t_plan_set))), (a_t_plan_least, .inl (E 0, 3, .inl (A4 t_plan_least))), (a_t_leads, .inl (E 0, 320, .inl (A4 t_leads_l12)))] H → va_D A [(a_t, .inr (1, [.ref a_t_plan, .int (z4 t_pasts), .ref a_t_leads, .ref a_t_part, .ref a_t_finer, .ref a_t_keys, .ref a_t_stateOfPart, .ref a_t_pastOfState, .int (z4 t_states), .ref a_t_steps, .ref a_t_away])), (a_t_plan, .inr (4, [.int (z4 t_plan_rules), .ref a_t_plan_least, .ref a_t_plan_of, .ref a_t_plan_set, .ref a_t_plan_chances, .int (z4 t_plan_slack), .int (z4 t_plan_limit)])), (a_t_plan_of, .inl (E 0, 3, .inl (A4 t_plan_of))), (a_t_plan_set, .inl (E 0, 3, .inl (A4 t_plan_set))), (a_t_plan_least, .inl (E 0, 3, .inl (A4 t_plan_least))), (a_t_leads, .inl (E 0, 320, .inl (A4 t_leads_l12)))] → va_S A s.heap H locs → W p l e rm_X1_lead s m args below meth c H locs 0 0 Q (F0 m 39 ls [.int (z4 o_)]) := by
                intro o_ ho_ H locs ls hl hP hD hS
                subst ho_
                refine lv_istore (lv' := [(4, .int (z4 o7)), (0, .ref a_t), (1, .int (z4 v2_1)), (2, .int (z4 v12_2)), (3, .int (z4 o5))]) hx hb dX1_lead_39 hl (by decide) rfl (fun ls hl => ?_)
                refine lv_aload_n hx hb dX1_lead_41 rfl (lv_at hl 1 rfl) ?_
                refine m_get X hK hP cl_X1 iT_X1 2 (by decide) fl_X1_18 0 rfl rfl dX1_lead_42 ?_
                refine lv_iload_n hx hb dX1_lead_45 rfl (lv_at hl 2 rfl) ?_
                refine m_iconst X dX1_lead_46 ?_
                refine m_imul X dX1_lead_47 ?_
                refine lv_iload_n hx hb dX1_lead_48 rfl (lv_at hl 3 rfl) ?_
                refine m_iadd X dX1_lead_49 ?_
                refine lv_iload hx hb dX1_lead_50 (lv_at hl 0 rfl) ?_
                obtain ⟨o9, hj9, hr9⟩ := bd_some hr7
                have J9 : ∀ (o_ : Int), o9 = o_ → ∀ (H : Heap) (locs : List Loc) (ls : Array Slot), lv_has ls 5 [(0, .ref a_t), (1, .int (z4 v2_1)), (2, .int (z4 v12_2))] → va_P D vwCl [(a_t, .inr (1, [.ref a_t_plan, .int (z4 t_pasts), .ref a_t_leads, .ref a_t_part, .ref a_t_finer, .ref a_t_keys, .ref a_t_stateOfPart, .ref a_t_pastOfState, .int (z4 t_states), .ref a_t_steps, .ref a_t_away])), (a_t_plan, .inr (4, [.int (z4 t_plan_rules), .ref a_t_plan_least, .ref a_t_plan_of, .ref a_t_plan_set, .ref a_t_plan_chances, .int (z4 t_plan_slack), .int (z4 t_plan_limit)])), (a_t_plan_of, .inl (E 0, 3, .inl (A4 t_plan_of))), (a_t_plan_set, .inl (E 0, 3, .inl (A4 t_plan_set))), (a_t_plan_least, .inl (E 0, 3, .inl (A4 t_plan_least))), (a_t_leads, .inl (E 0, 320, .inl (A4 t_leads_l12)))] H → va_D A [(a_t, .inr (1, [.ref a_t_plan, .int (z4 t_pasts), .ref a_t_leads, .ref a_t_part, .ref a_t_finer, .ref a_t_keys, .ref a_t_stateOfPart, .ref a_t_pastOfState, .int (z4 t_states), .ref a_t_steps, .ref a_t_away])), (a_t_plan, .inr (4, [.int (z4 t_plan_rules), .ref a_t_plan_least, .ref a_t_plan_of, .ref a_t_plan_set, .ref a_t_plan_chances, .int (z4 t_plan_slack), .int (z4 t_plan_limit)])), (a_t_plan_of, .inl (E 0, 3, .inl (A4 t_plan_of))), (a_t_plan_set, .inl (E 0, 3, .inl (A4 t_plan_set))), (a_t_plan_least, .inl (E 0, 3, .inl (A4 t_plan_least))), (a_t_leads, .inl (E 0, 320, .inl (A4 t_leads_l12)))] → va_S A s.heap H locs → W p l e rm_X1_lead s m args below meth c H locs 0 0 Q (F0 m 63 ls [.int (z4 o_), .int (z4 ((v2_1 * 5) + v12_2)), .ref a_t_leads]) := by
                  intro o_ ho_ H locs ls hl hP hD hS
                  subst ho_
                  obtain ⟨h12, hr9⟩ := ck_some hr9
                  refine m_iast X hK hP hD hS 5 rfl (by decide) h12 [(a_t, .inr (1, [.ref a_t_plan, .int (z4 t_pasts), .ref a_t_leads, .ref a_t_part, .ref a_t_finer, .ref a_t_keys, .ref a_t_stateOfPart, .ref a_t_pastOfState, .int (z4 t_states), .ref a_t_steps, .ref a_t_away])), (a_t_plan, .inr (4, [.int (z4 t_plan_rules), .ref a_t_plan_least, .ref a_t_plan_of, .ref a_t_plan_set, .ref a_t_plan_chances, .int (z4 t_plan_slack), .int (z4 t_plan_limit)])), (a_t_plan_of, .inl (E 0, 3, .inl (A4 t_plan_of))), (a_t_plan_set, .inl (E 0, 3, .inl (A4 t_plan_set))), (a_t_plan_least, .inl (E 0, 3, .inl (A4 t_plan_least))), (a_t_leads, .inl (E 0, 320, .inl (A4 (up_ t_leads_l12 ((v2_1 * 5) + v12_2).toNat o9))))] rfl dX1_lead_63 (fun H locs hP hD hS => ?_)
                  refine m_iinc X 2 [(2, .int (z4 (v12_2 + 1))), (0, .ref a_t), (1, .int (z4 v2_1))] dX1_lead_64 hl rfl (by decide) rfl (fun ls hl => ?_)
                  refine lv_goto (tgt := 12) hx hb dX1_lead_67 (by decide) ?_
                  obtain rfl := Option.some.inj hr9
                  exact ih3 _ _ _ _ _ (lv_sub hl [1, 2, 0] rfl) hP hD hS hq3
                obtain ⟨h10, hj9⟩ := ck_some hj9
                refine m_if_eq X h10 dX1_lead_52 (tgt := 60) (by decide) (fun (hc_ : o7 = 0) => ?_) (fun (hc_ : ¬ (o7 = 0)) => ?_)
                · rw [if_pos hc_] at hj9
                  refine lv_iload_n hx hb dX1_lead_60 rfl (lv_at hl 4 rfl) ?_
                  refine m_iconst X dX1_lead_61 ?_
                  obtain ⟨h11, hj9⟩ := ck_some hj9
                  refine m_ishr X h11 dX1_lead_62 ?_
                  exact J9 _ (Option.some.inj hj9).symm _ _ _ (lv_sub hl [1, 2, 3] rfl) hP hD hS
                · rw [if_neg hc_] at hj9
                  refine m_bipush X dX1_lead_55 (by decide) ?_
                  refine lv_goto (tgt := 63) hx hb dX1_lead_57 (by decide) ?_
                  exact J9 _ (Option.some.inj hj9).symm _ _ _ (lv_sub hl [1, 2, 3] rfl) hP hD hS
              obtain ⟨h8, hj7⟩ := ck_some hj7
              refine m_if_eq X h8 dX1_lead_31 (tgt := 38) (by decide) (fun (hc_ : an_ o5 7 = 0) => ?_) (fun (hc_ : ¬ (an_ o5 7 = 0)) => ?_)
              · rw [if_pos hc_] at hj7
                refine m_iconst X dX1_lead_38 ?_
                exact J7 _ (Option.some.inj hj7).symm _ _ _ (lv_sub hl [1, 2, 3, 0] rfl) hP hD hS
              · rw [if_neg hc_] at hj7
                refine m_iconst X dX1_lead_34 ?_
                refine lv_goto (tgt := 39) hx hb dX1_lead_35 (by decide) ?_
                exact J7 _ (Option.some.inj hj7).symm _ _ _ (lv_sub hl [1, 2, 3, 0] rfl) hP hD hS
        exact L3 n _ _ _ _ _ (lv_sub hl [1, 2, 0] rfl) hP hD hS hj3
  exact L1 n _ _ _ _ _ (lv_sub hl [1, 0] rfl) hP hD hS hj1
def F_X1_keyOf_L4 (n : Nat) (x1 : Int) (t_leads : Nat → Int) (t_part : Nat → Int) (v4_2 : Int) (v4_3 : Int) : Option ((Int × Int) ⊕ (Int)) :=
  ck (r4 v4_3) <|
  if v4_3 < 5 then
    ck (ix_ ((x1 * 5) + v4_3) 320) <|
    (F_X11_isPast n (t_leads ((x1 * 5) + v4_3).toNat)).bind fun o4 =>
    Option.bind (α := Int) (
      ck (r4 o4) <|
      if o4 = 0 then
        some 64
      else
        ck (ix_ (t_leads ((x1 * 5) + v4_3).toNat) 64) <|
        some (t_part (t_leads ((x1 * 5) + v4_3).toNat).toNat)) fun o5 =>
    some (.inl ((v4_2 * 65) + o5, v4_3 + 1))
  else
    some (.inr v4_2)
def F_X1_keyOf (n : Nat)  (t_leads : Nat → Int) (t_part : Nat → Int) (x1 : Int) : Option (Int) :=
  (lp_ (fun (q : Int × Int) => F_X1_keyOf_L4 n x1 t_leads t_part q.1 q.2) n (0, 0)).bind fun o1 =>
  some o1
def rm_X1_keyOf : Room := { frames := 1, cells := 0, slots := 0, locals := 20 }
set_option maxHeartbeats 4000000 in
set_option maxRecDepth 100000 in
theorem k_X1_keyOf {l : Launch} {D : va_G} {E : Nat → ClassId} (n : Nat) (a_t a_t_plan a_t_leads a_t_part a_t_finer a_t_keys a_t_stateOfPart a_t_pastOfState a_t_steps a_t_away : Nat) (t_pasts : Int) (t_states : Int) (t_leads : Nat → Int) (t_part : Nat → Int) (x1 : Int) (res : Int) (hf : F_X1_keyOf n t_leads t_part x1 = some res) : MR l yX1_keyOf (.code yX1_keyOf cX1_keyOf 5 (some .int)) rm_X1_keyOf D E [.ref a_t, .int (z4 x1)] [(a_t, .inr (1, [.ref a_t_plan, .int (z4 t_pasts), .ref a_t_leads, .ref a_t_part, .ref a_t_finer, .ref a_t_keys, .ref a_t_stateOfPart, .ref a_t_pastOfState, .int (z4 t_states), .ref a_t_steps, .ref a_t_away])), (a_t_leads, .inl (E 0, 320, .inl (A4 t_leads))), (a_t_part, .inl (E 0, 64, .inl (A4 t_part)))] (some (.int (z4 res))) := by
  refine MRi (by decide) (Nat.le_of_ble_eq_true rfl) ?_
  intro p e s m args below meth c Q X hK hP ret ls hl
  have hx := X.1
  have hb := X.2.1
  have hl : lv_has ls 5 [(0, .ref a_t), (1, .int (z4 x1))] := hl
  unfold F_X1_keyOf at hf
  refine m_iconst X dX1_keyOf_0 ?_
  refine lv_istore_n (lv' := [(2, .int (z4 0)), (0, .ref a_t), (1, .int (z4 x1))]) hx hb dX1_keyOf_1 rfl hl (by decide) rfl (fun ls hl => ?_)
  refine m_iconst X dX1_keyOf_2 ?_
  refine lv_istore_n (lv' := [(3, .int (z4 0)), (2, .int (z4 0)), (0, .ref a_t), (1, .int (z4 x1))]) hx hb dX1_keyOf_3 rfl hl (by decide) rfl (fun ls hl => ?_)
  obtain ⟨o1, hj1, hr1⟩ := bd_some hf
  have E1_0 : ∀ (o_ : Int), o1 = o_ → ∀ (ls : Array Slot), lv_has ls 5 [(2, .int (z4 o_))] → W p l e rm_X1_keyOf s m args below meth c s.heap [] 0 0 Q (F0 m 53 ls []) := by
    intro o_ ho_ ls hl 
    subst ho_
    refine lv_iload_n hx hb dX1_keyOf_53 rfl (lv_at hl 0 rfl) ?_
    obtain rfl := Option.some.inj hr1
    exact ret _ _ dX1_keyOf_54
  have L1 : ∀ (k_ : Nat) (v4_2 : Int) (v4_3 : Int), ∀ (ls : Array Slot), lv_has ls 5 [(0, .ref a_t), (1, .int (z4 x1)), (2, .int (z4 v4_2)), (3, .int (z4 v4_3))] → lp_ (fun (q : Int × Int) => F_X1_keyOf_L4 n x1 t_leads t_part q.1 q.2) k_ (v4_2, v4_3) = some o1 → W p l e rm_X1_keyOf s m args below meth c s.heap [] 0 0 Q (F0 m 4 ls []) := by
    intro k_
    induction k_ with
    | zero =>
      intro v4_2 v4_3 ls hl  hq_; exact (lp_zero hq_).elim
    | succ k_ ih1 =>
      intro v4_2 v4_3 ls hl  hq_
      obtain ⟨t_1, hb1, hq1⟩ := lp_some hq_
      replace hb1 : F_X1_keyOf_L4 n x1 t_leads t_part v4_2 v4_3 = some t_1 := hb1
      unfold F_X1_keyOf_L4 at hb1
      refine lv_iload_n hx hb dX1_keyOf_4 rfl (lv_at hl 3 rfl) ?_
      refine m_iconst X dX1_keyOf_5 ?_
      obtain ⟨h2, hb1⟩ := ck_some hb1
      refine m_icmp_ge X ⟨h2, ⟨by decide, by decide⟩⟩ dX1_keyOf_6 (tgt := 53) (by decide) (fun (hc_ : ¬ (v4_3 < 5)) => ?_) (fun (hc_ : v4_3 < 5) => ?_)
      · rw [if_neg hc_] at hb1
        obtain rfl := Option.some.inj hb1
        exact E1_0 _ (Option.some.inj hq1).symm _ (lv_sub hl [2] rfl) 
      · rw [if_pos hc_] at hb1
        refine lv_aload_n hx hb dX1_keyOf_9 rfl (lv_at hl 0 rfl) ?_
        refine m_get X hK hP cl_X1 iT_X1 2 (by decide) fl_X1_18 0 rfl rfl dX1_keyOf_10 ?_
        refine lv_iload_n hx hb dX1_keyOf_13 rfl (lv_at hl 1 rfl) ?_
        refine m_iconst X dX1_keyOf_14 ?_
        refine m_imul X dX1_keyOf_15 ?_
        refine lv_iload_n hx hb dX1_keyOf_16 rfl (lv_at hl 3 rfl) ?_
        refine m_iadd X dX1_keyOf_17 ?_
        obtain ⟨h3, hb1⟩ := ck_some hb1
        refine m_iald X hK hP 1 rfl (by decide) h3 dX1_keyOf_18 ?_
        refine lv_istore (lv' := [(4, .int (z4 (t_leads ((x1 * 5) + v4_3).toNat))), (0, .ref a_t), (1, .int (z4 x1)), (2, .int (z4 v4_2)), (3, .int (z4 v4_3))]) hx hb dX1_keyOf_19 hl (by decide) rfl (fun ls hl => ?_)
        refine lv_iload_n hx hb dX1_keyOf_21 rfl (lv_at hl 3 rfl) ?_
        refine m_bipush X dX1_keyOf_22 (by decide) ?_
        refine m_imul X dX1_keyOf_24 ?_
        refine lv_iload hx hb dX1_keyOf_25 (lv_at hl 0 rfl) ?_
        obtain ⟨o4, ho, hb1⟩ := bd_some hb1
        refine m_cSRN X hK (k_X11_isPast n (t_leads ((x1 * 5) + v4_3).toNat) o4 ho) (hP.sub (ws' := []) [] rfl) (NK.X1_54 hK.2.2.2) ls_X1_54 co_X11_isPast dy_X11_isPast rfl rfl ⟨Nat.le_of_ble_eq_true rfl, Nat.le_of_ble_eq_true rfl⟩ hl.1 rfl (Nat.le_of_ble_eq_true rfl) dX1_keyOf_27 (Nat.zero_le _) (Nat.zero_le _) ?_
        obtain ⟨o5, hj5, hr5⟩ := bd_some hb1
        have J5 : ∀ (o_ : Int), o5 = o_ → ∀ (ls : Array Slot), lv_has ls 5 [(0, .ref a_t), (1, .int (z4 x1)), (3, .int (z4 v4_3))] → W p l e rm_X1_keyOf s m args below meth c s.heap [] 0 0 Q (F0 m 45 ls [.int (z4 o_), .int (z4 (v4_2 * 65))]) := by
          intro o_ ho_ ls hl 
          subst ho_
          refine m_iadd X dX1_keyOf_45 ?_
          refine lv_istore_n (lv' := [(2, .int (z4 ((v4_2 * 65) + o5))), (0, .ref a_t), (1, .int (z4 x1)), (3, .int (z4 v4_3))]) hx hb dX1_keyOf_46 rfl hl (by decide) rfl (fun ls hl => ?_)
          refine m_iinc X 3 [(3, .int (z4 (v4_3 + 1))), (2, .int (z4 ((v4_2 * 65) + o5))), (0, .ref a_t), (1, .int (z4 x1))] dX1_keyOf_47 hl rfl (by decide) rfl (fun ls hl => ?_)
          refine lv_goto (tgt := 4) hx hb dX1_keyOf_50 (by decide) ?_
          obtain rfl := Option.some.inj hr5
          exact ih1 _ _ _ (lv_sub hl [2, 3, 1, 0] rfl)  hq1
        obtain ⟨h6, hj5⟩ := ck_some hj5
        refine m_if_eq X h6 dX1_keyOf_30 (tgt := 43) (by decide) (fun (hc_ : o4 = 0) => ?_) (fun (hc_ : ¬ (o4 = 0)) => ?_)
        · rw [if_pos hc_] at hj5
          refine m_bipush X dX1_keyOf_43 (by decide) ?_
          exact J5 _ (Option.some.inj hj5).symm _ (lv_sub hl [1, 2, 4] rfl) 
        · rw [if_neg hc_] at hj5
          refine lv_aload_n hx hb dX1_keyOf_33 rfl (lv_at hl 1 rfl) ?_
          refine m_get X hK hP cl_X1 iT_X1 3 (by decide) fl_X1_22 0 rfl rfl dX1_keyOf_34 ?_
          refine lv_iload hx hb dX1_keyOf_37 (lv_at hl 0 rfl) ?_
          obtain ⟨h7, hj5⟩ := ck_some hj5
          refine m_iald X hK hP 2 rfl (by decide) h7 dX1_keyOf_39 ?_
          refine lv_goto (tgt := 45) hx hb dX1_keyOf_40 (by decide) ?_
          exact J5 _ (Option.some.inj hj5).symm _ (lv_sub hl [1, 2, 4] rfl) 
  exact L1 n _ _ _ (lv_sub hl [2, 3, 1, 0] rfl)  hj1
def F_X1_split_L21 (n : Nat) (v4_1 : Int) (t_keys_l4 : Nat → Int) (o3 : Int) (v21_4 : Int) : Option ((Int) ⊕ (Int)) :=
  ck (r4 v21_4 ∧ r4 v4_1) <|
  if v21_4 < v4_1 then
    ck (ix_ v21_4 64) <|
    ck (r4 (t_keys_l4 (v21_4).toNat) ∧ r4 o3) <|
    if t_keys_l4 (v21_4).toNat = o3 then
      some (.inr v21_4)
    else
      some (.inl (v21_4 + 1))
  else
    some (.inr v21_4)
def F_X1_split_L4 (n : Nat) (t_pasts : Int) (t_leads : Nat → Int) (t_part : Nat → Int) (v4_1 : Int) (v4_2 : Int) (t_keys_l4 : Nat → Int) (t_finer_l4 : Nat → Int) : Option ((Int × Int × (Nat → Int) × (Nat → Int)) ⊕ (Int × (Nat → Int) × (Nat → Int))) :=
  ck (r4 v4_2 ∧ r4 t_pasts) <|
  if v4_2 < t_pasts then
    (F_X1_keyOf n t_leads t_part v4_2).bind fun o3 =>
    (lp_ (fun (q : Int) => F_X1_split_L21 n v4_1 t_keys_l4 o3 q) n 0).bind fun o4 =>
    Option.bind (α := Int × (Nat → Int)) (
      ck (r4 o4 ∧ r4 v4_1) <|
      if o4 = v4_1 then
        ck (r4 v4_1) <|
        if v4_1 < 64 then
          ck (ix_ v4_1 64) <|
          some (v4_1 + 1, up_ t_keys_l4 (v4_1).toNat o3)
        else
          some (v4_1, t_keys_l4)
      else
        some (v4_1, t_keys_l4)) fun o8 =>
    ck (ix_ v4_2 64) <|
    some (.inl (o8.1, v4_2 + 1, o8.2, up_ t_finer_l4 (v4_2).toNat o4))
  else
    some (.inr (v4_1, t_keys_l4, t_finer_l4))
def F_X1_split (n : Nat)  (t_pasts : Int) (t_leads : Nat → Int) (t_part : Nat → Int) (t_keys : Nat → Int) (t_finer : Nat → Int)  : Option (Int × (Nat → Int) × (Nat → Int) × (Nat → Int)) :=
  (lp_ (fun (q : Int × Int × (Nat → Int) × (Nat → Int)) => F_X1_split_L4 n t_pasts t_leads t_part q.1 q.2.1 q.2.2.1 q.2.2.2) n (0, 0, t_keys, t_finer)).bind fun o1 =>
  ck (cy_ 0 t_pasts 0 64 64) <|
  some (o1.1, cp_ o1.2.2 t_part 0 0 (t_pasts).toNat, o1.2.1, o1.2.2)
def rm_X1_split : Room := { frames := 2, cells := 0, slots := 0, locals := 48 }
set_option maxHeartbeats 4000000 in
set_option maxRecDepth 100000 in
theorem k_X1_split {l : Launch} {D : va_G} {E : Nat → ClassId} (n : Nat) (a_t a_t_plan a_t_leads a_t_part a_t_finer a_t_keys a_t_stateOfPart a_t_pastOfState a_t_steps a_t_away : Nat) (t_pasts : Int) (t_states : Int) (t_leads : Nat → Int) (t_part : Nat → Int) (t_keys : Nat → Int) (t_finer : Nat → Int) (res : Int × (Nat → Int) × (Nat → Int) × (Nat → Int)) (hf : F_X1_split n t_pasts t_leads t_part t_keys t_finer = some res) : MW l yX1_split (.code yX1_split cX1_split 5 (some .int)) rm_X1_split D E [.ref a_t] [(a_t, .inr (1, [.ref a_t_plan, .int (z4 t_pasts), .ref a_t_leads, .ref a_t_part, .ref a_t_finer, .ref a_t_keys, .ref a_t_stateOfPart, .ref a_t_pastOfState, .int (z4 t_states), .ref a_t_steps, .ref a_t_away])), (a_t_leads, .inl (E 0, 320, .inl (A4 t_leads))), (a_t_part, .inl (E 0, 64, .inl (A4 t_part))), (a_t_keys, .inl (E 0, 64, .inl (A4 t_keys))), (a_t_finer, .inl (E 0, 64, .inl (A4 t_finer)))] (some (.int (z4 res.1))) [(a_t, .inr (1, [.ref a_t_plan, .int (z4 t_pasts), .ref a_t_leads, .ref a_t_part, .ref a_t_finer, .ref a_t_keys, .ref a_t_stateOfPart, .ref a_t_pastOfState, .int (z4 t_states), .ref a_t_steps, .ref a_t_away])), (a_t_leads, .inl (E 0, 320, .inl (A4 t_leads))), (a_t_part, .inl (E 0, 64, .inl (A4 res.2.1))), (a_t_keys, .inl (E 0, 64, .inl (A4 res.2.2.1))), (a_t_finer, .inl (E 0, 64, .inl (A4 res.2.2.2)))] := by
  refine MWi (by decide) (Nat.le_of_ble_eq_true rfl) ?_
  intro p e s m args below meth c A Q X hK hP hD hA ret ls hl
  have hS : va_S A s.heap s.heap [] := va_S.rf
  have hx := X.1
  have hb := X.2.1
  have hl : lv_has ls 5 [(0, .ref a_t)] := hl
  unfold F_X1_split at hf
  refine m_iconst X dX1_split_0 ?_
  refine lv_istore_n (lv' := [(1, .int (z4 0)), (0, .ref a_t)]) hx hb dX1_split_1 rfl hl (by decide) rfl (fun ls hl => ?_)
  refine m_iconst X dX1_split_2 ?_
  refine lv_istore_n (lv' := [(2, .int (z4 0)), (1, .int (z4 0)), (0, .ref a_t)]) hx hb dX1_split_3 rfl hl (by decide) rfl (fun ls hl => ?_)
  obtain ⟨o1, hj1, hr1⟩ := bd_some hf
  have E1_0 : ∀ (o_ : Int × (Nat → Int) × (Nat → Int)), o1 = o_ → ∀ (H : Heap) (locs : List Loc) (ls : Array Slot), lv_has ls 5 [(0, .ref a_t), (1, .int (z4 o_.1))] → va_P D vwCl [(a_t, .inr (1, [.ref a_t_plan, .int (z4 t_pasts), .ref a_t_leads, .ref a_t_part, .ref a_t_finer, .ref a_t_keys, .ref a_t_stateOfPart, .ref a_t_pastOfState, .int (z4 t_states), .ref a_t_steps, .ref a_t_away])), (a_t_leads, .inl (E 0, 320, .inl (A4 t_leads))), (a_t_part, .inl (E 0, 64, .inl (A4 t_part))), (a_t_keys, .inl (E 0, 64, .inl (A4 o_.2.1))), (a_t_finer, .inl (E 0, 64, .inl (A4 o_.2.2)))] H → va_D A [(a_t, .inr (1, [.ref a_t_plan, .int (z4 t_pasts), .ref a_t_leads, .ref a_t_part, .ref a_t_finer, .ref a_t_keys, .ref a_t_stateOfPart, .ref a_t_pastOfState, .int (z4 t_states), .ref a_t_steps, .ref a_t_away])), (a_t_leads, .inl (E 0, 320, .inl (A4 t_leads))), (a_t_part, .inl (E 0, 64, .inl (A4 t_part))), (a_t_keys, .inl (E 0, 64, .inl (A4 o_.2.1))), (a_t_finer, .inl (E 0, 64, .inl (A4 o_.2.2)))] → va_S A s.heap H locs → W p l e rm_X1_split s m args below meth c H locs 0 0 Q (F0 m 80 ls []) := by
    intro o_ ho_ H locs ls hl hP hD hS
    subst ho_
    refine lv_aload_n hx hb dX1_split_80 rfl (lv_at hl 0 rfl) ?_
    refine m_get X hK hP cl_X1 iT_X1 4 (by decide) fl_X1_25 0 rfl rfl dX1_split_81 ?_
    refine m_iconst X dX1_split_84 ?_
    refine lv_aload_n hx hb dX1_split_85 rfl (lv_at hl 0 rfl) ?_
    refine m_get X hK hP cl_X1 iT_X1 3 (by decide) fl_X1_22 0 rfl rfl dX1_split_86 ?_
    refine m_iconst X dX1_split_89 ?_
    refine lv_aload_n hx hb dX1_split_90 rfl (lv_at hl 0 rfl) ?_
    refine m_get X hK hP cl_X1 iT_X1 1 (by decide) fl_X1_71 0 rfl rfl dX1_split_91 ?_
    obtain ⟨h13, hr1⟩ := ck_some hr1
    refine m_copy X ml_X1_100 nv_arraycopy st_arraycopy in_System hl.1 hK hP hD hS 4 2 rfl rfl (by decide) (by decide) h13 (Nat.le_of_ble_eq_true rfl) (by decide +kernel) [(a_t, .inr (1, [.ref a_t_plan, .int (z4 t_pasts), .ref a_t_leads, .ref a_t_part, .ref a_t_finer, .ref a_t_keys, .ref a_t_stateOfPart, .ref a_t_pastOfState, .int (z4 t_states), .ref a_t_steps, .ref a_t_away])), (a_t_leads, .inl (E 0, 320, .inl (A4 t_leads))), (a_t_part, .inl (E 0, 64, .inl (A4 (cp_ o1.2.2 t_part 0 0 (t_pasts).toNat)))), (a_t_keys, .inl (E 0, 64, .inl (A4 o1.2.1))), (a_t_finer, .inl (E 0, 64, .inl (A4 o1.2.2)))] rfl dX1_split_94 (fun H locs hP hD hS => ?_)
    refine lv_iload_n hx hb dX1_split_97 rfl (lv_at hl 1 rfl) ?_
    obtain rfl := Option.some.inj hr1
    exact ret _ _ _ _ hP hD hS dX1_split_98
  have L1 : ∀ (k_ : Nat) (v4_1 : Int) (v4_2 : Int) (t_keys_l4 : Nat → Int) (t_finer_l4 : Nat → Int), ∀ (H : Heap) (locs : List Loc) (ls : Array Slot), lv_has ls 5 [(0, .ref a_t), (1, .int (z4 v4_1)), (2, .int (z4 v4_2))] → va_P D vwCl [(a_t, .inr (1, [.ref a_t_plan, .int (z4 t_pasts), .ref a_t_leads, .ref a_t_part, .ref a_t_finer, .ref a_t_keys, .ref a_t_stateOfPart, .ref a_t_pastOfState, .int (z4 t_states), .ref a_t_steps, .ref a_t_away])), (a_t_leads, .inl (E 0, 320, .inl (A4 t_leads))), (a_t_part, .inl (E 0, 64, .inl (A4 t_part))), (a_t_keys, .inl (E 0, 64, .inl (A4 t_keys_l4))), (a_t_finer, .inl (E 0, 64, .inl (A4 t_finer_l4)))] H → va_D A [(a_t, .inr (1, [.ref a_t_plan, .int (z4 t_pasts), .ref a_t_leads, .ref a_t_part, .ref a_t_finer, .ref a_t_keys, .ref a_t_stateOfPart, .ref a_t_pastOfState, .int (z4 t_states), .ref a_t_steps, .ref a_t_away])), (a_t_leads, .inl (E 0, 320, .inl (A4 t_leads))), (a_t_part, .inl (E 0, 64, .inl (A4 t_part))), (a_t_keys, .inl (E 0, 64, .inl (A4 t_keys_l4))), (a_t_finer, .inl (E 0, 64, .inl (A4 t_finer_l4)))] → va_S A s.heap H locs → lp_ (fun (q : Int × Int × (Nat → Int) × (Nat → Int)) => F_X1_split_L4 n t_pasts t_leads t_part q.1 q.2.1 q.2.2.1 q.2.2.2) k_ (v4_1, v4_2, t_keys_l4, t_finer_l4) = some o1 → W p l e rm_X1_split s m args below meth c H locs 0 0 Q (F0 m 4 ls []) := by
    intro k_
    induction k_ with
    | zero =>
      intro v4_1 v4_2 t_keys_l4 t_finer_l4 H locs ls hl hP hD hS hq_; exact (lp_zero hq_).elim
    | succ k_ ih1 =>
      intro v4_1 v4_2 t_keys_l4 t_finer_l4 H locs ls hl hP hD hS hq_
      obtain ⟨t_1, hb1, hq1⟩ := lp_some hq_
      replace hb1 : F_X1_split_L4 n t_pasts t_leads t_part v4_1 v4_2 t_keys_l4 t_finer_l4 = some t_1 := hb1
      unfold F_X1_split_L4 at hb1
      refine lv_iload_n hx hb dX1_split_4 rfl (lv_at hl 2 rfl) ?_
      refine lv_aload_n hx hb dX1_split_5 rfl (lv_at hl 0 rfl) ?_
      refine m_get X hK hP cl_X1 iT_X1 1 (by decide) fl_X1_71 0 rfl rfl dX1_split_6 ?_
      obtain ⟨h2, hb1⟩ := ck_some hb1
      refine m_icmp_ge X h2 dX1_split_9 (tgt := 80) (by decide) (fun (hc_ : ¬ (v4_2 < t_pasts)) => ?_) (fun (hc_ : v4_2 < t_pasts) => ?_)
      · rw [if_neg hc_] at hb1
        obtain rfl := Option.some.inj hb1
        exact E1_0 _ (Option.some.inj hq1).symm _ _ _ (lv_sub hl [0, 1] rfl) hP hD hS
      · rw [if_pos hc_] at hb1
        refine lv_aload_n hx hb dX1_split_12 rfl (lv_at hl 0 rfl) ?_
        refine lv_iload_n hx hb dX1_split_13 rfl (lv_at hl 2 rfl) ?_
        obtain ⟨o3, ho, hb1⟩ := bd_some hb1
        refine m_cVR X hK (k_X1_keyOf n a_t a_t_plan a_t_leads a_t_part a_t_finer a_t_keys a_t_stateOfPart a_t_pastOfState a_t_steps a_t_away t_pasts t_states t_leads t_part v4_2 o3 ho) (hP.sub [0, 1, 2] rfl) rfl cl_X1 lk_X1_96 co_X1_keyOf dy_X1_keyOf rfl rfl ⟨Nat.le_of_ble_eq_true rfl, Nat.le_of_ble_eq_true rfl⟩ hl.1 rfl (Nat.le_of_ble_eq_true rfl) dX1_split_14 (Nat.zero_le _) (Nat.zero_le _) ?_
        refine lv_istore_n (lv' := [(3, .int (z4 o3)), (0, .ref a_t), (1, .int (z4 v4_1)), (2, .int (z4 v4_2))]) hx hb dX1_split_17 rfl hl (by decide) rfl (fun ls hl => ?_)
        refine m_iconst X dX1_split_18 ?_
        refine lv_istore (lv' := [(4, .int (z4 0)), (3, .int (z4 o3)), (0, .ref a_t), (1, .int (z4 v4_1)), (2, .int (z4 v4_2))]) hx hb dX1_split_19 hl (by decide) rfl (fun ls hl => ?_)
        obtain ⟨o4, hj4, hr4⟩ := bd_some hb1
        have E4_0 : ∀ (o_ : Int), o4 = o_ → ∀ (H : Heap) (locs : List Loc) (ls : Array Slot), lv_has ls 5 [(0, .ref a_t), (1, .int (z4 v4_1)), (2, .int (z4 v4_2)), (3, .int (z4 o3)), (4, .int (z4 o_))] → va_P D vwCl [(a_t, .inr (1, [.ref a_t_plan, .int (z4 t_pasts), .ref a_t_leads, .ref a_t_part, .ref a_t_finer, .ref a_t_keys, .ref a_t_stateOfPart, .ref a_t_pastOfState, .int (z4 t_states), .ref a_t_steps, .ref a_t_away])), (a_t_leads, .inl (E 0, 320, .inl (A4 t_leads))), (a_t_part, .inl (E 0, 64, .inl (A4 t_part))), (a_t_keys, .inl (E 0, 64, .inl (A4 t_keys_l4))), (a_t_finer, .inl (E 0, 64, .inl (A4 t_finer_l4)))] H → va_D A [(a_t, .inr (1, [.ref a_t_plan, .int (z4 t_pasts), .ref a_t_leads, .ref a_t_part, .ref a_t_finer, .ref a_t_keys, .ref a_t_stateOfPart, .ref a_t_pastOfState, .int (z4 t_states), .ref a_t_steps, .ref a_t_away])), (a_t_leads, .inl (E 0, 320, .inl (A4 t_leads))), (a_t_part, .inl (E 0, 64, .inl (A4 t_part))), (a_t_keys, .inl (E 0, 64, .inl (A4 t_keys_l4))), (a_t_finer, .inl (E 0, 64, .inl (A4 t_finer_l4)))] → va_S A s.heap H locs → W p l e rm_X1_split s m args below meth c H locs 0 0 Q (F0 m 44 ls []) := by
          intro o_ ho_ H locs ls hl hP hD hS
          subst ho_
          refine lv_iload hx hb dX1_split_44 (lv_at hl 4 rfl) ?_
          refine lv_iload_n hx hb dX1_split_46 rfl (lv_at hl 1 rfl) ?_
          obtain ⟨o8, hj8, hr8⟩ := bd_some hr4
          have J8 : ∀ (o_ : Int × (Nat → Int)), o8 = o_ → ∀ (H : Heap) (locs : List Loc) (ls : Array Slot), lv_has ls 5 [(0, .ref a_t), (1, .int (z4 o_.1)), (2, .int (z4 v4_2)), (4, .int (z4 o4))] → va_P D vwCl [(a_t, .inr (1, [.ref a_t_plan, .int (z4 t_pasts), .ref a_t_leads, .ref a_t_part, .ref a_t_finer, .ref a_t_keys, .ref a_t_stateOfPart, .ref a_t_pastOfState, .int (z4 t_states), .ref a_t_steps, .ref a_t_away])), (a_t_leads, .inl (E 0, 320, .inl (A4 t_leads))), (a_t_part, .inl (E 0, 64, .inl (A4 t_part))), (a_t_keys, .inl (E 0, 64, .inl (A4 o_.2))), (a_t_finer, .inl (E 0, 64, .inl (A4 t_finer_l4)))] H → va_D A [(a_t, .inr (1, [.ref a_t_plan, .int (z4 t_pasts), .ref a_t_leads, .ref a_t_part, .ref a_t_finer, .ref a_t_keys, .ref a_t_stateOfPart, .ref a_t_pastOfState, .int (z4 t_states), .ref a_t_steps, .ref a_t_away])), (a_t_leads, .inl (E 0, 320, .inl (A4 t_leads))), (a_t_part, .inl (E 0, 64, .inl (A4 t_part))), (a_t_keys, .inl (E 0, 64, .inl (A4 o_.2))), (a_t_finer, .inl (E 0, 64, .inl (A4 t_finer_l4)))] → va_S A s.heap H locs → W p l e rm_X1_split s m args below meth c H locs 0 0 Q (F0 m 66 ls []) := by
            intro o_ ho_ H locs ls hl hP hD hS
            subst ho_
            refine lv_aload_n hx hb dX1_split_66 rfl (lv_at hl 0 rfl) ?_
            refine m_get X hK hP cl_X1 iT_X1 4 (by decide) fl_X1_25 0 rfl rfl dX1_split_67 ?_
            refine lv_iload_n hx hb dX1_split_70 rfl (lv_at hl 2 rfl) ?_
            refine lv_iload hx hb dX1_split_71 (lv_at hl 3 rfl) ?_
            obtain ⟨h12, hr8⟩ := ck_some hr8
            refine m_iast X hK hP hD hS 4 rfl (by decide) h12 [(a_t, .inr (1, [.ref a_t_plan, .int (z4 t_pasts), .ref a_t_leads, .ref a_t_part, .ref a_t_finer, .ref a_t_keys, .ref a_t_stateOfPart, .ref a_t_pastOfState, .int (z4 t_states), .ref a_t_steps, .ref a_t_away])), (a_t_leads, .inl (E 0, 320, .inl (A4 t_leads))), (a_t_part, .inl (E 0, 64, .inl (A4 t_part))), (a_t_keys, .inl (E 0, 64, .inl (A4 o8.2))), (a_t_finer, .inl (E 0, 64, .inl (A4 (up_ t_finer_l4 (v4_2).toNat o4))))] rfl dX1_split_73 (fun H locs hP hD hS => ?_)
            refine m_iinc X 2 [(2, .int (z4 (v4_2 + 1))), (0, .ref a_t), (1, .int (z4 o8.1)), (4, .int (z4 o4))] dX1_split_74 hl rfl (by decide) rfl (fun ls hl => ?_)
            refine lv_goto (tgt := 4) hx hb dX1_split_77 (by decide) ?_
            obtain rfl := Option.some.inj hr8
            exact ih1 _ _ _ _ _ _ _ (lv_sub hl [1, 2, 0] rfl) hP hD hS hq1
          obtain ⟨h9, hj8⟩ := ck_some hj8
          refine m_icmp_ne X h9 dX1_split_47 (tgt := 66) (by decide) (fun (hc_ : ¬ (o4 = v4_1)) => ?_) (fun (hc_ : o4 = v4_1) => ?_)
          · rw [if_neg hc_] at hj8
            exact J8 _ (Option.some.inj hj8).symm _ _ _ (lv_sub hl [0, 1, 2, 4] rfl) hP hD hS
          · rw [if_pos hc_] at hj8
            refine lv_iload_n hx hb dX1_split_50 rfl (lv_at hl 1 rfl) ?_
            refine m_bipush X dX1_split_51 (by decide) ?_
            obtain ⟨h10, hj8⟩ := ck_some hj8
            refine m_icmp_ge X ⟨h10, ⟨by decide, by decide⟩⟩ dX1_split_53 (tgt := 66) (by decide) (fun (hc_ : ¬ (v4_1 < 64)) => ?_) (fun (hc_ : v4_1 < 64) => ?_)
            · rw [if_neg hc_] at hj8
              exact J8 _ (Option.some.inj hj8).symm _ _ _ (lv_sub hl [0, 1, 2, 4] rfl) hP hD hS
            · rw [if_pos hc_] at hj8
              refine lv_aload_n hx hb dX1_split_56 rfl (lv_at hl 0 rfl) ?_
              refine m_get X hK hP cl_X1 iT_X1 5 (by decide) fl_X1_28 0 rfl rfl dX1_split_57 ?_
              refine lv_iload_n hx hb dX1_split_60 rfl (lv_at hl 1 rfl) ?_
              refine lv_iload_n hx hb dX1_split_61 rfl (lv_at hl 3 rfl) ?_
              obtain ⟨h11, hj8⟩ := ck_some hj8
              refine m_iast X hK hP hD hS 3 rfl (by decide) h11 [(a_t, .inr (1, [.ref a_t_plan, .int (z4 t_pasts), .ref a_t_leads, .ref a_t_part, .ref a_t_finer, .ref a_t_keys, .ref a_t_stateOfPart, .ref a_t_pastOfState, .int (z4 t_states), .ref a_t_steps, .ref a_t_away])), (a_t_leads, .inl (E 0, 320, .inl (A4 t_leads))), (a_t_part, .inl (E 0, 64, .inl (A4 t_part))), (a_t_keys, .inl (E 0, 64, .inl (A4 (up_ t_keys_l4 (v4_1).toNat o3)))), (a_t_finer, .inl (E 0, 64, .inl (A4 t_finer_l4)))] rfl dX1_split_62 (fun H locs hP hD hS => ?_)
              refine m_iinc X 1 [(1, .int (z4 (v4_1 + 1))), (0, .ref a_t), (2, .int (z4 v4_2)), (3, .int (z4 o3)), (4, .int (z4 o4))] dX1_split_63 hl rfl (by decide) rfl (fun ls hl => ?_)
              exact J8 _ (Option.some.inj hj8).symm _ _ _ (lv_sub hl [1, 0, 2, 4] rfl) hP hD hS
        have L4 : ∀ (k_ : Nat) (v21_4 : Int), ∀ (H : Heap) (locs : List Loc) (ls : Array Slot), lv_has ls 5 [(0, .ref a_t), (1, .int (z4 v4_1)), (2, .int (z4 v4_2)), (3, .int (z4 o3)), (4, .int (z4 v21_4))] → va_P D vwCl [(a_t, .inr (1, [.ref a_t_plan, .int (z4 t_pasts), .ref a_t_leads, .ref a_t_part, .ref a_t_finer, .ref a_t_keys, .ref a_t_stateOfPart, .ref a_t_pastOfState, .int (z4 t_states), .ref a_t_steps, .ref a_t_away])), (a_t_leads, .inl (E 0, 320, .inl (A4 t_leads))), (a_t_part, .inl (E 0, 64, .inl (A4 t_part))), (a_t_keys, .inl (E 0, 64, .inl (A4 t_keys_l4))), (a_t_finer, .inl (E 0, 64, .inl (A4 t_finer_l4)))] H → va_D A [(a_t, .inr (1, [.ref a_t_plan, .int (z4 t_pasts), .ref a_t_leads, .ref a_t_part, .ref a_t_finer, .ref a_t_keys, .ref a_t_stateOfPart, .ref a_t_pastOfState, .int (z4 t_states), .ref a_t_steps, .ref a_t_away])), (a_t_leads, .inl (E 0, 320, .inl (A4 t_leads))), (a_t_part, .inl (E 0, 64, .inl (A4 t_part))), (a_t_keys, .inl (E 0, 64, .inl (A4 t_keys_l4))), (a_t_finer, .inl (E 0, 64, .inl (A4 t_finer_l4)))] → va_S A s.heap H locs → lp_ (fun (q : Int) => F_X1_split_L21 n v4_1 t_keys_l4 o3 q) k_ v21_4 = some o4 → W p l e rm_X1_split s m args below meth c H locs 0 0 Q (F0 m 21 ls []) := by
          intro k_
          induction k_ with
          | zero =>
            intro v21_4 H locs ls hl hP hD hS hq_; exact (lp_zero hq_).elim
          | succ k_ ih4 =>
            intro v21_4 H locs ls hl hP hD hS hq_
            obtain ⟨t_4, hb4, hq4⟩ := lp_some hq_
            replace hb4 : F_X1_split_L21 n v4_1 t_keys_l4 o3 v21_4 = some t_4 := hb4
            unfold F_X1_split_L21 at hb4
            refine lv_iload hx hb dX1_split_21 (lv_at hl 4 rfl) ?_
            refine lv_iload_n hx hb dX1_split_23 rfl (lv_at hl 1 rfl) ?_
            obtain ⟨h5, hb4⟩ := ck_some hb4
            refine m_icmp_ge X h5 dX1_split_24 (tgt := 44) (by decide) (fun (hc_ : ¬ (v21_4 < v4_1)) => ?_) (fun (hc_ : v21_4 < v4_1) => ?_)
            · rw [if_neg hc_] at hb4
              obtain rfl := Option.some.inj hb4
              exact E4_0 _ (Option.some.inj hq4).symm _ _ _ (lv_sub hl [0, 1, 2, 3, 4] rfl) hP hD hS
            · rw [if_pos hc_] at hb4
              refine lv_aload_n hx hb dX1_split_27 rfl (lv_at hl 0 rfl) ?_
              refine m_get X hK hP cl_X1 iT_X1 5 (by decide) fl_X1_28 0 rfl rfl dX1_split_28 ?_
              refine lv_iload hx hb dX1_split_31 (lv_at hl 4 rfl) ?_
              obtain ⟨h6, hb4⟩ := ck_some hb4
              refine m_iald X hK hP 3 rfl (by decide) h6 dX1_split_33 ?_
              refine lv_iload_n hx hb dX1_split_34 rfl (lv_at hl 3 rfl) ?_
              obtain ⟨h7, hb4⟩ := ck_some hb4
              refine m_icmp_eq X h7 dX1_split_35 (tgt := 44) (by decide) (fun (hc_ : t_keys_l4 (v21_4).toNat = o3) => ?_) (fun (hc_ : ¬ (t_keys_l4 (v21_4).toNat = o3)) => ?_)
              · rw [if_pos hc_] at hb4
                obtain rfl := Option.some.inj hb4
                exact E4_0 _ (Option.some.inj hq4).symm _ _ _ (lv_sub hl [0, 1, 2, 3, 4] rfl) hP hD hS
              · rw [if_neg hc_] at hb4
                refine m_iinc X 4 [(4, .int (z4 (v21_4 + 1))), (0, .ref a_t), (1, .int (z4 v4_1)), (2, .int (z4 v4_2)), (3, .int (z4 o3))] dX1_split_38 hl rfl (by decide) rfl (fun ls hl => ?_)
                refine lv_goto (tgt := 21) hx hb dX1_split_41 (by decide) ?_
                obtain rfl := Option.some.inj hb4
                exact ih4 _ _ _ _ (lv_sub hl [1, 2, 3, 4, 0] rfl) hP hD hS hq4
        exact L4 n _ _ _ _ (lv_sub hl [2, 3, 4, 1, 0] rfl) hP hD hS hj4
  exact L1 n _ _ _ _ _ _ _ (lv_sub hl [2, 1, 0] rfl) hP hD hS hj1
def F_X1_stateOf (n : Nat)  (t_states : Int) (t_part : Nat → Int) (t_stateOfPart : Nat → Int) (t_pastOfState : Nat → Int) (x1 : Int) : Option (Int × Int × (Nat → Int) × (Nat → Int)) :=
  (F_X11_isPast n x1).bind fun o1 =>
  Option.bind (α := Int) (
    ck (r4 o1) <|
    if o1 = 0 then
      some 0
    else
      ck (ix_ x1 64) <|
      some (t_part (x1).toNat)) fun o2 =>
  (F_X11_isPast n o2).bind fun o5 =>
  ck (r4 o5) <|
  if o5 = 0 then
    some (0, t_states, t_stateOfPart, t_pastOfState)
  else
    ck (ix_ o2 64) <|
    Option.bind (α := Int × (Nat → Int) × (Nat → Int)) (
      ck (r4 (t_stateOfPart (o2).toNat)) <|
      if t_stateOfPart (o2).toNat < 0 then
        ck (r4 t_states) <|
        if t_states < 64 then
          ck (ix_ o2 64) <|
          ck (ix_ t_states 64) <|
          some (t_states + 1, up_ t_stateOfPart (o2).toNat t_states, up_ t_pastOfState (t_states).toNat x1)
        else
          some (t_states, t_stateOfPart, t_pastOfState)
      else
        some (t_states, t_stateOfPart, t_pastOfState)) fun o8 =>
    ck (ix_ o2 64) <|
    some (o8.2.1 (o2).toNat, o8.1, o8.2.1, o8.2.2)
def rm_X1_stateOf : Room := { frames := 1, cells := 0, slots := 0, locals := 20 }
set_option maxHeartbeats 4000000 in
set_option maxRecDepth 100000 in
theorem k_X1_stateOf {l : Launch} {D : va_G} {E : Nat → ClassId} (n : Nat) (a_t a_t_plan a_t_leads a_t_part a_t_finer a_t_keys a_t_stateOfPart a_t_pastOfState a_t_steps a_t_away : Nat) (t_pasts : Int) (t_states : Int) (t_part : Nat → Int) (t_stateOfPart : Nat → Int) (t_pastOfState : Nat → Int) (x1 : Int) (res : Int × Int × (Nat → Int) × (Nat → Int)) (hf : F_X1_stateOf n t_states t_part t_stateOfPart t_pastOfState x1 = some res) : MW l yX1_stateOf (.code yX1_stateOf cX1_stateOf 3 (some .int)) rm_X1_stateOf D E [.ref a_t, .int (z4 x1)] [(a_t, .inr (1, [.ref a_t_plan, .int (z4 t_pasts), .ref a_t_leads, .ref a_t_part, .ref a_t_finer, .ref a_t_keys, .ref a_t_stateOfPart, .ref a_t_pastOfState, .int (z4 t_states), .ref a_t_steps, .ref a_t_away])), (a_t_part, .inl (E 0, 64, .inl (A4 t_part))), (a_t_stateOfPart, .inl (E 0, 64, .inl (A4 t_stateOfPart))), (a_t_pastOfState, .inl (E 0, 64, .inl (A4 t_pastOfState)))] (some (.int (z4 res.1))) [(a_t, .inr (1, [.ref a_t_plan, .int (z4 t_pasts), .ref a_t_leads, .ref a_t_part, .ref a_t_finer, .ref a_t_keys, .ref a_t_stateOfPart, .ref a_t_pastOfState, .int (z4 res.2.1), .ref a_t_steps, .ref a_t_away])), (a_t_part, .inl (E 0, 64, .inl (A4 t_part))), (a_t_stateOfPart, .inl (E 0, 64, .inl (A4 res.2.2.1))), (a_t_pastOfState, .inl (E 0, 64, .inl (A4 res.2.2.2)))] := by
  refine MWi (by decide) (Nat.le_of_ble_eq_true rfl) ?_
  intro p e s m args below meth c A Q X hK hP hD hA ret ls hl
  have hS : va_S A s.heap s.heap [] := va_S.rf
  have hx := X.1
  have hb := X.2.1
  have hl : lv_has ls 3 [(0, .ref a_t), (1, .int (z4 x1))] := hl
  unfold F_X1_stateOf at hf
  refine lv_iload_n hx hb dX1_stateOf_0 rfl (lv_at hl 1 rfl) ?_
  obtain ⟨o1, ho, hf⟩ := bd_some hf
  refine m_cSRN X hK (k_X11_isPast n x1 o1 ho) (hP.sub (ws' := []) [] rfl) (NK.X1_54 hK.2.2.2) ls_X1_54 co_X11_isPast dy_X11_isPast rfl rfl ⟨Nat.le_of_ble_eq_true rfl, Nat.le_of_ble_eq_true rfl⟩ hl.1 rfl (Nat.le_of_ble_eq_true rfl) dX1_stateOf_1 (Nat.zero_le _) (Nat.zero_le _) ?_
  obtain ⟨o2, hj2, hr2⟩ := bd_some hf
  have J2 : ∀ (o_ : Int), o2 = o_ → ∀ (H : Heap) (locs : List Loc) (ls : Array Slot), lv_has ls 3 [(0, .ref a_t), (1, .int (z4 x1))] → va_P D vwCl [(a_t, .inr (1, [.ref a_t_plan, .int (z4 t_pasts), .ref a_t_leads, .ref a_t_part, .ref a_t_finer, .ref a_t_keys, .ref a_t_stateOfPart, .ref a_t_pastOfState, .int (z4 t_states), .ref a_t_steps, .ref a_t_away])), (a_t_part, .inl (E 0, 64, .inl (A4 t_part))), (a_t_stateOfPart, .inl (E 0, 64, .inl (A4 t_stateOfPart))), (a_t_pastOfState, .inl (E 0, 64, .inl (A4 t_pastOfState)))] H → va_D A [(a_t, .inr (1, [.ref a_t_plan, .int (z4 t_pasts), .ref a_t_leads, .ref a_t_part, .ref a_t_finer, .ref a_t_keys, .ref a_t_stateOfPart, .ref a_t_pastOfState, .int (z4 t_states), .ref a_t_steps, .ref a_t_away])), (a_t_part, .inl (E 0, 64, .inl (A4 t_part))), (a_t_stateOfPart, .inl (E 0, 64, .inl (A4 t_stateOfPart))), (a_t_pastOfState, .inl (E 0, 64, .inl (A4 t_pastOfState)))] → va_S A s.heap H locs → W p l e rm_X1_stateOf s m args below meth c H locs 0 0 Q (F0 m 17 ls [.int (z4 o_)]) := by
    intro o_ ho_ H locs ls hl hP hD hS
    subst ho_
    refine lv_istore_n (lv' := [(2, .int (z4 o2)), (0, .ref a_t), (1, .int (z4 x1))]) hx hb dX1_stateOf_17 rfl hl (by decide) rfl (fun ls hl => ?_)
    refine lv_iload_n hx hb dX1_stateOf_18 rfl (lv_at hl 0 rfl) ?_
    obtain ⟨o5, ho, hr2⟩ := bd_some hr2
    refine m_cSRN X hK (k_X11_isPast n o2 o5 ho) (hP.sub (ws' := []) [] rfl) (NK.X1_54 hK.2.2.2) ls_X1_54 co_X11_isPast dy_X11_isPast rfl rfl ⟨Nat.le_of_ble_eq_true rfl, Nat.le_of_ble_eq_true rfl⟩ hl.1 rfl (Nat.le_of_ble_eq_true rfl) dX1_stateOf_19 (Nat.zero_le _) (Nat.zero_le _) ?_
    obtain ⟨h6, hr2⟩ := ck_some hr2
    refine m_if_ne X h6 dX1_stateOf_22 (tgt := 27) (by decide) (fun (hc_ : ¬ (o5 = 0)) => ?_) (fun (hc_ : o5 = 0) => ?_)
    · rw [if_neg hc_] at hr2
      refine lv_aload_n hx hb dX1_stateOf_27 rfl (lv_at hl 1 rfl) ?_
      refine m_get X hK hP cl_X1 iT_X1 6 (by decide) fl_X1_31 0 rfl rfl dX1_stateOf_28 ?_
      refine lv_iload_n hx hb dX1_stateOf_31 rfl (lv_at hl 0 rfl) ?_
      obtain ⟨h7, hr2⟩ := ck_some hr2
      refine m_iald X hK hP 2 rfl (by decide) h7 dX1_stateOf_32 ?_
      obtain ⟨o8, hj8, hr8⟩ := bd_some hr2
      have J8 : ∀ (o_ : Int × (Nat → Int) × (Nat → Int)), o8 = o_ → ∀ (H : Heap) (locs : List Loc) (ls : Array Slot), lv_has ls 3 [(0, .ref a_t), (2, .int (z4 o2))] → va_P D vwCl [(a_t, .inr (1, [.ref a_t_plan, .int (z4 t_pasts), .ref a_t_leads, .ref a_t_part, .ref a_t_finer, .ref a_t_keys, .ref a_t_stateOfPart, .ref a_t_pastOfState, .int (z4 o_.1), .ref a_t_steps, .ref a_t_away])), (a_t_part, .inl (E 0, 64, .inl (A4 t_part))), (a_t_stateOfPart, .inl (E 0, 64, .inl (A4 o_.2.1))), (a_t_pastOfState, .inl (E 0, 64, .inl (A4 o_.2.2)))] H → va_D A [(a_t, .inr (1, [.ref a_t_plan, .int (z4 t_pasts), .ref a_t_leads, .ref a_t_part, .ref a_t_finer, .ref a_t_keys, .ref a_t_stateOfPart, .ref a_t_pastOfState, .int (z4 o_.1), .ref a_t_steps, .ref a_t_away])), (a_t_part, .inl (E 0, 64, .inl (A4 t_part))), (a_t_stateOfPart, .inl (E 0, 64, .inl (A4 o_.2.1))), (a_t_pastOfState, .inl (E 0, 64, .inl (A4 o_.2.2)))] → va_S A s.heap H locs → W p l e rm_X1_stateOf s m args below meth c H locs 0 0 Q (F0 m 75 ls []) := by
        intro o_ ho_ H locs ls hl hP hD hS
        subst ho_
        refine lv_aload_n hx hb dX1_stateOf_75 rfl (lv_at hl 0 rfl) ?_
        refine m_get X hK hP cl_X1 iT_X1 6 (by decide) fl_X1_31 0 rfl rfl dX1_stateOf_76 ?_
        refine lv_iload_n hx hb dX1_stateOf_79 rfl (lv_at hl 1 rfl) ?_
        obtain ⟨h13, hr8⟩ := ck_some hr8
        refine m_iald X hK hP 2 rfl (by decide) h13 dX1_stateOf_80 ?_
        obtain rfl := Option.some.inj hr8
        exact ret _ _ _ _ hP hD hS dX1_stateOf_81
      obtain ⟨h9, hj8⟩ := ck_some hj8
      refine m_if_ge X h9 dX1_stateOf_33 (tgt := 75) (by decide) (fun (hc_ : ¬ (t_stateOfPart (o2).toNat < 0)) => ?_) (fun (hc_ : t_stateOfPart (o2).toNat < 0) => ?_)
      · rw [if_neg hc_] at hj8
        exact J8 _ (Option.some.inj hj8).symm _ _ _ (lv_sub hl [1, 0] rfl) hP hD hS
      · rw [if_pos hc_] at hj8
        refine lv_aload_n hx hb dX1_stateOf_36 rfl (lv_at hl 1 rfl) ?_
        refine m_get X hK hP cl_X1 iT_X1 8 (by decide) fl_X1_106 0 rfl rfl dX1_stateOf_37 ?_
        refine m_bipush X dX1_stateOf_40 (by decide) ?_
        obtain ⟨h10, hj8⟩ := ck_some hj8
        refine m_icmp_ge X ⟨h10, ⟨by decide, by decide⟩⟩ dX1_stateOf_42 (tgt := 75) (by decide) (fun (hc_ : ¬ (t_states < 64)) => ?_) (fun (hc_ : t_states < 64) => ?_)
        · rw [if_neg hc_] at hj8
          exact J8 _ (Option.some.inj hj8).symm _ _ _ (lv_sub hl [1, 0] rfl) hP hD hS
        · rw [if_pos hc_] at hj8
          refine lv_aload_n hx hb dX1_stateOf_45 rfl (lv_at hl 1 rfl) ?_
          refine m_get X hK hP cl_X1 iT_X1 6 (by decide) fl_X1_31 0 rfl rfl dX1_stateOf_46 ?_
          refine lv_iload_n hx hb dX1_stateOf_49 rfl (lv_at hl 0 rfl) ?_
          refine lv_aload_n hx hb dX1_stateOf_50 rfl (lv_at hl 1 rfl) ?_
          refine m_get X hK hP cl_X1 iT_X1 8 (by decide) fl_X1_106 0 rfl rfl dX1_stateOf_51 ?_
          obtain ⟨h11, hj8⟩ := ck_some hj8
          refine m_iast X hK hP hD hS 2 rfl (by decide) h11 [(a_t, .inr (1, [.ref a_t_plan, .int (z4 t_pasts), .ref a_t_leads, .ref a_t_part, .ref a_t_finer, .ref a_t_keys, .ref a_t_stateOfPart, .ref a_t_pastOfState, .int (z4 t_states), .ref a_t_steps, .ref a_t_away])), (a_t_part, .inl (E 0, 64, .inl (A4 t_part))), (a_t_stateOfPart, .inl (E 0, 64, .inl (A4 (up_ t_stateOfPart (o2).toNat t_states)))), (a_t_pastOfState, .inl (E 0, 64, .inl (A4 t_pastOfState)))] rfl dX1_stateOf_54 (fun H locs hP hD hS => ?_)
          refine lv_aload_n hx hb dX1_stateOf_55 rfl (lv_at hl 1 rfl) ?_
          refine m_get X hK hP cl_X1 iT_X1 7 (by decide) fl_X1_34 0 rfl rfl dX1_stateOf_56 ?_
          refine lv_aload_n hx hb dX1_stateOf_59 rfl (lv_at hl 1 rfl) ?_
          refine m_get X hK hP cl_X1 iT_X1 8 (by decide) fl_X1_106 0 rfl rfl dX1_stateOf_60 ?_
          refine lv_iload_n hx hb dX1_stateOf_63 rfl (lv_at hl 2 rfl) ?_
          obtain ⟨h12, hj8⟩ := ck_some hj8
          refine m_iast X hK hP hD hS 3 rfl (by decide) h12 [(a_t, .inr (1, [.ref a_t_plan, .int (z4 t_pasts), .ref a_t_leads, .ref a_t_part, .ref a_t_finer, .ref a_t_keys, .ref a_t_stateOfPart, .ref a_t_pastOfState, .int (z4 t_states), .ref a_t_steps, .ref a_t_away])), (a_t_part, .inl (E 0, 64, .inl (A4 t_part))), (a_t_stateOfPart, .inl (E 0, 64, .inl (A4 (up_ t_stateOfPart (o2).toNat t_states)))), (a_t_pastOfState, .inl (E 0, 64, .inl (A4 (up_ t_pastOfState (t_states).toNat x1))))] rfl dX1_stateOf_64 (fun H locs hP hD hS => ?_)
          refine lv_aload_n hx hb dX1_stateOf_65 rfl (lv_at hl 1 rfl) ?_
          refine lv_dup hx hb dX1_stateOf_66 rfl ?_
          refine m_get X hK hP cl_X1 iT_X1 8 (by decide) fl_X1_106 0 rfl rfl dX1_stateOf_67 ?_
          refine m_iconst X dX1_stateOf_70 ?_
          refine m_iadd X dX1_stateOf_71 ?_
          refine m_put X hK hP hD hS cl_X1 iT_X1 tyX1 tyX1_ok nmX1 8 (by decide) fl_X1_106 rfl 0 rfl rfl rfl (Nat.le_of_ble_eq_true rfl) [(a_t, .inr (1, [.ref a_t_plan, .int (z4 t_pasts), .ref a_t_leads, .ref a_t_part, .ref a_t_finer, .ref a_t_keys, .ref a_t_stateOfPart, .ref a_t_pastOfState, .int (z4 (t_states + 1)), .ref a_t_steps, .ref a_t_away])), (a_t_part, .inl (E 0, 64, .inl (A4 t_part))), (a_t_stateOfPart, .inl (E 0, 64, .inl (A4 (up_ t_stateOfPart (o2).toNat t_states)))), (a_t_pastOfState, .inl (E 0, 64, .inl (A4 (up_ t_pastOfState (t_states).toNat x1))))] rfl dX1_stateOf_72 (fun H locs hP hD hS => ?_)
          exact J8 _ (Option.some.inj hj8).symm _ _ _ (lv_sub hl [1, 0] rfl) hP hD hS
    · rw [if_pos hc_] at hr2
      refine m_iconst X dX1_stateOf_25 ?_
      obtain rfl := Option.some.inj hr2
      exact ret _ _ _ _ hP hD hS dX1_stateOf_26
  obtain ⟨h3, hj2⟩ := ck_some hj2
  refine m_if_eq X h3 dX1_stateOf_4 (tgt := 16) (by decide) (fun (hc_ : o1 = 0) => ?_) (fun (hc_ : ¬ (o1 = 0)) => ?_)
  · rw [if_pos hc_] at hj2
    refine m_iconst X dX1_stateOf_16 ?_
    exact J2 _ (Option.some.inj hj2).symm _ _ _ (lv_sub hl [0, 1] rfl) hP hD hS
  · rw [if_neg hc_] at hj2
    refine lv_aload_n hx hb dX1_stateOf_7 rfl (lv_at hl 0 rfl) ?_
    refine m_get X hK hP cl_X1 iT_X1 3 (by decide) fl_X1_22 0 rfl rfl dX1_stateOf_8 ?_
    refine lv_iload_n hx hb dX1_stateOf_11 rfl (lv_at hl 1 rfl) ?_
    obtain ⟨h4, hj2⟩ := ck_some hj2
    refine m_iald X hK hP 1 rfl (by decide) h4 dX1_stateOf_12 ?_
    refine lv_goto (tgt := 17) hx hb dX1_stateOf_13 (by decide) ?_
    exact J2 _ (Option.some.inj hj2).symm _ _ _ (lv_sub hl [0, 1] rfl) hP hD hS
def F_X1_numberStates_L44 (n : Nat) (t_pastOfState_l21 : Nat → Int) (v21_1 : Int) (t_leads : Nat → Int) (t_part : Nat → Int) (v44_3 : Int) (t_states_l44 : Int) (t_stateOfPart_l44 : Nat → Int) (t_pastOfState_l44 : Nat → Int) (t_steps_l44 : Nat → Int) : Option ((Int × Int × (Nat → Int) × (Nat → Int) × (Nat → Int)) ⊕ (Int × (Nat → Int) × (Nat → Int) × (Nat → Int))) :=
  ck (r4 v44_3) <|
  if v44_3 < 5 then
    (F_X11_isPast n (t_pastOfState_l21 (v21_1).toNat)).bind fun o9 =>
    ck (r4 o9) <|
    if o9 = 0 then
      some (.inr (t_states_l44, t_stateOfPart_l44, t_pastOfState_l44, t_steps_l44))
    else
      ck (ix_ (((t_pastOfState_l21 (v21_1).toNat) * 5) + v44_3) 320) <|
      (F_X11_isPast n (t_leads (((t_pastOfState_l21 (v21_1).toNat) * 5) + v44_3).toNat)).bind fun o12 =>
      Option.bind (α := Int × Int × (Nat → Int) × (Nat → Int)) (
        ck (r4 o12) <|
        if o12 = 0 then
          some ((-5), t_states_l44, t_stateOfPart_l44, t_pastOfState_l44)
        else
          (F_X1_stateOf n t_states_l44 t_part t_stateOfPart_l44 t_pastOfState_l44 (t_leads (((t_pastOfState_l21 (v21_1).toNat) * 5) + v44_3).toNat)).bind fun o15 =>
          some (o15.1, o15.2.1, o15.2.2.1, o15.2.2.2)) fun o13 =>
      ck (ix_ ((v21_1 * 5) + v44_3) 320) <|
      some (.inl (v44_3 + 1, o13.2.1, o13.2.2.1, o13.2.2.2, up_ t_steps_l44 ((v21_1 * 5) + v44_3).toNat o13.1))
  else
    some (.inr (t_states_l44, t_stateOfPart_l44, t_pastOfState_l44, t_steps_l44))
def F_X1_numberStates_L21 (n : Nat) (t_leads : Nat → Int) (t_part : Nat → Int) (v21_1 : Int) (t_states_l21 : Int) (t_stateOfPart_l21 : Nat → Int) (t_pastOfState_l21 : Nat → Int) (t_steps_l21 : Nat → Int) : Option ((Int × Int × (Nat → Int) × (Nat → Int) × (Nat → Int)) ⊕ (Int × (Nat → Int) × (Nat → Int) × (Nat → Int))) :=
  ck (r4 v21_1 ∧ r4 t_states_l21) <|
  if v21_1 < t_states_l21 then
    ck (r4 v21_1) <|
    if v21_1 < 64 then
      ck (ix_ v21_1 64) <|
      (lp_ (fun (q : Int × Int × (Nat → Int) × (Nat → Int) × (Nat → Int)) => F_X1_numberStates_L44 n t_pastOfState_l21 v21_1 t_leads t_part q.1 q.2.1 q.2.2.1 q.2.2.2.1 q.2.2.2.2) n (0, t_states_l21, t_stateOfPart_l21, t_pastOfState_l21, t_steps_l21)).bind fun o7 =>
      some (.inl (v21_1 + 1, o7.1, o7.2.1, o7.2.2.1, o7.2.2.2))
    else
      some (.inr (t_states_l21, t_stateOfPart_l21, t_pastOfState_l21, t_steps_l21))
  else
    some (.inr (t_states_l21, t_stateOfPart_l21, t_pastOfState_l21, t_steps_l21))
def F_X1_numberStates (n : Nat)  (t_stateOfPart : Nat → Int) (t_part : Nat → Int) (t_pastOfState : Nat → Int) (t_leads : Nat → Int) (t_steps : Nat → Int)  : Option (Int × (Nat → Int) × (Nat → Int) × (Nat → Int)) :=
  (F_J7_fill_53178 n 64 t_stateOfPart (-1)).bind fun o1 =>
  (F_X1_stateOf n 0 t_part o1 t_pastOfState 0).bind fun o2 =>
  (lp_ (fun (q : Int × Int × (Nat → Int) × (Nat → Int) × (Nat → Int)) => F_X1_numberStates_L21 n t_leads t_part q.1 q.2.1 q.2.2.1 q.2.2.2.1 q.2.2.2.2) n (0, o2.2.1, o2.2.2.1, o2.2.2.2, t_steps)).bind fun o3 =>
  some (o3.1, o3.2.1, o3.2.2.1, o3.2.2.2)
def rm_X1_numberStates : Room := { frames := 2, cells := 0, slots := 0, locals := 42 }
set_option maxHeartbeats 4000000 in
set_option maxRecDepth 100000 in
theorem k_X1_numberStates {l : Launch} {D : va_G} {E : Nat → ClassId} (n : Nat) (a_t a_t_plan a_t_leads a_t_part a_t_finer a_t_keys a_t_stateOfPart a_t_pastOfState a_t_steps a_t_away : Nat) (t_pasts : Int) (t_states : Int) (t_stateOfPart : Nat → Int) (t_part : Nat → Int) (t_pastOfState : Nat → Int) (t_leads : Nat → Int) (t_steps : Nat → Int) (res : Int × (Nat → Int) × (Nat → Int) × (Nat → Int)) (hf : F_X1_numberStates n t_stateOfPart t_part t_pastOfState t_leads t_steps = some res) : MW l yX1_numberStates (.code yX1_numberStates cX1_numberStates 5 none) rm_X1_numberStates D E [.ref a_t] [(a_t, .inr (1, [.ref a_t_plan, .int (z4 t_pasts), .ref a_t_leads, .ref a_t_part, .ref a_t_finer, .ref a_t_keys, .ref a_t_stateOfPart, .ref a_t_pastOfState, .int (z4 t_states), .ref a_t_steps, .ref a_t_away])), (a_t_stateOfPart, .inl (E 0, 64, .inl (A4 t_stateOfPart))), (a_t_part, .inl (E 0, 64, .inl (A4 t_part))), (a_t_pastOfState, .inl (E 0, 64, .inl (A4 t_pastOfState))), (a_t_leads, .inl (E 0, 320, .inl (A4 t_leads))), (a_t_steps, .inl (E 0, 320, .inl (A4 t_steps)))] none [(a_t, .inr (1, [.ref a_t_plan, .int (z4 t_pasts), .ref a_t_leads, .ref a_t_part, .ref a_t_finer, .ref a_t_keys, .ref a_t_stateOfPart, .ref a_t_pastOfState, .int (z4 res.1), .ref a_t_steps, .ref a_t_away])), (a_t_stateOfPart, .inl (E 0, 64, .inl (A4 res.2.1))), (a_t_part, .inl (E 0, 64, .inl (A4 t_part))), (a_t_pastOfState, .inl (E 0, 64, .inl (A4 res.2.2.1))), (a_t_leads, .inl (E 0, 320, .inl (A4 t_leads))), (a_t_steps, .inl (E 0, 320, .inl (A4 res.2.2.2)))] := by
  refine MWv (by decide) (Nat.le_of_ble_eq_true rfl) ?_
  intro p e s m args below meth c A Q X hK hP hD hA ret ls hl
  have hS : va_S A s.heap s.heap [] := va_S.rf
  have hx := X.1
  have hb := X.2.1
  have hl : lv_has ls 5 [(0, .ref a_t)] := hl
  unfold F_X1_numberStates at hf
  refine lv_aload_n hx hb dX1_numberStates_0 rfl (lv_at hl 0 rfl) ?_
  refine m_get X hK hP cl_X1 iT_X1 6 (by decide) fl_X1_31 0 rfl rfl dX1_numberStates_1 ?_
  refine m_iconst X dX1_numberStates_4 ?_
  obtain ⟨o1, ho, hf⟩ := bd_some hf
  refine m_cSW X hK hP hD hS hA (wr := [(a_t, .inr (1, [.ref a_t_plan, .int (z4 t_pasts), .ref a_t_leads, .ref a_t_part, .ref a_t_finer, .ref a_t_keys, .ref a_t_stateOfPart, .ref a_t_pastOfState, .int (z4 t_states), .ref a_t_steps, .ref a_t_away])), (a_t_part, .inl (E 0, 64, .inl (A4 t_part))), (a_t_pastOfState, .inl (E 0, 64, .inl (A4 t_pastOfState))), (a_t_leads, .inl (E 0, 320, .inl (A4 t_leads))), (a_t_steps, .inl (E 0, 320, .inl (A4 t_steps)))]) (k_J7_fill_53178 n a_t_stateOfPart 64 (by decide) t_stateOfPart (-1) o1 ho) [1] [0, 2, 3, 4, 5] [0, 5, 1, 2, 3, 4] [(a_t, .inr (1, [.ref a_t_plan, .int (z4 t_pasts), .ref a_t_leads, .ref a_t_part, .ref a_t_finer, .ref a_t_keys, .ref a_t_stateOfPart, .ref a_t_pastOfState, .int (z4 t_states), .ref a_t_steps, .ref a_t_away])), (a_t_stateOfPart, .inl (E 0, 64, .inl (A4 o1))), (a_t_part, .inl (E 0, 64, .inl (A4 t_part))), (a_t_pastOfState, .inl (E 0, 64, .inl (A4 t_pastOfState))), (a_t_leads, .inl (E 0, 320, .inl (A4 t_leads))), (a_t_steps, .inl (E 0, 320, .inl (A4 t_steps)))] rfl rfl rfl rfl (by decide) rfl rfl lk_X1_78 co_J7_fill_53178 dy_J7_fill_53178 rfl rfl ⟨Nat.le_of_ble_eq_true rfl, Nat.le_of_ble_eq_true rfl⟩ hl.1 rfl (Nat.le_of_ble_eq_true rfl) dX1_numberStates_5 (Nat.zero_le _) (Nat.zero_le _) (fun H locs hP hD hS => ?_)
  refine lv_aload_n hx hb dX1_numberStates_8 rfl (lv_at hl 0 rfl) ?_
  refine m_iconst X dX1_numberStates_9 ?_
  refine m_put X hK hP hD hS cl_X1 iT_X1 tyX1 tyX1_ok nmX1 8 (by decide) fl_X1_106 rfl 0 rfl rfl rfl (Nat.le_of_ble_eq_true rfl) [(a_t, .inr (1, [.ref a_t_plan, .int (z4 t_pasts), .ref a_t_leads, .ref a_t_part, .ref a_t_finer, .ref a_t_keys, .ref a_t_stateOfPart, .ref a_t_pastOfState, .int (z4 0), .ref a_t_steps, .ref a_t_away])), (a_t_stateOfPart, .inl (E 0, 64, .inl (A4 o1))), (a_t_part, .inl (E 0, 64, .inl (A4 t_part))), (a_t_pastOfState, .inl (E 0, 64, .inl (A4 t_pastOfState))), (a_t_leads, .inl (E 0, 320, .inl (A4 t_leads))), (a_t_steps, .inl (E 0, 320, .inl (A4 t_steps)))] rfl dX1_numberStates_10 (fun H locs hP hD hS => ?_)
  refine lv_aload_n hx hb dX1_numberStates_13 rfl (lv_at hl 0 rfl) ?_
  refine m_iconst X dX1_numberStates_14 ?_
  obtain ⟨o2, ho, hf⟩ := bd_some hf
  refine m_cVW X hK hP hD hS hA (wr := [(a_t_leads, .inl (E 0, 320, .inl (A4 t_leads))), (a_t_steps, .inl (E 0, 320, .inl (A4 t_steps)))]) (k_X1_stateOf n a_t a_t_plan a_t_leads a_t_part a_t_finer a_t_keys a_t_stateOfPart a_t_pastOfState a_t_steps a_t_away t_pasts 0 t_part o1 t_pastOfState 0 o2 ho) [0, 2, 1, 3] [4, 5] [2, 4, 3, 5, 0, 1] [(a_t, .inr (1, [.ref a_t_plan, .int (z4 t_pasts), .ref a_t_leads, .ref a_t_part, .ref a_t_finer, .ref a_t_keys, .ref a_t_stateOfPart, .ref a_t_pastOfState, .int (z4 o2.2.1), .ref a_t_steps, .ref a_t_away])), (a_t_stateOfPart, .inl (E 0, 64, .inl (A4 o2.2.2.1))), (a_t_part, .inl (E 0, 64, .inl (A4 t_part))), (a_t_pastOfState, .inl (E 0, 64, .inl (A4 o2.2.2.2))), (a_t_leads, .inl (E 0, 320, .inl (A4 t_leads))), (a_t_steps, .inl (E 0, 320, .inl (A4 t_steps)))] rfl rfl rfl rfl (by decide) rfl rfl rfl cl_X1 lk_X1_109 co_X1_stateOf dy_X1_stateOf rfl rfl ⟨Nat.le_of_ble_eq_true rfl, Nat.le_of_ble_eq_true rfl⟩ hl.1 rfl (Nat.le_of_ble_eq_true rfl) dX1_numberStates_15 (Nat.zero_le _) (Nat.zero_le _) (fun H locs hP hD hS => ?_)
  refine lv_pop hx hb dX1_numberStates_18 rfl ?_
  refine m_iconst X dX1_numberStates_19 ?_
  refine lv_istore_n (lv' := [(1, .int (z4 0)), (0, .ref a_t)]) hx hb dX1_numberStates_20 rfl hl (by decide) rfl (fun ls hl => ?_)
  obtain ⟨o3, hj3, hr3⟩ := bd_some hf
  have E3_0 : ∀ (o_ : Int × (Nat → Int) × (Nat → Int) × (Nat → Int)), o3 = o_ → ∀ (H : Heap) (locs : List Loc) (ls : Array Slot), lv_has ls 5 [] → va_P D vwCl [(a_t, .inr (1, [.ref a_t_plan, .int (z4 t_pasts), .ref a_t_leads, .ref a_t_part, .ref a_t_finer, .ref a_t_keys, .ref a_t_stateOfPart, .ref a_t_pastOfState, .int (z4 o_.1), .ref a_t_steps, .ref a_t_away])), (a_t_stateOfPart, .inl (E 0, 64, .inl (A4 o_.2.1))), (a_t_part, .inl (E 0, 64, .inl (A4 t_part))), (a_t_pastOfState, .inl (E 0, 64, .inl (A4 o_.2.2.1))), (a_t_leads, .inl (E 0, 320, .inl (A4 t_leads))), (a_t_steps, .inl (E 0, 320, .inl (A4 o_.2.2.2)))] H → va_D A [(a_t, .inr (1, [.ref a_t_plan, .int (z4 t_pasts), .ref a_t_leads, .ref a_t_part, .ref a_t_finer, .ref a_t_keys, .ref a_t_stateOfPart, .ref a_t_pastOfState, .int (z4 o_.1), .ref a_t_steps, .ref a_t_away])), (a_t_stateOfPart, .inl (E 0, 64, .inl (A4 o_.2.1))), (a_t_part, .inl (E 0, 64, .inl (A4 t_part))), (a_t_pastOfState, .inl (E 0, 64, .inl (A4 o_.2.2.1))), (a_t_leads, .inl (E 0, 320, .inl (A4 t_leads))), (a_t_steps, .inl (E 0, 320, .inl (A4 o_.2.2.2)))] → va_S A s.heap H locs → W p l e rm_X1_numberStates s m args below meth c H locs 0 0 Q (F0 m 109 ls []) := by
    intro o_ ho_ H locs ls hl hP hD hS
    subst ho_
    obtain rfl := Option.some.inj hr3
    exact ret _ _ _ _ hP hD hS dX1_numberStates_109
  have L3 : ∀ (k_ : Nat) (v21_1 : Int) (t_states_l21 : Int) (t_stateOfPart_l21 : Nat → Int) (t_pastOfState_l21 : Nat → Int) (t_steps_l21 : Nat → Int), ∀ (H : Heap) (locs : List Loc) (ls : Array Slot), lv_has ls 5 [(0, .ref a_t), (1, .int (z4 v21_1))] → va_P D vwCl [(a_t, .inr (1, [.ref a_t_plan, .int (z4 t_pasts), .ref a_t_leads, .ref a_t_part, .ref a_t_finer, .ref a_t_keys, .ref a_t_stateOfPart, .ref a_t_pastOfState, .int (z4 t_states_l21), .ref a_t_steps, .ref a_t_away])), (a_t_stateOfPart, .inl (E 0, 64, .inl (A4 t_stateOfPart_l21))), (a_t_part, .inl (E 0, 64, .inl (A4 t_part))), (a_t_pastOfState, .inl (E 0, 64, .inl (A4 t_pastOfState_l21))), (a_t_leads, .inl (E 0, 320, .inl (A4 t_leads))), (a_t_steps, .inl (E 0, 320, .inl (A4 t_steps_l21)))] H → va_D A [(a_t, .inr (1, [.ref a_t_plan, .int (z4 t_pasts), .ref a_t_leads, .ref a_t_part, .ref a_t_finer, .ref a_t_keys, .ref a_t_stateOfPart, .ref a_t_pastOfState, .int (z4 t_states_l21), .ref a_t_steps, .ref a_t_away])), (a_t_stateOfPart, .inl (E 0, 64, .inl (A4 t_stateOfPart_l21))), (a_t_part, .inl (E 0, 64, .inl (A4 t_part))), (a_t_pastOfState, .inl (E 0, 64, .inl (A4 t_pastOfState_l21))), (a_t_leads, .inl (E 0, 320, .inl (A4 t_leads))), (a_t_steps, .inl (E 0, 320, .inl (A4 t_steps_l21)))] → va_S A s.heap H locs → lp_ (fun (q : Int × Int × (Nat → Int) × (Nat → Int) × (Nat → Int)) => F_X1_numberStates_L21 n t_leads t_part q.1 q.2.1 q.2.2.1 q.2.2.2.1 q.2.2.2.2) k_ (v21_1, t_states_l21, t_stateOfPart_l21, t_pastOfState_l21, t_steps_l21) = some o3 → W p l e rm_X1_numberStates s m args below meth c H locs 0 0 Q (F0 m 21 ls []) := by
    intro k_
    induction k_ with
    | zero =>
      intro v21_1 t_states_l21 t_stateOfPart_l21 t_pastOfState_l21 t_steps_l21 H locs ls hl hP hD hS hq_; exact (lp_zero hq_).elim
    | succ k_ ih3 =>
      intro v21_1 t_states_l21 t_stateOfPart_l21 t_pastOfState_l21 t_steps_l21 H locs ls hl hP hD hS hq_
      obtain ⟨t_3, hb3, hq3⟩ := lp_some hq_
      replace hb3 : F_X1_numberStates_L21 n t_leads t_part v21_1 t_states_l21 t_stateOfPart_l21 t_pastOfState_l21 t_steps_l21 = some t_3 := hb3
      unfold F_X1_numberStates_L21 at hb3
      refine lv_iload_n hx hb dX1_numberStates_21 rfl (lv_at hl 1 rfl) ?_
      refine lv_aload_n hx hb dX1_numberStates_22 rfl (lv_at hl 0 rfl) ?_
      refine m_get X hK hP cl_X1 iT_X1 8 (by decide) fl_X1_106 0 rfl rfl dX1_numberStates_23 ?_
      obtain ⟨h4, hb3⟩ := ck_some hb3
      refine m_icmp_ge X h4 dX1_numberStates_26 (tgt := 109) (by decide) (fun (hc_ : ¬ (v21_1 < t_states_l21)) => ?_) (fun (hc_ : v21_1 < t_states_l21) => ?_)
      · rw [if_neg hc_] at hb3
        obtain rfl := Option.some.inj hb3
        exact E3_0 _ (Option.some.inj hq3).symm _ _ _ (lv_sub hl [] rfl) hP hD hS
      · rw [if_pos hc_] at hb3
        refine lv_iload_n hx hb dX1_numberStates_29 rfl (lv_at hl 1 rfl) ?_
        refine m_bipush X dX1_numberStates_30 (by decide) ?_
        obtain ⟨h5, hb3⟩ := ck_some hb3
        refine m_icmp_ge X ⟨h5, ⟨by decide, by decide⟩⟩ dX1_numberStates_32 (tgt := 109) (by decide) (fun (hc_ : ¬ (v21_1 < 64)) => ?_) (fun (hc_ : v21_1 < 64) => ?_)
        · rw [if_neg hc_] at hb3
          obtain rfl := Option.some.inj hb3
          exact E3_0 _ (Option.some.inj hq3).symm _ _ _ (lv_sub hl [] rfl) hP hD hS
        · rw [if_pos hc_] at hb3
          refine lv_aload_n hx hb dX1_numberStates_35 rfl (lv_at hl 0 rfl) ?_
          refine m_get X hK hP cl_X1 iT_X1 7 (by decide) fl_X1_34 0 rfl rfl dX1_numberStates_36 ?_
          refine lv_iload_n hx hb dX1_numberStates_39 rfl (lv_at hl 1 rfl) ?_
          obtain ⟨h6, hb3⟩ := ck_some hb3
          refine m_iald X hK hP 3 rfl (by decide) h6 dX1_numberStates_40 ?_
          refine lv_istore_n (lv' := [(2, .int (z4 (t_pastOfState_l21 (v21_1).toNat))), (0, .ref a_t), (1, .int (z4 v21_1))]) hx hb dX1_numberStates_41 rfl hl (by decide) rfl (fun ls hl => ?_)
          refine m_iconst X dX1_numberStates_42 ?_
          refine lv_istore_n (lv' := [(3, .int (z4 0)), (2, .int (z4 (t_pastOfState_l21 (v21_1).toNat))), (0, .ref a_t), (1, .int (z4 v21_1))]) hx hb dX1_numberStates_43 rfl hl (by decide) rfl (fun ls hl => ?_)
          obtain ⟨o7, hj7, hr7⟩ := bd_some hb3
          have E7_0 : ∀ (o_ : Int × (Nat → Int) × (Nat → Int) × (Nat → Int)), o7 = o_ → ∀ (H : Heap) (locs : List Loc) (ls : Array Slot), lv_has ls 5 [(0, .ref a_t), (1, .int (z4 v21_1))] → va_P D vwCl [(a_t, .inr (1, [.ref a_t_plan, .int (z4 t_pasts), .ref a_t_leads, .ref a_t_part, .ref a_t_finer, .ref a_t_keys, .ref a_t_stateOfPart, .ref a_t_pastOfState, .int (z4 o_.1), .ref a_t_steps, .ref a_t_away])), (a_t_stateOfPart, .inl (E 0, 64, .inl (A4 o_.2.1))), (a_t_part, .inl (E 0, 64, .inl (A4 t_part))), (a_t_pastOfState, .inl (E 0, 64, .inl (A4 o_.2.2.1))), (a_t_leads, .inl (E 0, 320, .inl (A4 t_leads))), (a_t_steps, .inl (E 0, 320, .inl (A4 o_.2.2.2)))] H → va_D A [(a_t, .inr (1, [.ref a_t_plan, .int (z4 t_pasts), .ref a_t_leads, .ref a_t_part, .ref a_t_finer, .ref a_t_keys, .ref a_t_stateOfPart, .ref a_t_pastOfState, .int (z4 o_.1), .ref a_t_steps, .ref a_t_away])), (a_t_stateOfPart, .inl (E 0, 64, .inl (A4 o_.2.1))), (a_t_part, .inl (E 0, 64, .inl (A4 t_part))), (a_t_pastOfState, .inl (E 0, 64, .inl (A4 o_.2.2.1))), (a_t_leads, .inl (E 0, 320, .inl (A4 t_leads))), (a_t_steps, .inl (E 0, 320, .inl (A4 o_.2.2.2)))] → va_S A s.heap H locs → W p l e rm_X1_numberStates s m args below meth c H locs 0 0 Q (F0 m 103 ls []) := by
            intro o_ ho_ H locs ls hl hP hD hS
            subst ho_
            refine m_iinc X 1 [(1, .int (z4 (v21_1 + 1))), (0, .ref a_t)] dX1_numberStates_103 hl rfl (by decide) rfl (fun ls hl => ?_)
            refine lv_goto (tgt := 21) hx hb dX1_numberStates_106 (by decide) ?_
            obtain rfl := Option.some.inj hr7
            exact ih3 _ _ _ _ _ _ _ _ (lv_sub hl [1, 0] rfl) hP hD hS hq3
          have L7 : ∀ (k_ : Nat) (v44_3 : Int) (t_states_l44 : Int) (t_stateOfPart_l44 : Nat → Int) (t_pastOfState_l44 : Nat → Int) (t_steps_l44 : Nat → Int), ∀ (H : Heap) (locs : List Loc) (ls : Array Slot), lv_has ls 5 [(0, .ref a_t), (1, .int (z4 v21_1)), (2, .int (z4 (t_pastOfState_l21 (v21_1).toNat))), (3, .int (z4 v44_3))] → va_P D vwCl [(a_t, .inr (1, [.ref a_t_plan, .int (z4 t_pasts), .ref a_t_leads, .ref a_t_part, .ref a_t_finer, .ref a_t_keys, .ref a_t_stateOfPart, .ref a_t_pastOfState, .int (z4 t_states_l44), .ref a_t_steps, .ref a_t_away])), (a_t_stateOfPart, .inl (E 0, 64, .inl (A4 t_stateOfPart_l44))), (a_t_part, .inl (E 0, 64, .inl (A4 t_part))), (a_t_pastOfState, .inl (E 0, 64, .inl (A4 t_pastOfState_l44))), (a_t_leads, .inl (E 0, 320, .inl (A4 t_leads))), (a_t_steps, .inl (E 0, 320, .inl (A4 t_steps_l44)))] H → va_D A [(a_t, .inr (1, [.ref a_t_plan, .int (z4 t_pasts), .ref a_t_leads, .ref a_t_part, .ref a_t_finer, .ref a_t_keys, .ref a_t_stateOfPart, .ref a_t_pastOfState, .int (z4 t_states_l44), .ref a_t_steps, .ref a_t_away])), (a_t_stateOfPart, .inl (E 0, 64, .inl (A4 t_stateOfPart_l44))), (a_t_part, .inl (E 0, 64, .inl (A4 t_part))), (a_t_pastOfState, .inl (E 0, 64, .inl (A4 t_pastOfState_l44))), (a_t_leads, .inl (E 0, 320, .inl (A4 t_leads))), (a_t_steps, .inl (E 0, 320, .inl (A4 t_steps_l44)))] → va_S A s.heap H locs → lp_ (fun (q : Int × Int × (Nat → Int) × (Nat → Int) × (Nat → Int)) => F_X1_numberStates_L44 n t_pastOfState_l21 v21_1 t_leads t_part q.1 q.2.1 q.2.2.1 q.2.2.2.1 q.2.2.2.2) k_ (v44_3, t_states_l44, t_stateOfPart_l44, t_pastOfState_l44, t_steps_l44) = some o7 → W p l e rm_X1_numberStates s m args below meth c H locs 0 0 Q (F0 m 44 ls []) := by
            intro k_
            induction k_ with
            | zero =>
              intro v44_3 t_states_l44 t_stateOfPart_l44 t_pastOfState_l44 t_steps_l44 H locs ls hl hP hD hS hq_; exact (lp_zero hq_).elim
            | succ k_ ih7 =>
              intro v44_3 t_states_l44 t_stateOfPart_l44 t_pastOfState_l44 t_steps_l44 H locs ls hl hP hD hS hq_
              obtain ⟨t_7, hb7, hq7⟩ := lp_some hq_
              replace hb7 : F_X1_numberStates_L44 n t_pastOfState_l21 v21_1 t_leads t_part v44_3 t_states_l44 t_stateOfPart_l44 t_pastOfState_l44 t_steps_l44 = some t_7 := hb7
              unfold F_X1_numberStates_L44 at hb7
              refine lv_iload_n hx hb dX1_numberStates_44 rfl (lv_at hl 3 rfl) ?_
              refine m_iconst X dX1_numberStates_45 ?_
              obtain ⟨h8, hb7⟩ := ck_some hb7
              refine m_icmp_ge X ⟨h8, ⟨by decide, by decide⟩⟩ dX1_numberStates_46 (tgt := 103) (by decide) (fun (hc_ : ¬ (v44_3 < 5)) => ?_) (fun (hc_ : v44_3 < 5) => ?_)
              · rw [if_neg hc_] at hb7
                obtain rfl := Option.some.inj hb7
                exact E7_0 _ (Option.some.inj hq7).symm _ _ _ (lv_sub hl [0, 1] rfl) hP hD hS
              · rw [if_pos hc_] at hb7
                refine lv_iload_n hx hb dX1_numberStates_49 rfl (lv_at hl 2 rfl) ?_
                obtain ⟨o9, ho, hb7⟩ := bd_some hb7
                refine m_cSRN X hK (k_X11_isPast n (t_pastOfState_l21 (v21_1).toNat) o9 ho) (hP.sub (ws' := []) [] rfl) (NK.X1_54 hK.2.2.2) ls_X1_54 co_X11_isPast dy_X11_isPast rfl rfl ⟨Nat.le_of_ble_eq_true rfl, Nat.le_of_ble_eq_true rfl⟩ hl.1 rfl (Nat.le_of_ble_eq_true rfl) dX1_numberStates_50 (Nat.zero_le _) (Nat.zero_le _) ?_
                obtain ⟨h10, hb7⟩ := ck_some hb7
                refine m_if_eq X h10 dX1_numberStates_53 (tgt := 103) (by decide) (fun (hc_ : o9 = 0) => ?_) (fun (hc_ : ¬ (o9 = 0)) => ?_)
                · rw [if_pos hc_] at hb7
                  obtain rfl := Option.some.inj hb7
                  exact E7_0 _ (Option.some.inj hq7).symm _ _ _ (lv_sub hl [0, 1] rfl) hP hD hS
                · rw [if_neg hc_] at hb7
                  refine lv_aload_n hx hb dX1_numberStates_56 rfl (lv_at hl 0 rfl) ?_
                  refine m_get X hK hP cl_X1 iT_X1 2 (by decide) fl_X1_18 0 rfl rfl dX1_numberStates_57 ?_
                  refine lv_iload_n hx hb dX1_numberStates_60 rfl (lv_at hl 2 rfl) ?_
                  refine m_iconst X dX1_numberStates_61 ?_
                  refine m_imul X dX1_numberStates_62 ?_
                  refine lv_iload_n hx hb dX1_numberStates_63 rfl (lv_at hl 3 rfl) ?_
                  refine m_iadd X dX1_numberStates_64 ?_
                  obtain ⟨h11, hb7⟩ := ck_some hb7
                  refine m_iald X hK hP 4 rfl (by decide) h11 dX1_numberStates_65 ?_
                  refine lv_istore (lv' := [(4, .int (z4 (t_leads (((t_pastOfState_l21 (v21_1).toNat) * 5) + v44_3).toNat))), (0, .ref a_t), (1, .int (z4 v21_1)), (2, .int (z4 (t_pastOfState_l21 (v21_1).toNat))), (3, .int (z4 v44_3))]) hx hb dX1_numberStates_66 hl (by decide) rfl (fun ls hl => ?_)
                  refine lv_aload_n hx hb dX1_numberStates_68 rfl (lv_at hl 1 rfl) ?_
                  refine m_get X hK hP cl_X1 iT_X1 9 (by decide) fl_X1_37 0 rfl rfl dX1_numberStates_69 ?_
                  refine lv_iload_n hx hb dX1_numberStates_72 rfl (lv_at hl 2 rfl) ?_
                  refine m_iconst X dX1_numberStates_73 ?_
                  refine m_imul X dX1_numberStates_74 ?_
                  refine lv_iload_n hx hb dX1_numberStates_75 rfl (lv_at hl 4 rfl) ?_
                  refine m_iadd X dX1_numberStates_76 ?_
                  refine lv_iload hx hb dX1_numberStates_77 (lv_at hl 0 rfl) ?_
                  obtain ⟨o12, ho, hb7⟩ := bd_some hb7
                  refine m_cSRN X hK (k_X11_isPast n (t_leads (((t_pastOfState_l21 (v21_1).toNat) * 5) + v44_3).toNat) o12 ho) (hP.sub (ws' := []) [] rfl) (NK.X1_54 hK.2.2.2) ls_X1_54 co_X11_isPast dy_X11_isPast rfl rfl ⟨Nat.le_of_ble_eq_true rfl, Nat.le_of_ble_eq_true rfl⟩ hl.1 rfl (Nat.le_of_ble_eq_true rfl) dX1_numberStates_79 (Nat.zero_le _) (Nat.zero_le _) ?_
                  obtain ⟨o13, hj13, hr13⟩ := bd_some hb7
                  have J13 : ∀ (o_ : Int × Int × (Nat → Int) × (Nat → Int)), o13 = o_ → ∀ (H : Heap) (locs : List Loc) (ls : Array Slot), lv_has ls 5 [(0, .ref a_t), (1, .int (z4 v21_1)), (2, .int (z4 (t_pastOfState_l21 (v21_1).toNat))), (3, .int (z4 v44_3))] → va_P D vwCl [(a_t, .inr (1, [.ref a_t_plan, .int (z4 t_pasts), .ref a_t_leads, .ref a_t_part, .ref a_t_finer, .ref a_t_keys, .ref a_t_stateOfPart, .ref a_t_pastOfState, .int (z4 o_.2.1), .ref a_t_steps, .ref a_t_away])), (a_t_stateOfPart, .inl (E 0, 64, .inl (A4 o_.2.2.1))), (a_t_part, .inl (E 0, 64, .inl (A4 t_part))), (a_t_pastOfState, .inl (E 0, 64, .inl (A4 o_.2.2.2))), (a_t_leads, .inl (E 0, 320, .inl (A4 t_leads))), (a_t_steps, .inl (E 0, 320, .inl (A4 t_steps_l44)))] H → va_D A [(a_t, .inr (1, [.ref a_t_plan, .int (z4 t_pasts), .ref a_t_leads, .ref a_t_part, .ref a_t_finer, .ref a_t_keys, .ref a_t_stateOfPart, .ref a_t_pastOfState, .int (z4 o_.2.1), .ref a_t_steps, .ref a_t_away])), (a_t_stateOfPart, .inl (E 0, 64, .inl (A4 o_.2.2.1))), (a_t_part, .inl (E 0, 64, .inl (A4 t_part))), (a_t_pastOfState, .inl (E 0, 64, .inl (A4 o_.2.2.2))), (a_t_leads, .inl (E 0, 320, .inl (A4 t_leads))), (a_t_steps, .inl (E 0, 320, .inl (A4 t_steps_l44)))] → va_S A s.heap H locs → W p l e rm_X1_numberStates s m args below meth c H locs 0 0 Q (F0 m 96 ls [.int (z4 o_.1), .int (z4 ((v21_1 * 5) + v44_3)), .ref a_t_steps]) := by
                    intro o_ ho_ H locs ls hl hP hD hS
                    subst ho_
                    obtain ⟨h16, hr13⟩ := ck_some hr13
                    refine m_iast X hK hP hD hS 5 rfl (by decide) h16 [(a_t, .inr (1, [.ref a_t_plan, .int (z4 t_pasts), .ref a_t_leads, .ref a_t_part, .ref a_t_finer, .ref a_t_keys, .ref a_t_stateOfPart, .ref a_t_pastOfState, .int (z4 o13.2.1), .ref a_t_steps, .ref a_t_away])), (a_t_stateOfPart, .inl (E 0, 64, .inl (A4 o13.2.2.1))), (a_t_part, .inl (E 0, 64, .inl (A4 t_part))), (a_t_pastOfState, .inl (E 0, 64, .inl (A4 o13.2.2.2))), (a_t_leads, .inl (E 0, 320, .inl (A4 t_leads))), (a_t_steps, .inl (E 0, 320, .inl (A4 (up_ t_steps_l44 ((v21_1 * 5) + v44_3).toNat o13.1))))] rfl dX1_numberStates_96 (fun H locs hP hD hS => ?_)
                    refine m_iinc X 3 [(3, .int (z4 (v44_3 + 1))), (0, .ref a_t), (1, .int (z4 v21_1)), (2, .int (z4 (t_pastOfState_l21 (v21_1).toNat)))] dX1_numberStates_97 hl rfl (by decide) rfl (fun ls hl => ?_)
                    refine lv_goto (tgt := 44) hx hb dX1_numberStates_100 (by decide) ?_
                    obtain rfl := Option.some.inj hr13
                    exact ih7 _ _ _ _ _ _ _ _ (lv_sub hl [1, 2, 3, 0] rfl) hP hD hS hq7
                  obtain ⟨h14, hj13⟩ := ck_some hj13
                  refine m_if_eq X h14 dX1_numberStates_82 (tgt := 94) (by decide) (fun (hc_ : o12 = 0) => ?_) (fun (hc_ : ¬ (o12 = 0)) => ?_)
                  · rw [if_pos hc_] at hj13
                    refine m_bipush X dX1_numberStates_94 (by decide) ?_
                    exact J13 _ (Option.some.inj hj13).symm _ _ _ (lv_sub hl [1, 2, 3, 4] rfl) hP hD hS
                  · rw [if_neg hc_] at hj13
                    refine lv_aload_n hx hb dX1_numberStates_85 rfl (lv_at hl 1 rfl) ?_
                    refine lv_iload hx hb dX1_numberStates_86 (lv_at hl 0 rfl) ?_
                    obtain ⟨o15, ho, hj13⟩ := bd_some hj13
                    refine m_cVW X hK hP hD hS hA (wr := [(a_t_leads, .inl (E 0, 320, .inl (A4 t_leads))), (a_t_steps, .inl (E 0, 320, .inl (A4 t_steps_l44)))]) (k_X1_stateOf n a_t a_t_plan a_t_leads a_t_part a_t_finer a_t_keys a_t_stateOfPart a_t_pastOfState a_t_steps a_t_away t_pasts t_states_l44 t_part t_stateOfPart_l44 t_pastOfState_l44 (t_leads (((t_pastOfState_l21 (v21_1).toNat) * 5) + v44_3).toNat) o15 ho) [0, 2, 1, 3] [4, 5] [2, 4, 3, 5, 0, 1] [(a_t, .inr (1, [.ref a_t_plan, .int (z4 t_pasts), .ref a_t_leads, .ref a_t_part, .ref a_t_finer, .ref a_t_keys, .ref a_t_stateOfPart, .ref a_t_pastOfState, .int (z4 o15.2.1), .ref a_t_steps, .ref a_t_away])), (a_t_stateOfPart, .inl (E 0, 64, .inl (A4 o15.2.2.1))), (a_t_part, .inl (E 0, 64, .inl (A4 t_part))), (a_t_pastOfState, .inl (E 0, 64, .inl (A4 o15.2.2.2))), (a_t_leads, .inl (E 0, 320, .inl (A4 t_leads))), (a_t_steps, .inl (E 0, 320, .inl (A4 t_steps_l44)))] rfl rfl rfl rfl (by decide) rfl rfl rfl cl_X1 lk_X1_109 co_X1_stateOf dy_X1_stateOf rfl rfl ⟨Nat.le_of_ble_eq_true rfl, Nat.le_of_ble_eq_true rfl⟩ hl.1 rfl (Nat.le_of_ble_eq_true rfl) dX1_numberStates_88 (Nat.zero_le _) (Nat.zero_le _) (fun H locs hP hD hS => ?_)
                    refine lv_goto (tgt := 96) hx hb dX1_numberStates_91 (by decide) ?_
                    exact J13 _ (Option.some.inj hj13).symm _ _ _ (lv_sub hl [1, 2, 3, 4] rfl) hP hD hS
          exact L7 n _ _ _ _ _ _ _ _ (lv_sub hl [2, 3, 1, 0] rfl) hP hD hS hj7
  exact L3 n _ _ _ _ _ _ _ _ (lv_sub hl [1, 0] rfl) hP hD hS hj3
def F_X1_awayFrom (n : Nat)  (t_away : Nat → Int) (x1 : Int) : Option (Int) :=
  (F_X11_isPast n x1).bind fun o1 =>
  Option.bind (α := Int) (
    ck (r4 o1) <|
    if o1 = 0 then
      some (-9)
    else
      ck (ix_ x1 64) <|
      some (t_away (x1).toNat)) fun o2 =>
  some o2
def rm_X1_awayFrom : Room := { frames := 1, cells := 0, slots := 0, locals := 20 }
set_option maxHeartbeats 4000000 in
set_option maxRecDepth 100000 in
theorem k_X1_awayFrom {l : Launch} {D : va_G} {E : Nat → ClassId} (n : Nat) (a_t a_t_plan a_t_leads a_t_part a_t_finer a_t_keys a_t_stateOfPart a_t_pastOfState a_t_steps a_t_away : Nat) (t_pasts : Int) (t_states : Int) (t_away : Nat → Int) (x1 : Int) (res : Int) (hf : F_X1_awayFrom n t_away x1 = some res) : MR l yX1_awayFrom (.code yX1_awayFrom cX1_awayFrom 2 (some .int)) rm_X1_awayFrom D E [.ref a_t, .int (z4 x1)] [(a_t, .inr (1, [.ref a_t_plan, .int (z4 t_pasts), .ref a_t_leads, .ref a_t_part, .ref a_t_finer, .ref a_t_keys, .ref a_t_stateOfPart, .ref a_t_pastOfState, .int (z4 t_states), .ref a_t_steps, .ref a_t_away])), (a_t_away, .inl (E 0, 64, .inl (A4 t_away)))] (some (.int (z4 res))) := by
  refine MRi (by decide) (Nat.le_of_ble_eq_true rfl) ?_
  intro p e s m args below meth c Q X hK hP ret ls hl
  have hx := X.1
  have hb := X.2.1
  have hl : lv_has ls 2 [(0, .ref a_t), (1, .int (z4 x1))] := hl
  unfold F_X1_awayFrom at hf
  refine lv_iload_n hx hb dX1_awayFrom_0 rfl (lv_at hl 1 rfl) ?_
  obtain ⟨o1, ho, hf⟩ := bd_some hf
  refine m_cSRN X hK (k_X11_isPast n x1 o1 ho) (hP.sub (ws' := []) [] rfl) (NK.X1_54 hK.2.2.2) ls_X1_54 co_X11_isPast dy_X11_isPast rfl rfl ⟨Nat.le_of_ble_eq_true rfl, Nat.le_of_ble_eq_true rfl⟩ hl.1 rfl (Nat.le_of_ble_eq_true rfl) dX1_awayFrom_1 (Nat.zero_le _) (Nat.zero_le _) ?_
  obtain ⟨o2, hj2, hr2⟩ := bd_some hf
  have J2 : ∀ (o_ : Int), o2 = o_ → ∀ (ls : Array Slot), lv_has ls 2 [] → W p l e rm_X1_awayFrom s m args below meth c s.heap [] 0 0 Q (F0 m 18 ls [.int (z4 o_)]) := by
    intro o_ ho_ ls hl 
    subst ho_
    obtain rfl := Option.some.inj hr2
    exact ret _ _ dX1_awayFrom_18
  obtain ⟨h3, hj2⟩ := ck_some hj2
  refine m_if_eq X h3 dX1_awayFrom_4 (tgt := 16) (by decide) (fun (hc_ : o1 = 0) => ?_) (fun (hc_ : ¬ (o1 = 0)) => ?_)
  · rw [if_pos hc_] at hj2
    refine m_bipush X dX1_awayFrom_16 (by decide) ?_
    exact J2 _ (Option.some.inj hj2).symm _ (lv_sub hl [] rfl) 
  · rw [if_neg hc_] at hj2
    refine lv_aload_n hx hb dX1_awayFrom_7 rfl (lv_at hl 0 rfl) ?_
    refine m_get X hK hP cl_X1 iT_X1 10 (by decide) fl_X1_40 0 rfl rfl dX1_awayFrom_8 ?_
    refine lv_iload_n hx hb dX1_awayFrom_11 rfl (lv_at hl 1 rfl) ?_
    obtain ⟨h4, hj2⟩ := ck_some hj2
    refine m_iald X hK hP 1 rfl (by decide) h4 dX1_awayFrom_12 ?_
    refine lv_goto (tgt := 18) hx hb dX1_awayFrom_13 (by decide) ?_
    exact J2 _ (Option.some.inj hj2).symm _ (lv_sub hl [] rfl) 
def F_X1_signTo_L2 (n : Nat) (x1 : Int) (t_steps : Nat → Int) (t_away : Nat → Int) (x2 : Int) (v2_3 : Int) : Option ((Int) ⊕ ((Unit) ⊕ (Int))) :=
  ck (r4 v2_3) <|
  if v2_3 < 5 then
    (F_X11_isPast n x1).bind fun o3 =>
    ck (r4 o3) <|
    if o3 = 0 then
      some (.inr (.inl ()))
    else
      ck (ix_ ((x1 * 5) + v2_3) 320) <|
      (F_X11_isPast n (t_steps ((x1 * 5) + v2_3).toNat)).bind fun o6 =>
      Option.bind (α := Int) (
        ck (r4 o6) <|
        if o6 = 0 then
          some 0
        else
          ck (ix_ (t_steps ((x1 * 5) + v2_3).toNat) 64) <|
          some (t_away (t_steps ((x1 * 5) + v2_3).toNat).toNat)) fun o7 =>
      ck (r4 o7 ∧ r4 x2) <|
      if o7 = x2 then
        some (.inr (.inr v2_3))
      else
        some (.inl (v2_3 + 1))
  else
    some (.inr (.inl ()))
def F_X1_signTo (n : Nat)  (t_steps : Nat → Int) (t_away : Nat → Int) (x1 : Int) (x2 : Int) : Option (Int) :=
  (lp_ (fun (q : Int) => F_X1_signTo_L2 n x1 t_steps t_away x2 q) n 0).bind fun o1 => match o1 with
  | .inl o1_0 =>
    some (-9)
  | .inr o1_1 =>
    some o1_1
def rm_X1_signTo : Room := { frames := 1, cells := 0, slots := 0, locals := 20 }
set_option maxHeartbeats 4000000 in
set_option maxRecDepth 100000 in
theorem k_X1_signTo {l : Launch} {D : va_G} {E : Nat → ClassId} (n : Nat) (a_t a_t_plan a_t_leads a_t_part a_t_finer a_t_keys a_t_stateOfPart a_t_pastOfState a_t_steps a_t_away : Nat) (t_pasts : Int) (t_states : Int) (t_steps : Nat → Int) (t_away : Nat → Int) (x1 : Int) (x2 : Int) (res : Int) (hf : F_X1_signTo n t_steps t_away x1 x2 = some res) : MR l yX1_signTo (.code yX1_signTo cX1_signTo 6 (some .int)) rm_X1_signTo D E [.ref a_t, .int (z4 x1), .int (z4 x2)] [(a_t, .inr (1, [.ref a_t_plan, .int (z4 t_pasts), .ref a_t_leads, .ref a_t_part, .ref a_t_finer, .ref a_t_keys, .ref a_t_stateOfPart, .ref a_t_pastOfState, .int (z4 t_states), .ref a_t_steps, .ref a_t_away])), (a_t_steps, .inl (E 0, 320, .inl (A4 t_steps))), (a_t_away, .inl (E 0, 64, .inl (A4 t_away)))] (some (.int (z4 res))) := by
  refine MRi (by decide) (Nat.le_of_ble_eq_true rfl) ?_
  intro p e s m args below meth c Q X hK hP ret ls hl
  have hx := X.1
  have hb := X.2.1
  have hl : lv_has ls 6 [(0, .ref a_t), (1, .int (z4 x1)), (2, .int (z4 x2))] := hl
  unfold F_X1_signTo at hf
  refine m_iconst X dX1_signTo_0 ?_
  refine lv_istore_n (lv' := [(3, .int (z4 0)), (0, .ref a_t), (1, .int (z4 x1)), (2, .int (z4 x2))]) hx hb dX1_signTo_1 rfl hl (by decide) rfl (fun ls hl => ?_)
  obtain ⟨o1, hj1, hr1⟩ := bd_some hf
  have E1_0 : ∀ (o_ : Unit), o1 = (.inl o_) → ∀ (ls : Array Slot), lv_has ls 6 [] → W p l e rm_X1_signTo s m args below meth c s.heap [] 0 0 Q (F0 m 61 ls []) := by
    intro o1_0 ho_ ls hl 
    subst ho_
    refine m_bipush X dX1_signTo_61 (by decide) ?_
    obtain rfl := Option.some.inj hr1
    exact ret _ _ dX1_signTo_63
  have E1_1 : ∀ (o_ : Int), o1 = (.inr o_) → ∀ (ls : Array Slot), lv_has ls 6 [(3, .int (z4 o_))] → W p l e rm_X1_signTo s m args below meth c s.heap [] 0 0 Q (F0 m 53 ls []) := by
    intro o1_1 ho_ ls hl 
    subst ho_
    refine lv_iload_n hx hb dX1_signTo_53 rfl (lv_at hl 0 rfl) ?_
    obtain rfl := Option.some.inj hr1
    exact ret _ _ dX1_signTo_54
  have L1 : ∀ (k_ : Nat) (v2_3 : Int), ∀ (ls : Array Slot), lv_has ls 6 [(0, .ref a_t), (1, .int (z4 x1)), (2, .int (z4 x2)), (3, .int (z4 v2_3))] → lp_ (fun (q : Int) => F_X1_signTo_L2 n x1 t_steps t_away x2 q) k_ v2_3 = some o1 → W p l e rm_X1_signTo s m args below meth c s.heap [] 0 0 Q (F0 m 2 ls []) := by
    intro k_
    induction k_ with
    | zero =>
      intro v2_3 ls hl  hq_; exact (lp_zero hq_).elim
    | succ k_ ih1 =>
      intro v2_3 ls hl  hq_
      obtain ⟨t_1, hb1, hq1⟩ := lp_some hq_
      replace hb1 : F_X1_signTo_L2 n x1 t_steps t_away x2 v2_3 = some t_1 := hb1
      unfold F_X1_signTo_L2 at hb1
      refine lv_iload_n hx hb dX1_signTo_2 rfl (lv_at hl 3 rfl) ?_
      refine m_iconst X dX1_signTo_3 ?_
      obtain ⟨h2, hb1⟩ := ck_some hb1
      refine m_icmp_ge X ⟨h2, ⟨by decide, by decide⟩⟩ dX1_signTo_4 (tgt := 61) (by decide) (fun (hc_ : ¬ (v2_3 < 5)) => ?_) (fun (hc_ : v2_3 < 5) => ?_)
      · rw [if_neg hc_] at hb1
        obtain rfl := Option.some.inj hb1
        exact E1_0 _ (Option.some.inj hq1).symm _ (lv_sub hl [] rfl) 
      · rw [if_pos hc_] at hb1
        refine lv_iload_n hx hb dX1_signTo_7 rfl (lv_at hl 1 rfl) ?_
        obtain ⟨o3, ho, hb1⟩ := bd_some hb1
        refine m_cSRN X hK (k_X11_isPast n x1 o3 ho) (hP.sub (ws' := []) [] rfl) (NK.X1_54 hK.2.2.2) ls_X1_54 co_X11_isPast dy_X11_isPast rfl rfl ⟨Nat.le_of_ble_eq_true rfl, Nat.le_of_ble_eq_true rfl⟩ hl.1 rfl (Nat.le_of_ble_eq_true rfl) dX1_signTo_8 (Nat.zero_le _) (Nat.zero_le _) ?_
        obtain ⟨h4, hb1⟩ := ck_some hb1
        refine m_if_eq X h4 dX1_signTo_11 (tgt := 61) (by decide) (fun (hc_ : o3 = 0) => ?_) (fun (hc_ : ¬ (o3 = 0)) => ?_)
        · rw [if_pos hc_] at hb1
          obtain rfl := Option.some.inj hb1
          exact E1_0 _ (Option.some.inj hq1).symm _ (lv_sub hl [] rfl) 
        · rw [if_neg hc_] at hb1
          refine lv_aload_n hx hb dX1_signTo_14 rfl (lv_at hl 0 rfl) ?_
          refine m_get X hK hP cl_X1 iT_X1 9 (by decide) fl_X1_37 0 rfl rfl dX1_signTo_15 ?_
          refine lv_iload_n hx hb dX1_signTo_18 rfl (lv_at hl 1 rfl) ?_
          refine m_iconst X dX1_signTo_19 ?_
          refine m_imul X dX1_signTo_20 ?_
          refine lv_iload_n hx hb dX1_signTo_21 rfl (lv_at hl 3 rfl) ?_
          refine m_iadd X dX1_signTo_22 ?_
          obtain ⟨h5, hb1⟩ := ck_some hb1
          refine m_iald X hK hP 1 rfl (by decide) h5 dX1_signTo_23 ?_
          refine lv_istore (lv' := [(4, .int (z4 (t_steps ((x1 * 5) + v2_3).toNat))), (0, .ref a_t), (1, .int (z4 x1)), (2, .int (z4 x2)), (3, .int (z4 v2_3))]) hx hb dX1_signTo_24 hl (by decide) rfl (fun ls hl => ?_)
          refine lv_iload hx hb dX1_signTo_26 (lv_at hl 0 rfl) ?_
          obtain ⟨o6, ho, hb1⟩ := bd_some hb1
          refine m_cSRN X hK (k_X11_isPast n (t_steps ((x1 * 5) + v2_3).toNat) o6 ho) (hP.sub (ws' := []) [] rfl) (NK.X1_54 hK.2.2.2) ls_X1_54 co_X11_isPast dy_X11_isPast rfl rfl ⟨Nat.le_of_ble_eq_true rfl, Nat.le_of_ble_eq_true rfl⟩ hl.1 rfl (Nat.le_of_ble_eq_true rfl) dX1_signTo_28 (Nat.zero_le _) (Nat.zero_le _) ?_
          obtain ⟨o7, hj7, hr7⟩ := bd_some hb1
          have J7 : ∀ (o_ : Int), o7 = o_ → ∀ (ls : Array Slot), lv_has ls 6 [(0, .ref a_t), (1, .int (z4 x1)), (2, .int (z4 x2)), (3, .int (z4 v2_3))] → W p l e rm_X1_signTo s m args below meth c s.heap [] 0 0 Q (F0 m 45 ls [.int (z4 o_)]) := by
            intro o_ ho_ ls hl 
            subst ho_
            refine lv_istore (lv' := [(5, .int (z4 o7)), (0, .ref a_t), (1, .int (z4 x1)), (2, .int (z4 x2)), (3, .int (z4 v2_3))]) hx hb dX1_signTo_45 hl (by decide) rfl (fun ls hl => ?_)
            refine lv_iload hx hb dX1_signTo_47 (lv_at hl 0 rfl) ?_
            refine lv_iload_n hx hb dX1_signTo_49 rfl (lv_at hl 3 rfl) ?_
            obtain ⟨h10, hr7⟩ := ck_some hr7
            refine m_icmp_ne X h10 dX1_signTo_50 (tgt := 55) (by decide) (fun (hc_ : ¬ (o7 = x2)) => ?_) (fun (hc_ : o7 = x2) => ?_)
            · rw [if_neg hc_] at hr7
              refine m_iinc X 4 [(3, .int (z4 (v2_3 + 1))), (5, .int (z4 o7)), (0, .ref a_t), (1, .int (z4 x1)), (2, .int (z4 x2))] dX1_signTo_55 hl rfl (by decide) rfl (fun ls hl => ?_)
              refine lv_goto (tgt := 2) hx hb dX1_signTo_58 (by decide) ?_
              obtain rfl := Option.some.inj hr7
              exact ih1 _ _ (lv_sub hl [2, 3, 4, 0] rfl)  hq1
            · rw [if_pos hc_] at hr7
              obtain rfl := Option.some.inj hr7
              exact E1_1 _ (Option.some.inj hq1).symm _ (lv_sub hl [4] rfl) 
          obtain ⟨h8, hj7⟩ := ck_some hj7
          refine m_if_eq X h8 dX1_signTo_31 (tgt := 44) (by decide) (fun (hc_ : o6 = 0) => ?_) (fun (hc_ : ¬ (o6 = 0)) => ?_)
          · rw [if_pos hc_] at hj7
            refine m_iconst X dX1_signTo_44 ?_
            exact J7 _ (Option.some.inj hj7).symm _ (lv_sub hl [1, 2, 3, 4] rfl) 
          · rw [if_neg hc_] at hj7
            refine lv_aload_n hx hb dX1_signTo_34 rfl (lv_at hl 1 rfl) ?_
            refine m_get X hK hP cl_X1 iT_X1 10 (by decide) fl_X1_40 0 rfl rfl dX1_signTo_35 ?_
            refine lv_iload hx hb dX1_signTo_38 (lv_at hl 0 rfl) ?_
            obtain ⟨h9, hj7⟩ := ck_some hj7
            refine m_iald X hK hP 2 rfl (by decide) h9 dX1_signTo_40 ?_
            refine lv_goto (tgt := 45) hx hb dX1_signTo_41 (by decide) ?_
            exact J7 _ (Option.some.inj hj7).symm _ (lv_sub hl [1, 2, 3, 4] rfl) 
  exact L1 n _ _ (lv_sub hl [1, 2, 3, 0] rfl)  hj1
def F_X1_measure_L27 (n : Nat) (t_states : Int) (t_steps : Nat → Int) (v13_2 : Int) (v27_1 : Int) (v27_3 : Int) (t_away_l27 : Nat → Int) : Option ((Int × Int × (Nat → Int)) ⊕ (Int × (Nat → Int))) :=
  ck (r4 v27_3 ∧ r4 t_states) <|
  if v27_3 < t_states then
    ck (r4 v27_3) <|
    if v27_3 < 64 then
      ck (ix_ v27_3 64) <|
      Option.bind (α := Int × (Nat → Int)) (
        ck (r4 (t_away_l27 (v27_3).toNat)) <|
        if t_away_l27 (v27_3).toNat = (-9) then
          (F_X1_signTo n t_steps t_away_l27 v27_3 (v13_2 - 1)).bind fun o11 =>
          ck (r4 o11) <|
          if o11 = (-9) then
            some (v27_1, t_away_l27)
          else
            ck (ix_ v27_3 64) <|
            some (1, up_ t_away_l27 (v27_3).toNat v13_2)
        else
          some (v27_1, t_away_l27)) fun o9 =>
      some (.inl (o9.1, v27_3 + 1, o9.2))
    else
      some (.inr (v27_1, t_away_l27))
  else
    some (.inr (v27_1, t_away_l27))
def F_X1_measure_L13 (n : Nat) (t_states : Int) (t_steps : Nat → Int) (v13_1 : Int) (v13_2 : Int) (t_away_l13 : Nat → Int) : Option ((Int × Int × (Nat → Int)) ⊕ ((Nat → Int))) :=
  ck (r4 v13_2) <|
  if 64 < v13_2 then
    some (.inr t_away_l13)
  else
    ck (r4 v13_1) <|
    if v13_1 = 0 then
      some (.inr t_away_l13)
    else
      (lp_ (fun (q : Int × Int × (Nat → Int)) => F_X1_measure_L27 n t_states t_steps v13_2 q.1 q.2.1 q.2.2) n (0, 0, t_away_l13)).bind fun o5 =>
      some (.inl (o5.1, v13_2 + 1, o5.2))
def F_X1_measure (n : Nat)  (t_states : Int) (t_away : Nat → Int) (t_steps : Nat → Int)  : Option ((Nat → Int)) :=
  (F_J7_fill_53178 n 64 t_away (-9)).bind fun o1 =>
  (lp_ (fun (q : Int × Int × (Nat → Int)) => F_X1_measure_L13 n t_states t_steps q.1 q.2.1 q.2.2) n (1, 1, o1)).bind fun o2 =>
  some o2
def rm_X1_measure : Room := { frames := 2, cells := 0, slots := 0, locals := 45 }
set_option maxHeartbeats 4000000 in
set_option maxRecDepth 100000 in
theorem k_X1_measure {l : Launch} {D : va_G} {E : Nat → ClassId} (n : Nat) (a_t a_t_plan a_t_leads a_t_part a_t_finer a_t_keys a_t_stateOfPart a_t_pastOfState a_t_steps a_t_away : Nat) (t_pasts : Int) (t_states : Int) (t_away : Nat → Int) (t_steps : Nat → Int) (res : (Nat → Int)) (hf : F_X1_measure n t_states t_away t_steps = some res) : MW l yX1_measure (.code yX1_measure cX1_measure 4 none) rm_X1_measure D E [.ref a_t] [(a_t, .inr (1, [.ref a_t_plan, .int (z4 t_pasts), .ref a_t_leads, .ref a_t_part, .ref a_t_finer, .ref a_t_keys, .ref a_t_stateOfPart, .ref a_t_pastOfState, .int (z4 t_states), .ref a_t_steps, .ref a_t_away])), (a_t_away, .inl (E 0, 64, .inl (A4 t_away))), (a_t_steps, .inl (E 0, 320, .inl (A4 t_steps)))] none [(a_t, .inr (1, [.ref a_t_plan, .int (z4 t_pasts), .ref a_t_leads, .ref a_t_part, .ref a_t_finer, .ref a_t_keys, .ref a_t_stateOfPart, .ref a_t_pastOfState, .int (z4 t_states), .ref a_t_steps, .ref a_t_away])), (a_t_away, .inl (E 0, 64, .inl (A4 res))), (a_t_steps, .inl (E 0, 320, .inl (A4 t_steps)))] := by
  refine MWv (by decide) (Nat.le_of_ble_eq_true rfl) ?_
  intro p e s m args below meth c A Q X hK hP hD hA ret ls hl
  have hS : va_S A s.heap s.heap [] := va_S.rf
  have hx := X.1
  have hb := X.2.1
  have hl : lv_has ls 4 [(0, .ref a_t)] := hl
  unfold F_X1_measure at hf
  refine lv_aload_n hx hb dX1_measure_0 rfl (lv_at hl 0 rfl) ?_
  refine m_get X hK hP cl_X1 iT_X1 10 (by decide) fl_X1_40 0 rfl rfl dX1_measure_1 ?_
  refine m_bipush X dX1_measure_4 (by decide) ?_
  obtain ⟨o1, ho, hf⟩ := bd_some hf
  refine m_cSW X hK hP hD hS hA (wr := [(a_t, .inr (1, [.ref a_t_plan, .int (z4 t_pasts), .ref a_t_leads, .ref a_t_part, .ref a_t_finer, .ref a_t_keys, .ref a_t_stateOfPart, .ref a_t_pastOfState, .int (z4 t_states), .ref a_t_steps, .ref a_t_away])), (a_t_steps, .inl (E 0, 320, .inl (A4 t_steps)))]) (k_J7_fill_53178 n a_t_away 64 (by decide) t_away (-9) o1 ho) [1] [0, 2] [0, 2, 1] [(a_t, .inr (1, [.ref a_t_plan, .int (z4 t_pasts), .ref a_t_leads, .ref a_t_part, .ref a_t_finer, .ref a_t_keys, .ref a_t_stateOfPart, .ref a_t_pastOfState, .int (z4 t_states), .ref a_t_steps, .ref a_t_away])), (a_t_away, .inl (E 0, 64, .inl (A4 o1))), (a_t_steps, .inl (E 0, 320, .inl (A4 t_steps)))] rfl rfl rfl rfl (by decide) rfl rfl lk_X1_78 co_J7_fill_53178 dy_J7_fill_53178 rfl rfl ⟨Nat.le_of_ble_eq_true rfl, Nat.le_of_ble_eq_true rfl⟩ hl.1 rfl (Nat.le_of_ble_eq_true rfl) dX1_measure_6 (Nat.zero_le _) (Nat.zero_le _) (fun H locs hP hD hS => ?_)
  refine m_iconst X dX1_measure_9 ?_
  refine lv_istore_n (lv' := [(1, .int (z4 1)), (0, .ref a_t)]) hx hb dX1_measure_10 rfl hl (by decide) rfl (fun ls hl => ?_)
  refine m_iconst X dX1_measure_11 ?_
  refine lv_istore_n (lv' := [(2, .int (z4 1)), (1, .int (z4 1)), (0, .ref a_t)]) hx hb dX1_measure_12 rfl hl (by decide) rfl (fun ls hl => ?_)
  obtain ⟨o2, hj2, hr2⟩ := bd_some hf
  have E2_0 : ∀ (o_ : (Nat → Int)), o2 = o_ → ∀ (H : Heap) (locs : List Loc) (ls : Array Slot), lv_has ls 4 [] → va_P D vwCl [(a_t, .inr (1, [.ref a_t_plan, .int (z4 t_pasts), .ref a_t_leads, .ref a_t_part, .ref a_t_finer, .ref a_t_keys, .ref a_t_stateOfPart, .ref a_t_pastOfState, .int (z4 t_states), .ref a_t_steps, .ref a_t_away])), (a_t_away, .inl (E 0, 64, .inl (A4 o_))), (a_t_steps, .inl (E 0, 320, .inl (A4 t_steps)))] H → va_D A [(a_t, .inr (1, [.ref a_t_plan, .int (z4 t_pasts), .ref a_t_leads, .ref a_t_part, .ref a_t_finer, .ref a_t_keys, .ref a_t_stateOfPart, .ref a_t_pastOfState, .int (z4 t_states), .ref a_t_steps, .ref a_t_away])), (a_t_away, .inl (E 0, 64, .inl (A4 o_))), (a_t_steps, .inl (E 0, 320, .inl (A4 t_steps)))] → va_S A s.heap H locs → W p l e rm_X1_measure s m args below meth c H locs 0 0 Q (F0 m 86 ls []) := by
    intro o_ ho_ H locs ls hl hP hD hS
    subst ho_
    obtain rfl := Option.some.inj hr2
    exact ret _ _ _ _ hP hD hS dX1_measure_86
  have L2 : ∀ (k_ : Nat) (v13_1 : Int) (v13_2 : Int) (t_away_l13 : Nat → Int), ∀ (H : Heap) (locs : List Loc) (ls : Array Slot), lv_has ls 4 [(0, .ref a_t), (1, .int (z4 v13_1)), (2, .int (z4 v13_2))] → va_P D vwCl [(a_t, .inr (1, [.ref a_t_plan, .int (z4 t_pasts), .ref a_t_leads, .ref a_t_part, .ref a_t_finer, .ref a_t_keys, .ref a_t_stateOfPart, .ref a_t_pastOfState, .int (z4 t_states), .ref a_t_steps, .ref a_t_away])), (a_t_away, .inl (E 0, 64, .inl (A4 t_away_l13))), (a_t_steps, .inl (E 0, 320, .inl (A4 t_steps)))] H → va_D A [(a_t, .inr (1, [.ref a_t_plan, .int (z4 t_pasts), .ref a_t_leads, .ref a_t_part, .ref a_t_finer, .ref a_t_keys, .ref a_t_stateOfPart, .ref a_t_pastOfState, .int (z4 t_states), .ref a_t_steps, .ref a_t_away])), (a_t_away, .inl (E 0, 64, .inl (A4 t_away_l13))), (a_t_steps, .inl (E 0, 320, .inl (A4 t_steps)))] → va_S A s.heap H locs → lp_ (fun (q : Int × Int × (Nat → Int)) => F_X1_measure_L13 n t_states t_steps q.1 q.2.1 q.2.2) k_ (v13_1, v13_2, t_away_l13) = some o2 → W p l e rm_X1_measure s m args below meth c H locs 0 0 Q (F0 m 13 ls []) := by
    intro k_
    induction k_ with
    | zero =>
      intro v13_1 v13_2 t_away_l13 H locs ls hl hP hD hS hq_; exact (lp_zero hq_).elim
    | succ k_ ih2 =>
      intro v13_1 v13_2 t_away_l13 H locs ls hl hP hD hS hq_
      obtain ⟨t_2, hb2, hq2⟩ := lp_some hq_
      replace hb2 : F_X1_measure_L13 n t_states t_steps v13_1 v13_2 t_away_l13 = some t_2 := hb2
      unfold F_X1_measure_L13 at hb2
      refine lv_iload_n hx hb dX1_measure_13 rfl (lv_at hl 2 rfl) ?_
      refine m_bipush X dX1_measure_14 (by decide) ?_
      obtain ⟨h3, hb2⟩ := ck_some hb2
      refine m_icmp_gt X ⟨h3, ⟨by decide, by decide⟩⟩ dX1_measure_16 (tgt := 86) (by decide) (fun (hc_ : 64 < v13_2) => ?_) (fun (hc_ : ¬ (64 < v13_2)) => ?_)
      · rw [if_pos hc_] at hb2
        obtain rfl := Option.some.inj hb2
        exact E2_0 _ (Option.some.inj hq2).symm _ _ _ (lv_sub hl [] rfl) hP hD hS
      · rw [if_neg hc_] at hb2
        refine lv_iload_n hx hb dX1_measure_19 rfl (lv_at hl 1 rfl) ?_
        obtain ⟨h4, hb2⟩ := ck_some hb2
        refine m_if_eq X h4 dX1_measure_20 (tgt := 86) (by decide) (fun (hc_ : v13_1 = 0) => ?_) (fun (hc_ : ¬ (v13_1 = 0)) => ?_)
        · rw [if_pos hc_] at hb2
          obtain rfl := Option.some.inj hb2
          exact E2_0 _ (Option.some.inj hq2).symm _ _ _ (lv_sub hl [] rfl) hP hD hS
        · rw [if_neg hc_] at hb2
          refine m_iconst X dX1_measure_23 ?_
          refine lv_istore_n (lv' := [(1, .int (z4 0)), (0, .ref a_t), (2, .int (z4 v13_2))]) hx hb dX1_measure_24 rfl hl (by decide) rfl (fun ls hl => ?_)
          refine m_iconst X dX1_measure_25 ?_
          refine lv_istore_n (lv' := [(3, .int (z4 0)), (1, .int (z4 0)), (0, .ref a_t), (2, .int (z4 v13_2))]) hx hb dX1_measure_26 rfl hl (by decide) rfl (fun ls hl => ?_)
          obtain ⟨o5, hj5, hr5⟩ := bd_some hb2
          have E5_0 : ∀ (o_ : Int × (Nat → Int)), o5 = o_ → ∀ (H : Heap) (locs : List Loc) (ls : Array Slot), lv_has ls 4 [(0, .ref a_t), (1, .int (z4 o_.1)), (2, .int (z4 v13_2))] → va_P D vwCl [(a_t, .inr (1, [.ref a_t_plan, .int (z4 t_pasts), .ref a_t_leads, .ref a_t_part, .ref a_t_finer, .ref a_t_keys, .ref a_t_stateOfPart, .ref a_t_pastOfState, .int (z4 t_states), .ref a_t_steps, .ref a_t_away])), (a_t_away, .inl (E 0, 64, .inl (A4 o_.2))), (a_t_steps, .inl (E 0, 320, .inl (A4 t_steps)))] H → va_D A [(a_t, .inr (1, [.ref a_t_plan, .int (z4 t_pasts), .ref a_t_leads, .ref a_t_part, .ref a_t_finer, .ref a_t_keys, .ref a_t_stateOfPart, .ref a_t_pastOfState, .int (z4 t_states), .ref a_t_steps, .ref a_t_away])), (a_t_away, .inl (E 0, 64, .inl (A4 o_.2))), (a_t_steps, .inl (E 0, 320, .inl (A4 t_steps)))] → va_S A s.heap H locs → W p l e rm_X1_measure s m args below meth c H locs 0 0 Q (F0 m 80 ls []) := by
            intro o_ ho_ H locs ls hl hP hD hS
            subst ho_
            refine m_iinc X 2 [(2, .int (z4 (v13_2 + 1))), (0, .ref a_t), (1, .int (z4 o5.1))] dX1_measure_80 hl rfl (by decide) rfl (fun ls hl => ?_)
            refine lv_goto (tgt := 13) hx hb dX1_measure_83 (by decide) ?_
            obtain rfl := Option.some.inj hr5
            exact ih2 _ _ _ _ _ _ (lv_sub hl [1, 2, 0] rfl) hP hD hS hq2
          have L5 : ∀ (k_ : Nat) (v27_1 : Int) (v27_3 : Int) (t_away_l27 : Nat → Int), ∀ (H : Heap) (locs : List Loc) (ls : Array Slot), lv_has ls 4 [(0, .ref a_t), (1, .int (z4 v27_1)), (2, .int (z4 v13_2)), (3, .int (z4 v27_3))] → va_P D vwCl [(a_t, .inr (1, [.ref a_t_plan, .int (z4 t_pasts), .ref a_t_leads, .ref a_t_part, .ref a_t_finer, .ref a_t_keys, .ref a_t_stateOfPart, .ref a_t_pastOfState, .int (z4 t_states), .ref a_t_steps, .ref a_t_away])), (a_t_away, .inl (E 0, 64, .inl (A4 t_away_l27))), (a_t_steps, .inl (E 0, 320, .inl (A4 t_steps)))] H → va_D A [(a_t, .inr (1, [.ref a_t_plan, .int (z4 t_pasts), .ref a_t_leads, .ref a_t_part, .ref a_t_finer, .ref a_t_keys, .ref a_t_stateOfPart, .ref a_t_pastOfState, .int (z4 t_states), .ref a_t_steps, .ref a_t_away])), (a_t_away, .inl (E 0, 64, .inl (A4 t_away_l27))), (a_t_steps, .inl (E 0, 320, .inl (A4 t_steps)))] → va_S A s.heap H locs → lp_ (fun (q : Int × Int × (Nat → Int)) => F_X1_measure_L27 n t_states t_steps v13_2 q.1 q.2.1 q.2.2) k_ (v27_1, v27_3, t_away_l27) = some o5 → W p l e rm_X1_measure s m args below meth c H locs 0 0 Q (F0 m 27 ls []) := by
            intro k_
            induction k_ with
            | zero =>
              intro v27_1 v27_3 t_away_l27 H locs ls hl hP hD hS hq_; exact (lp_zero hq_).elim
            | succ k_ ih5 =>
              intro v27_1 v27_3 t_away_l27 H locs ls hl hP hD hS hq_
              obtain ⟨t_5, hb5, hq5⟩ := lp_some hq_
              replace hb5 : F_X1_measure_L27 n t_states t_steps v13_2 v27_1 v27_3 t_away_l27 = some t_5 := hb5
              unfold F_X1_measure_L27 at hb5
              refine lv_iload_n hx hb dX1_measure_27 rfl (lv_at hl 3 rfl) ?_
              refine lv_aload_n hx hb dX1_measure_28 rfl (lv_at hl 0 rfl) ?_
              refine m_get X hK hP cl_X1 iT_X1 8 (by decide) fl_X1_106 0 rfl rfl dX1_measure_29 ?_
              obtain ⟨h6, hb5⟩ := ck_some hb5
              refine m_icmp_ge X h6 dX1_measure_32 (tgt := 80) (by decide) (fun (hc_ : ¬ (v27_3 < t_states)) => ?_) (fun (hc_ : v27_3 < t_states) => ?_)
              · rw [if_neg hc_] at hb5
                obtain rfl := Option.some.inj hb5
                exact E5_0 _ (Option.some.inj hq5).symm _ _ _ (lv_sub hl [0, 1, 2] rfl) hP hD hS
              · rw [if_pos hc_] at hb5
                refine lv_iload_n hx hb dX1_measure_35 rfl (lv_at hl 3 rfl) ?_
                refine m_bipush X dX1_measure_36 (by decide) ?_
                obtain ⟨h7, hb5⟩ := ck_some hb5
                refine m_icmp_ge X ⟨h7, ⟨by decide, by decide⟩⟩ dX1_measure_38 (tgt := 80) (by decide) (fun (hc_ : ¬ (v27_3 < 64)) => ?_) (fun (hc_ : v27_3 < 64) => ?_)
                · rw [if_neg hc_] at hb5
                  obtain rfl := Option.some.inj hb5
                  exact E5_0 _ (Option.some.inj hq5).symm _ _ _ (lv_sub hl [0, 1, 2] rfl) hP hD hS
                · rw [if_pos hc_] at hb5
                  refine lv_aload_n hx hb dX1_measure_41 rfl (lv_at hl 0 rfl) ?_
                  refine m_get X hK hP cl_X1 iT_X1 10 (by decide) fl_X1_40 0 rfl rfl dX1_measure_42 ?_
                  refine lv_iload_n hx hb dX1_measure_45 rfl (lv_at hl 3 rfl) ?_
                  obtain ⟨h8, hb5⟩ := ck_some hb5
                  refine m_iald X hK hP 1 rfl (by decide) h8 dX1_measure_46 ?_
                  refine m_bipush X dX1_measure_47 (by decide) ?_
                  obtain ⟨o9, hj9, hr9⟩ := bd_some hb5
                  have J9 : ∀ (o_ : Int × (Nat → Int)), o9 = o_ → ∀ (H : Heap) (locs : List Loc) (ls : Array Slot), lv_has ls 4 [(0, .ref a_t), (1, .int (z4 o_.1)), (2, .int (z4 v13_2)), (3, .int (z4 v27_3))] → va_P D vwCl [(a_t, .inr (1, [.ref a_t_plan, .int (z4 t_pasts), .ref a_t_leads, .ref a_t_part, .ref a_t_finer, .ref a_t_keys, .ref a_t_stateOfPart, .ref a_t_pastOfState, .int (z4 t_states), .ref a_t_steps, .ref a_t_away])), (a_t_away, .inl (E 0, 64, .inl (A4 o_.2))), (a_t_steps, .inl (E 0, 320, .inl (A4 t_steps)))] H → va_D A [(a_t, .inr (1, [.ref a_t_plan, .int (z4 t_pasts), .ref a_t_leads, .ref a_t_part, .ref a_t_finer, .ref a_t_keys, .ref a_t_stateOfPart, .ref a_t_pastOfState, .int (z4 t_states), .ref a_t_steps, .ref a_t_away])), (a_t_away, .inl (E 0, 64, .inl (A4 o_.2))), (a_t_steps, .inl (E 0, 320, .inl (A4 t_steps)))] → va_S A s.heap H locs → W p l e rm_X1_measure s m args below meth c H locs 0 0 Q (F0 m 74 ls []) := by
                    intro o_ ho_ H locs ls hl hP hD hS
                    subst ho_
                    refine m_iinc X 3 [(3, .int (z4 (v27_3 + 1))), (0, .ref a_t), (1, .int (z4 o9.1)), (2, .int (z4 v13_2))] dX1_measure_74 hl rfl (by decide) rfl (fun ls hl => ?_)
                    refine lv_goto (tgt := 27) hx hb dX1_measure_77 (by decide) ?_
                    obtain rfl := Option.some.inj hr9
                    exact ih5 _ _ _ _ _ _ (lv_sub hl [1, 2, 3, 0] rfl) hP hD hS hq5
                  obtain ⟨h10, hj9⟩ := ck_some hj9
                  refine m_icmp_ne X ⟨h10, ⟨by decide, by decide⟩⟩ dX1_measure_49 (tgt := 74) (by decide) (fun (hc_ : ¬ (t_away_l27 (v27_3).toNat = (-9))) => ?_) (fun (hc_ : t_away_l27 (v27_3).toNat = (-9)) => ?_)
                  · rw [if_neg hc_] at hj9
                    exact J9 _ (Option.some.inj hj9).symm _ _ _ (lv_sub hl [0, 1, 2, 3] rfl) hP hD hS
                  · rw [if_pos hc_] at hj9
                    refine lv_aload_n hx hb dX1_measure_52 rfl (lv_at hl 0 rfl) ?_
                    refine lv_iload_n hx hb dX1_measure_53 rfl (lv_at hl 3 rfl) ?_
                    refine lv_iload_n hx hb dX1_measure_54 rfl (lv_at hl 2 rfl) ?_
                    refine m_iconst X dX1_measure_55 ?_
                    refine m_isub X dX1_measure_56 ?_
                    obtain ⟨o11, ho, hj9⟩ := bd_some hj9
                    refine m_cVR X hK (k_X1_signTo n a_t a_t_plan a_t_leads a_t_part a_t_finer a_t_keys a_t_stateOfPart a_t_pastOfState a_t_steps a_t_away t_pasts t_states t_steps t_away_l27 v27_3 (v13_2 - 1) o11 ho) (hP.sub [0, 2, 1] rfl) rfl cl_X1 lk_X1_112 co_X1_signTo dy_X1_signTo rfl rfl ⟨Nat.le_of_ble_eq_true rfl, Nat.le_of_ble_eq_true rfl⟩ hl.1 rfl (Nat.le_of_ble_eq_true rfl) dX1_measure_57 (Nat.zero_le _) (Nat.zero_le _) ?_
                    refine m_bipush X dX1_measure_60 (by decide) ?_
                    obtain ⟨h12, hj9⟩ := ck_some hj9
                    refine m_icmp_eq X ⟨h12, ⟨by decide, by decide⟩⟩ dX1_measure_62 (tgt := 74) (by decide) (fun (hc_ : o11 = (-9)) => ?_) (fun (hc_ : ¬ (o11 = (-9))) => ?_)
                    · rw [if_pos hc_] at hj9
                      exact J9 _ (Option.some.inj hj9).symm _ _ _ (lv_sub hl [0, 1, 2, 3] rfl) hP hD hS
                    · rw [if_neg hc_] at hj9
                      refine lv_aload_n hx hb dX1_measure_65 rfl (lv_at hl 0 rfl) ?_
                      refine m_get X hK hP cl_X1 iT_X1 10 (by decide) fl_X1_40 0 rfl rfl dX1_measure_66 ?_
                      refine lv_iload_n hx hb dX1_measure_69 rfl (lv_at hl 3 rfl) ?_
                      refine lv_iload_n hx hb dX1_measure_70 rfl (lv_at hl 2 rfl) ?_
                      obtain ⟨h13, hj9⟩ := ck_some hj9
                      refine m_iast X hK hP hD hS 1 rfl (by decide) h13 [(a_t, .inr (1, [.ref a_t_plan, .int (z4 t_pasts), .ref a_t_leads, .ref a_t_part, .ref a_t_finer, .ref a_t_keys, .ref a_t_stateOfPart, .ref a_t_pastOfState, .int (z4 t_states), .ref a_t_steps, .ref a_t_away])), (a_t_away, .inl (E 0, 64, .inl (A4 (up_ t_away_l27 (v27_3).toNat v13_2)))), (a_t_steps, .inl (E 0, 320, .inl (A4 t_steps)))] rfl dX1_measure_71 (fun H locs hP hD hS => ?_)
                      refine m_iconst X dX1_measure_72 ?_
                      refine lv_istore_n (lv' := [(1, .int (z4 1)), (0, .ref a_t), (2, .int (z4 v13_2)), (3, .int (z4 v27_3))]) hx hb dX1_measure_73 rfl hl (by decide) rfl (fun ls hl => ?_)
                      exact J9 _ (Option.some.inj hj9).symm _ _ _ (lv_sub hl [1, 0, 2, 3] rfl) hP hD hS
          exact L5 n _ _ _ _ _ _ (lv_sub hl [2, 1, 3, 0] rfl) hP hD hS hj5
  exact L2 n _ _ _ _ _ _ (lv_sub hl [2, 1, 0] rfl) hP hD hS hj2
def F_X1_build_L34 (n : Nat) (o1 : Int) (o4 : (Nat → Int)) (v34_1 : Int) (v34_2 : Int) (t_part_l34 : Nat → Int) (t_keys_l34 : Nat → Int) (t_finer_l34 : Nat → Int) : Option ((Int × Int × (Nat → Int) × (Nat → Int) × (Nat → Int)) ⊕ (((Nat → Int) × (Nat → Int) × (Nat → Int)) ⊕ ((Nat → Int) × (Nat → Int) × (Nat → Int)))) :=
  ck (r4 v34_2) <|
  if v34_2 < 64 then
    (F_X1_split n (min 64 (sl_ 1 o1)) o4 t_part_l34 t_keys_l34 t_finer_l34).bind fun o8 =>
    ck (r4 o8.1 ∧ r4 v34_1) <|
    if o8.1 = v34_1 then
      some (.inr (.inr (o8.2.1, o8.2.2.1, o8.2.2.2)))
    else
      some (.inl (o8.1, v34_2 + 1, o8.2.1, o8.2.2.1, o8.2.2.2))
  else
    some (.inr (.inl (t_part_l34, t_keys_l34, t_finer_l34)))
def F_X1_build (n : Nat)  (t_plan_rules : Int) (t_plan_of : Nat → Int) (t_plan_set : Nat → Int) (t_plan_least : Nat → Int) (t_leads : Nat → Int) (t_part : Nat → Int) (t_keys : Nat → Int) (t_finer : Nat → Int) (t_stateOfPart : Nat → Int) (t_pastOfState : Nat → Int) (t_steps : Nat → Int) (t_away : Nat → Int)  : Option (Int × Int × (Nat → Int) × (Nat → Int) × (Nat → Int) × (Nat → Int) × (Nat → Int) × (Nat → Int) × (Nat → Int) × (Nat → Int)) :=
  (F_X4_pastWidth n t_plan_rules t_plan_of).bind fun o1 =>
  ck (hS_ 1 o1) <|
  ck (r4 (sl_ 1 o1)) <|
  (F_X1_lead n (min 64 (sl_ 1 o1)) t_plan_rules t_plan_of t_plan_set t_plan_least t_leads).bind fun o4 =>
  (F_J7_fill_53178 n 64 t_part 0).bind fun o5 =>
  (lp_ (fun (q : Int × Int × (Nat → Int) × (Nat → Int) × (Nat → Int)) => F_X1_build_L34 n o1 o4 q.1 q.2.1 q.2.2.1 q.2.2.2.1 q.2.2.2.2) n (1, 0, o5, t_keys, t_finer)).bind fun o6 => match o6 with
  | .inl o6_0 =>
    (F_X1_numberStates n t_stateOfPart o6_0.1 t_pastOfState o4 t_steps).bind fun o10 =>
    (F_X1_measure n o10.1 t_away o10.2.2.2).bind fun o11 =>
    some (min 64 (sl_ 1 o1), o10.1, o4, o6_0.1, o6_0.2.1, o6_0.2.2, o10.2.1, o10.2.2.1, o10.2.2.2, o11)
  | .inr o6_1 =>
    (F_X1_numberStates n t_stateOfPart o6_1.1 t_pastOfState o4 t_steps).bind fun o12 =>
    (F_X1_measure n o12.1 t_away o12.2.2.2).bind fun o13 =>
    some (min 64 (sl_ 1 o1), o12.1, o4, o6_1.1, o6_1.2.1, o6_1.2.2, o12.2.1, o12.2.2.1, o12.2.2.2, o13)
def rm_X1_build : Room := { frames := 3, cells := 0, slots := 0, locals := 73 }
set_option maxHeartbeats 4000000 in
set_option maxRecDepth 100000 in
theorem k_X1_build {l : Launch} {D : va_G} {E : Nat → ClassId} (n : Nat) (a_t a_t_plan a_t_leads a_t_part a_t_finer a_t_keys a_t_stateOfPart a_t_pastOfState a_t_steps a_t_away a_t_plan_least a_t_plan_of a_t_plan_set a_t_plan_chances : Nat) (t_pasts : Int) (t_states : Int) (t_plan_rules : Int) (t_plan_slack : Int) (t_plan_limit : Int) (t_plan_of : Nat → Int) (t_plan_set : Nat → Int) (t_plan_least : Nat → Int) (t_leads : Nat → Int) (t_part : Nat → Int) (t_keys : Nat → Int) (t_finer : Nat → Int) (t_stateOfPart : Nat → Int) (t_pastOfState : Nat → Int) (t_steps : Nat → Int) (t_away : Nat → Int) (res : Int × Int × (Nat → Int) × (Nat → Int) × (Nat → Int) × (Nat → Int) × (Nat → Int) × (Nat → Int) × (Nat → Int) × (Nat → Int)) (hf : F_X1_build n t_plan_rules t_plan_of t_plan_set t_plan_least t_leads t_part t_keys t_finer t_stateOfPart t_pastOfState t_steps t_away = some res) : MW l yX1_build (.code yX1_build cX1_build 4 none) rm_X1_build D E [.ref a_t] [(a_t, .inr (1, [.ref a_t_plan, .int (z4 t_pasts), .ref a_t_leads, .ref a_t_part, .ref a_t_finer, .ref a_t_keys, .ref a_t_stateOfPart, .ref a_t_pastOfState, .int (z4 t_states), .ref a_t_steps, .ref a_t_away])), (a_t_plan, .inr (4, [.int (z4 t_plan_rules), .ref a_t_plan_least, .ref a_t_plan_of, .ref a_t_plan_set, .ref a_t_plan_chances, .int (z4 t_plan_slack), .int (z4 t_plan_limit)])), (a_t_plan_of, .inl (E 0, 3, .inl (A4 t_plan_of))), (a_t_plan_set, .inl (E 0, 3, .inl (A4 t_plan_set))), (a_t_plan_least, .inl (E 0, 3, .inl (A4 t_plan_least))), (a_t_leads, .inl (E 0, 320, .inl (A4 t_leads))), (a_t_part, .inl (E 0, 64, .inl (A4 t_part))), (a_t_keys, .inl (E 0, 64, .inl (A4 t_keys))), (a_t_finer, .inl (E 0, 64, .inl (A4 t_finer))), (a_t_stateOfPart, .inl (E 0, 64, .inl (A4 t_stateOfPart))), (a_t_pastOfState, .inl (E 0, 64, .inl (A4 t_pastOfState))), (a_t_steps, .inl (E 0, 320, .inl (A4 t_steps))), (a_t_away, .inl (E 0, 64, .inl (A4 t_away)))] none [(a_t, .inr (1, [.ref a_t_plan, .int (z4 res.1), .ref a_t_leads, .ref a_t_part, .ref a_t_finer, .ref a_t_keys, .ref a_t_stateOfPart, .ref a_t_pastOfState, .int (z4 res.2.1), .ref a_t_steps, .ref a_t_away])), (a_t_plan, .inr (4, [.int (z4 t_plan_rules), .ref a_t_plan_least, .ref a_t_plan_of, .ref a_t_plan_set, .ref a_t_plan_chances, .int (z4 t_plan_slack), .int (z4 t_plan_limit)])), (a_t_plan_of, .inl (E 0, 3, .inl (A4 t_plan_of))), (a_t_plan_set, .inl (E 0, 3, .inl (A4 t_plan_set))), (a_t_plan_least, .inl (E 0, 3, .inl (A4 t_plan_least))), (a_t_leads, .inl (E 0, 320, .inl (A4 res.2.2.1))), (a_t_part, .inl (E 0, 64, .inl (A4 res.2.2.2.1))), (a_t_keys, .inl (E 0, 64, .inl (A4 res.2.2.2.2.1))), (a_t_finer, .inl (E 0, 64, .inl (A4 res.2.2.2.2.2.1))), (a_t_stateOfPart, .inl (E 0, 64, .inl (A4 res.2.2.2.2.2.2.1))), (a_t_pastOfState, .inl (E 0, 64, .inl (A4 res.2.2.2.2.2.2.2.1))), (a_t_steps, .inl (E 0, 320, .inl (A4 res.2.2.2.2.2.2.2.2.1))), (a_t_away, .inl (E 0, 64, .inl (A4 res.2.2.2.2.2.2.2.2.2)))] := by
  refine MWv (by decide) (Nat.le_of_ble_eq_true rfl) ?_
  intro p e s m args below meth c A Q X hK hP hD hA ret ls hl
  have hS : va_S A s.heap s.heap [] := va_S.rf
  have hx := X.1
  have hb := X.2.1
  have hl : lv_has ls 4 [(0, .ref a_t)] := hl
  unfold F_X1_build at hf
  refine lv_aload_n hx hb dX1_build_0 rfl (lv_at hl 0 rfl) ?_
  refine m_bipush X dX1_build_1 (by decide) ?_
  refine m_iconst X dX1_build_3 ?_
  refine lv_aload_n hx hb dX1_build_4 rfl (lv_at hl 0 rfl) ?_
  refine m_get X hK hP cl_X1 iT_X1 0 (by decide) fl_X1_12 0 rfl rfl dX1_build_5 ?_
  obtain ⟨o1, ho, hf⟩ := bd_some hf
  refine m_cVR X hK (k_X4_pastWidth n a_t_plan a_t_plan_least a_t_plan_of a_t_plan_set a_t_plan_chances t_plan_rules t_plan_slack t_plan_limit t_plan_of o1 ho) (hP.sub [1, 2] rfl) rfl cl_X4 lk_X1_64 co_X4_pastWidth dy_X4_pastWidth rfl rfl ⟨Nat.le_of_ble_eq_true rfl, Nat.le_of_ble_eq_true rfl⟩ hl.1 rfl (Nat.le_of_ble_eq_true rfl) dX1_build_8 (Nat.zero_le _) (Nat.zero_le _) ?_
  obtain ⟨h2, hf⟩ := ck_some hf
  refine m_ishl X h2 dX1_build_11 ?_
  obtain ⟨h3, hf⟩ := ck_some hf
  refine m_min X ml_X1_68 st_min in_Math cd_min hl.1 (Nat.le_of_ble_eq_true rfl) (Nat.le_of_ble_eq_true rfl) (Nat.zero_le _) (Nat.zero_le _) ⟨⟨by decide, by decide⟩, h3⟩ dX1_build_12 ?_
  refine m_put X hK hP hD hS cl_X1 iT_X1 tyX1 tyX1_ok nmX1 1 (by decide) fl_X1_71 rfl 0 rfl rfl rfl (Nat.le_of_ble_eq_true rfl) [(a_t, .inr (1, [.ref a_t_plan, .int (z4 (min 64 (sl_ 1 o1))), .ref a_t_leads, .ref a_t_part, .ref a_t_finer, .ref a_t_keys, .ref a_t_stateOfPart, .ref a_t_pastOfState, .int (z4 t_states), .ref a_t_steps, .ref a_t_away])), (a_t_plan, .inr (4, [.int (z4 t_plan_rules), .ref a_t_plan_least, .ref a_t_plan_of, .ref a_t_plan_set, .ref a_t_plan_chances, .int (z4 t_plan_slack), .int (z4 t_plan_limit)])), (a_t_plan_of, .inl (E 0, 3, .inl (A4 t_plan_of))), (a_t_plan_set, .inl (E 0, 3, .inl (A4 t_plan_set))), (a_t_plan_least, .inl (E 0, 3, .inl (A4 t_plan_least))), (a_t_leads, .inl (E 0, 320, .inl (A4 t_leads))), (a_t_part, .inl (E 0, 64, .inl (A4 t_part))), (a_t_keys, .inl (E 0, 64, .inl (A4 t_keys))), (a_t_finer, .inl (E 0, 64, .inl (A4 t_finer))), (a_t_stateOfPart, .inl (E 0, 64, .inl (A4 t_stateOfPart))), (a_t_pastOfState, .inl (E 0, 64, .inl (A4 t_pastOfState))), (a_t_steps, .inl (E 0, 320, .inl (A4 t_steps))), (a_t_away, .inl (E 0, 64, .inl (A4 t_away)))] rfl dX1_build_15 (fun H locs hP hD hS => ?_)
  refine lv_aload_n hx hb dX1_build_18 rfl (lv_at hl 0 rfl) ?_
  obtain ⟨o4, ho, hf⟩ := bd_some hf
  refine m_cVW X hK hP hD hS hA (wr := [(a_t_part, .inl (E 0, 64, .inl (A4 t_part))), (a_t_keys, .inl (E 0, 64, .inl (A4 t_keys))), (a_t_finer, .inl (E 0, 64, .inl (A4 t_finer))), (a_t_stateOfPart, .inl (E 0, 64, .inl (A4 t_stateOfPart))), (a_t_pastOfState, .inl (E 0, 64, .inl (A4 t_pastOfState))), (a_t_steps, .inl (E 0, 320, .inl (A4 t_steps))), (a_t_away, .inl (E 0, 64, .inl (A4 t_away)))]) (k_X1_lead n a_t a_t_plan a_t_leads a_t_part a_t_finer a_t_keys a_t_stateOfPart a_t_pastOfState a_t_steps a_t_away a_t_plan_least a_t_plan_of a_t_plan_set a_t_plan_chances (min 64 (sl_ 1 o1)) t_states t_plan_rules t_plan_slack t_plan_limit t_plan_of t_plan_set t_plan_least t_leads o4 ho) [0, 1, 2, 3, 4, 5] [6, 7, 8, 9, 10, 11, 12] [7, 8, 9, 10, 11, 12, 0, 1, 2, 3, 4, 5, 6] [(a_t, .inr (1, [.ref a_t_plan, .int (z4 (min 64 (sl_ 1 o1))), .ref a_t_leads, .ref a_t_part, .ref a_t_finer, .ref a_t_keys, .ref a_t_stateOfPart, .ref a_t_pastOfState, .int (z4 t_states), .ref a_t_steps, .ref a_t_away])), (a_t_plan, .inr (4, [.int (z4 t_plan_rules), .ref a_t_plan_least, .ref a_t_plan_of, .ref a_t_plan_set, .ref a_t_plan_chances, .int (z4 t_plan_slack), .int (z4 t_plan_limit)])), (a_t_plan_of, .inl (E 0, 3, .inl (A4 t_plan_of))), (a_t_plan_set, .inl (E 0, 3, .inl (A4 t_plan_set))), (a_t_plan_least, .inl (E 0, 3, .inl (A4 t_plan_least))), (a_t_leads, .inl (E 0, 320, .inl (A4 o4))), (a_t_part, .inl (E 0, 64, .inl (A4 t_part))), (a_t_keys, .inl (E 0, 64, .inl (A4 t_keys))), (a_t_finer, .inl (E 0, 64, .inl (A4 t_finer))), (a_t_stateOfPart, .inl (E 0, 64, .inl (A4 t_stateOfPart))), (a_t_pastOfState, .inl (E 0, 64, .inl (A4 t_pastOfState))), (a_t_steps, .inl (E 0, 320, .inl (A4 t_steps))), (a_t_away, .inl (E 0, 64, .inl (A4 t_away)))] rfl rfl rfl rfl (by decide) rfl rfl rfl cl_X1 lk_X1_75 co_X1_lead dy_X1_lead rfl rfl ⟨Nat.le_of_ble_eq_true rfl, Nat.le_of_ble_eq_true rfl⟩ hl.1 rfl (Nat.le_of_ble_eq_true rfl) dX1_build_19 (Nat.zero_le _) (Nat.zero_le _) (fun H locs hP hD hS => ?_)
  refine lv_aload_n hx hb dX1_build_22 rfl (lv_at hl 0 rfl) ?_
  refine m_get X hK hP cl_X1 iT_X1 3 (by decide) fl_X1_22 0 rfl rfl dX1_build_23 ?_
  refine m_iconst X dX1_build_26 ?_
  obtain ⟨o5, ho, hf⟩ := bd_some hf
  refine m_cSW X hK hP hD hS hA (wr := [(a_t, .inr (1, [.ref a_t_plan, .int (z4 (min 64 (sl_ 1 o1))), .ref a_t_leads, .ref a_t_part, .ref a_t_finer, .ref a_t_keys, .ref a_t_stateOfPart, .ref a_t_pastOfState, .int (z4 t_states), .ref a_t_steps, .ref a_t_away])), (a_t_plan, .inr (4, [.int (z4 t_plan_rules), .ref a_t_plan_least, .ref a_t_plan_of, .ref a_t_plan_set, .ref a_t_plan_chances, .int (z4 t_plan_slack), .int (z4 t_plan_limit)])), (a_t_plan_of, .inl (E 0, 3, .inl (A4 t_plan_of))), (a_t_plan_set, .inl (E 0, 3, .inl (A4 t_plan_set))), (a_t_plan_least, .inl (E 0, 3, .inl (A4 t_plan_least))), (a_t_leads, .inl (E 0, 320, .inl (A4 o4))), (a_t_keys, .inl (E 0, 64, .inl (A4 t_keys))), (a_t_finer, .inl (E 0, 64, .inl (A4 t_finer))), (a_t_stateOfPart, .inl (E 0, 64, .inl (A4 t_stateOfPart))), (a_t_pastOfState, .inl (E 0, 64, .inl (A4 t_pastOfState))), (a_t_steps, .inl (E 0, 320, .inl (A4 t_steps))), (a_t_away, .inl (E 0, 64, .inl (A4 t_away)))]) (k_J7_fill_53178 n a_t_part 64 (by decide) t_part 0 o5 ho) [6] [0, 1, 2, 3, 4, 5, 7, 8, 9, 10, 11, 12] [0, 1, 2, 3, 4, 5, 12, 6, 7, 8, 9, 10, 11] [(a_t, .inr (1, [.ref a_t_plan, .int (z4 (min 64 (sl_ 1 o1))), .ref a_t_leads, .ref a_t_part, .ref a_t_finer, .ref a_t_keys, .ref a_t_stateOfPart, .ref a_t_pastOfState, .int (z4 t_states), .ref a_t_steps, .ref a_t_away])), (a_t_plan, .inr (4, [.int (z4 t_plan_rules), .ref a_t_plan_least, .ref a_t_plan_of, .ref a_t_plan_set, .ref a_t_plan_chances, .int (z4 t_plan_slack), .int (z4 t_plan_limit)])), (a_t_plan_of, .inl (E 0, 3, .inl (A4 t_plan_of))), (a_t_plan_set, .inl (E 0, 3, .inl (A4 t_plan_set))), (a_t_plan_least, .inl (E 0, 3, .inl (A4 t_plan_least))), (a_t_leads, .inl (E 0, 320, .inl (A4 o4))), (a_t_part, .inl (E 0, 64, .inl (A4 o5))), (a_t_keys, .inl (E 0, 64, .inl (A4 t_keys))), (a_t_finer, .inl (E 0, 64, .inl (A4 t_finer))), (a_t_stateOfPart, .inl (E 0, 64, .inl (A4 t_stateOfPart))), (a_t_pastOfState, .inl (E 0, 64, .inl (A4 t_pastOfState))), (a_t_steps, .inl (E 0, 320, .inl (A4 t_steps))), (a_t_away, .inl (E 0, 64, .inl (A4 t_away)))] rfl rfl rfl rfl (by decide) rfl rfl lk_X1_78 co_J7_fill_53178 dy_J7_fill_53178 rfl rfl ⟨Nat.le_of_ble_eq_true rfl, Nat.le_of_ble_eq_true rfl⟩ hl.1 rfl (Nat.le_of_ble_eq_true rfl) dX1_build_27 (Nat.zero_le _) (Nat.zero_le _) (fun H locs hP hD hS => ?_)
  refine m_iconst X dX1_build_30 ?_
  refine lv_istore_n (lv' := [(1, .int (z4 1)), (0, .ref a_t)]) hx hb dX1_build_31 rfl hl (by decide) rfl (fun ls hl => ?_)
  refine m_iconst X dX1_build_32 ?_
  refine lv_istore_n (lv' := [(2, .int (z4 0)), (1, .int (z4 1)), (0, .ref a_t)]) hx hb dX1_build_33 rfl hl (by decide) rfl (fun ls hl => ?_)
  obtain ⟨o6, hj6, hr6⟩ := bd_some hf
  have E6_0 : ∀ (o_ : (Nat → Int) × (Nat → Int) × (Nat → Int)), o6 = (.inl o_) → ∀ (H : Heap) (locs : List Loc) (ls : Array Slot), lv_has ls 4 [(0, .ref a_t)] → va_P D vwCl [(a_t, .inr (1, [.ref a_t_plan, .int (z4 (min 64 (sl_ 1 o1))), .ref a_t_leads, .ref a_t_part, .ref a_t_finer, .ref a_t_keys, .ref a_t_stateOfPart, .ref a_t_pastOfState, .int (z4 t_states), .ref a_t_steps, .ref a_t_away])), (a_t_plan, .inr (4, [.int (z4 t_plan_rules), .ref a_t_plan_least, .ref a_t_plan_of, .ref a_t_plan_set, .ref a_t_plan_chances, .int (z4 t_plan_slack), .int (z4 t_plan_limit)])), (a_t_plan_of, .inl (E 0, 3, .inl (A4 t_plan_of))), (a_t_plan_set, .inl (E 0, 3, .inl (A4 t_plan_set))), (a_t_plan_least, .inl (E 0, 3, .inl (A4 t_plan_least))), (a_t_leads, .inl (E 0, 320, .inl (A4 o4))), (a_t_part, .inl (E 0, 64, .inl (A4 o_.1))), (a_t_keys, .inl (E 0, 64, .inl (A4 o_.2.1))), (a_t_finer, .inl (E 0, 64, .inl (A4 o_.2.2))), (a_t_stateOfPart, .inl (E 0, 64, .inl (A4 t_stateOfPart))), (a_t_pastOfState, .inl (E 0, 64, .inl (A4 t_pastOfState))), (a_t_steps, .inl (E 0, 320, .inl (A4 t_steps))), (a_t_away, .inl (E 0, 64, .inl (A4 t_away)))] H → va_D A [(a_t, .inr (1, [.ref a_t_plan, .int (z4 (min 64 (sl_ 1 o1))), .ref a_t_leads, .ref a_t_part, .ref a_t_finer, .ref a_t_keys, .ref a_t_stateOfPart, .ref a_t_pastOfState, .int (z4 t_states), .ref a_t_steps, .ref a_t_away])), (a_t_plan, .inr (4, [.int (z4 t_plan_rules), .ref a_t_plan_least, .ref a_t_plan_of, .ref a_t_plan_set, .ref a_t_plan_chances, .int (z4 t_plan_slack), .int (z4 t_plan_limit)])), (a_t_plan_of, .inl (E 0, 3, .inl (A4 t_plan_of))), (a_t_plan_set, .inl (E 0, 3, .inl (A4 t_plan_set))), (a_t_plan_least, .inl (E 0, 3, .inl (A4 t_plan_least))), (a_t_leads, .inl (E 0, 320, .inl (A4 o4))), (a_t_part, .inl (E 0, 64, .inl (A4 o_.1))), (a_t_keys, .inl (E 0, 64, .inl (A4 o_.2.1))), (a_t_finer, .inl (E 0, 64, .inl (A4 o_.2.2))), (a_t_stateOfPart, .inl (E 0, 64, .inl (A4 t_stateOfPart))), (a_t_pastOfState, .inl (E 0, 64, .inl (A4 t_pastOfState))), (a_t_steps, .inl (E 0, 320, .inl (A4 t_steps))), (a_t_away, .inl (E 0, 64, .inl (A4 t_away)))] → va_S A s.heap H locs → W p l e rm_X1_build s m args below meth c H locs 0 0 Q (F0 m 61 ls []) := by
    intro o6_0 ho_ H locs ls hl hP hD hS
    subst ho_
    refine lv_aload_n hx hb dX1_build_61 rfl (lv_at hl 0 rfl) ?_
    obtain ⟨o10, ho, hr6⟩ := bd_some hr6
    refine m_cVW X hK hP hD hS hA (wr := [(a_t_plan, .inr (4, [.int (z4 t_plan_rules), .ref a_t_plan_least, .ref a_t_plan_of, .ref a_t_plan_set, .ref a_t_plan_chances, .int (z4 t_plan_slack), .int (z4 t_plan_limit)])), (a_t_plan_of, .inl (E 0, 3, .inl (A4 t_plan_of))), (a_t_plan_set, .inl (E 0, 3, .inl (A4 t_plan_set))), (a_t_plan_least, .inl (E 0, 3, .inl (A4 t_plan_least))), (a_t_keys, .inl (E 0, 64, .inl (A4 o6_0.2.1))), (a_t_finer, .inl (E 0, 64, .inl (A4 o6_0.2.2))), (a_t_away, .inl (E 0, 64, .inl (A4 t_away)))]) (k_X1_numberStates n a_t a_t_plan a_t_leads a_t_part a_t_finer a_t_keys a_t_stateOfPart a_t_pastOfState a_t_steps a_t_away (min 64 (sl_ 1 o1)) t_states t_stateOfPart o6_0.1 t_pastOfState o4 t_steps o10 ho) [0, 9, 6, 10, 5, 11] [1, 2, 3, 4, 7, 8, 12] [7, 0, 1, 2, 3, 11, 9, 4, 5, 8, 10, 12, 6] [(a_t, .inr (1, [.ref a_t_plan, .int (z4 (min 64 (sl_ 1 o1))), .ref a_t_leads, .ref a_t_part, .ref a_t_finer, .ref a_t_keys, .ref a_t_stateOfPart, .ref a_t_pastOfState, .int (z4 o10.1), .ref a_t_steps, .ref a_t_away])), (a_t_plan, .inr (4, [.int (z4 t_plan_rules), .ref a_t_plan_least, .ref a_t_plan_of, .ref a_t_plan_set, .ref a_t_plan_chances, .int (z4 t_plan_slack), .int (z4 t_plan_limit)])), (a_t_plan_of, .inl (E 0, 3, .inl (A4 t_plan_of))), (a_t_plan_set, .inl (E 0, 3, .inl (A4 t_plan_set))), (a_t_plan_least, .inl (E 0, 3, .inl (A4 t_plan_least))), (a_t_leads, .inl (E 0, 320, .inl (A4 o4))), (a_t_part, .inl (E 0, 64, .inl (A4 o6_0.1))), (a_t_keys, .inl (E 0, 64, .inl (A4 o6_0.2.1))), (a_t_finer, .inl (E 0, 64, .inl (A4 o6_0.2.2))), (a_t_stateOfPart, .inl (E 0, 64, .inl (A4 o10.2.1))), (a_t_pastOfState, .inl (E 0, 64, .inl (A4 o10.2.2.1))), (a_t_steps, .inl (E 0, 320, .inl (A4 o10.2.2.2))), (a_t_away, .inl (E 0, 64, .inl (A4 t_away)))] rfl rfl rfl rfl (by decide) rfl rfl rfl cl_X1 lk_X1_87 co_X1_numberStates dy_X1_numberStates rfl rfl ⟨Nat.le_of_ble_eq_true rfl, Nat.le_of_ble_eq_true rfl⟩ hl.1 rfl (Nat.le_of_ble_eq_true rfl) dX1_build_62 (Nat.zero_le _) (Nat.zero_le _) (fun H locs hP hD hS => ?_)
    refine lv_aload_n hx hb dX1_build_65 rfl (lv_at hl 0 rfl) ?_
    obtain ⟨o11, ho, hr6⟩ := bd_some hr6
    refine m_cVW X hK hP hD hS hA (wr := [(a_t_plan, .inr (4, [.int (z4 t_plan_rules), .ref a_t_plan_least, .ref a_t_plan_of, .ref a_t_plan_set, .ref a_t_plan_chances, .int (z4 t_plan_slack), .int (z4 t_plan_limit)])), (a_t_plan_of, .inl (E 0, 3, .inl (A4 t_plan_of))), (a_t_plan_set, .inl (E 0, 3, .inl (A4 t_plan_set))), (a_t_plan_least, .inl (E 0, 3, .inl (A4 t_plan_least))), (a_t_leads, .inl (E 0, 320, .inl (A4 o4))), (a_t_part, .inl (E 0, 64, .inl (A4 o6_0.1))), (a_t_keys, .inl (E 0, 64, .inl (A4 o6_0.2.1))), (a_t_finer, .inl (E 0, 64, .inl (A4 o6_0.2.2))), (a_t_stateOfPart, .inl (E 0, 64, .inl (A4 o10.2.1))), (a_t_pastOfState, .inl (E 0, 64, .inl (A4 o10.2.2.1)))]) (k_X1_measure n a_t a_t_plan a_t_leads a_t_part a_t_finer a_t_keys a_t_stateOfPart a_t_pastOfState a_t_steps a_t_away (min 64 (sl_ 1 o1)) o10.1 t_away o10.2.2.2 o11 ho) [0, 12, 11] [1, 2, 3, 4, 5, 6, 7, 8, 9, 10] [10, 0, 1, 2, 3, 4, 5, 6, 7, 8, 9, 12, 11] [(a_t, .inr (1, [.ref a_t_plan, .int (z4 (min 64 (sl_ 1 o1))), .ref a_t_leads, .ref a_t_part, .ref a_t_finer, .ref a_t_keys, .ref a_t_stateOfPart, .ref a_t_pastOfState, .int (z4 o10.1), .ref a_t_steps, .ref a_t_away])), (a_t_plan, .inr (4, [.int (z4 t_plan_rules), .ref a_t_plan_least, .ref a_t_plan_of, .ref a_t_plan_set, .ref a_t_plan_chances, .int (z4 t_plan_slack), .int (z4 t_plan_limit)])), (a_t_plan_of, .inl (E 0, 3, .inl (A4 t_plan_of))), (a_t_plan_set, .inl (E 0, 3, .inl (A4 t_plan_set))), (a_t_plan_least, .inl (E 0, 3, .inl (A4 t_plan_least))), (a_t_leads, .inl (E 0, 320, .inl (A4 o4))), (a_t_part, .inl (E 0, 64, .inl (A4 o6_0.1))), (a_t_keys, .inl (E 0, 64, .inl (A4 o6_0.2.1))), (a_t_finer, .inl (E 0, 64, .inl (A4 o6_0.2.2))), (a_t_stateOfPart, .inl (E 0, 64, .inl (A4 o10.2.1))), (a_t_pastOfState, .inl (E 0, 64, .inl (A4 o10.2.2.1))), (a_t_steps, .inl (E 0, 320, .inl (A4 o10.2.2.2))), (a_t_away, .inl (E 0, 64, .inl (A4 o11)))] rfl rfl rfl rfl (by decide) rfl rfl rfl cl_X1 lk_X1_90 co_X1_measure dy_X1_measure rfl rfl ⟨Nat.le_of_ble_eq_true rfl, Nat.le_of_ble_eq_true rfl⟩ hl.1 rfl (Nat.le_of_ble_eq_true rfl) dX1_build_66 (Nat.zero_le _) (Nat.zero_le _) (fun H locs hP hD hS => ?_)
    obtain rfl := Option.some.inj hr6
    exact ret _ _ _ _ hP hD hS dX1_build_69
  have E6_1 : ∀ (o_ : (Nat → Int) × (Nat → Int) × (Nat → Int)), o6 = (.inr o_) → ∀ (H : Heap) (locs : List Loc) (ls : Array Slot), lv_has ls 4 [(0, .ref a_t)] → va_P D vwCl [(a_t, .inr (1, [.ref a_t_plan, .int (z4 (min 64 (sl_ 1 o1))), .ref a_t_leads, .ref a_t_part, .ref a_t_finer, .ref a_t_keys, .ref a_t_stateOfPart, .ref a_t_pastOfState, .int (z4 t_states), .ref a_t_steps, .ref a_t_away])), (a_t_plan, .inr (4, [.int (z4 t_plan_rules), .ref a_t_plan_least, .ref a_t_plan_of, .ref a_t_plan_set, .ref a_t_plan_chances, .int (z4 t_plan_slack), .int (z4 t_plan_limit)])), (a_t_plan_of, .inl (E 0, 3, .inl (A4 t_plan_of))), (a_t_plan_set, .inl (E 0, 3, .inl (A4 t_plan_set))), (a_t_plan_least, .inl (E 0, 3, .inl (A4 t_plan_least))), (a_t_leads, .inl (E 0, 320, .inl (A4 o4))), (a_t_part, .inl (E 0, 64, .inl (A4 o_.1))), (a_t_keys, .inl (E 0, 64, .inl (A4 o_.2.1))), (a_t_finer, .inl (E 0, 64, .inl (A4 o_.2.2))), (a_t_stateOfPart, .inl (E 0, 64, .inl (A4 t_stateOfPart))), (a_t_pastOfState, .inl (E 0, 64, .inl (A4 t_pastOfState))), (a_t_steps, .inl (E 0, 320, .inl (A4 t_steps))), (a_t_away, .inl (E 0, 64, .inl (A4 t_away)))] H → va_D A [(a_t, .inr (1, [.ref a_t_plan, .int (z4 (min 64 (sl_ 1 o1))), .ref a_t_leads, .ref a_t_part, .ref a_t_finer, .ref a_t_keys, .ref a_t_stateOfPart, .ref a_t_pastOfState, .int (z4 t_states), .ref a_t_steps, .ref a_t_away])), (a_t_plan, .inr (4, [.int (z4 t_plan_rules), .ref a_t_plan_least, .ref a_t_plan_of, .ref a_t_plan_set, .ref a_t_plan_chances, .int (z4 t_plan_slack), .int (z4 t_plan_limit)])), (a_t_plan_of, .inl (E 0, 3, .inl (A4 t_plan_of))), (a_t_plan_set, .inl (E 0, 3, .inl (A4 t_plan_set))), (a_t_plan_least, .inl (E 0, 3, .inl (A4 t_plan_least))), (a_t_leads, .inl (E 0, 320, .inl (A4 o4))), (a_t_part, .inl (E 0, 64, .inl (A4 o_.1))), (a_t_keys, .inl (E 0, 64, .inl (A4 o_.2.1))), (a_t_finer, .inl (E 0, 64, .inl (A4 o_.2.2))), (a_t_stateOfPart, .inl (E 0, 64, .inl (A4 t_stateOfPart))), (a_t_pastOfState, .inl (E 0, 64, .inl (A4 t_pastOfState))), (a_t_steps, .inl (E 0, 320, .inl (A4 t_steps))), (a_t_away, .inl (E 0, 64, .inl (A4 t_away)))] → va_S A s.heap H locs → W p l e rm_X1_build s m args below meth c H locs 0 0 Q (F0 m 50 ls []) := by
    intro o6_1 ho_ H locs ls hl hP hD hS
    subst ho_
    refine lv_goto (tgt := 61) hx hb dX1_build_50 (by decide) ?_
    refine lv_aload_n hx hb dX1_build_61 rfl (lv_at hl 0 rfl) ?_
    obtain ⟨o12, ho, hr6⟩ := bd_some hr6
    refine m_cVW X hK hP hD hS hA (wr := [(a_t_plan, .inr (4, [.int (z4 t_plan_rules), .ref a_t_plan_least, .ref a_t_plan_of, .ref a_t_plan_set, .ref a_t_plan_chances, .int (z4 t_plan_slack), .int (z4 t_plan_limit)])), (a_t_plan_of, .inl (E 0, 3, .inl (A4 t_plan_of))), (a_t_plan_set, .inl (E 0, 3, .inl (A4 t_plan_set))), (a_t_plan_least, .inl (E 0, 3, .inl (A4 t_plan_least))), (a_t_keys, .inl (E 0, 64, .inl (A4 o6_1.2.1))), (a_t_finer, .inl (E 0, 64, .inl (A4 o6_1.2.2))), (a_t_away, .inl (E 0, 64, .inl (A4 t_away)))]) (k_X1_numberStates n a_t a_t_plan a_t_leads a_t_part a_t_finer a_t_keys a_t_stateOfPart a_t_pastOfState a_t_steps a_t_away (min 64 (sl_ 1 o1)) t_states t_stateOfPart o6_1.1 t_pastOfState o4 t_steps o12 ho) [0, 9, 6, 10, 5, 11] [1, 2, 3, 4, 7, 8, 12] [7, 0, 1, 2, 3, 11, 9, 4, 5, 8, 10, 12, 6] [(a_t, .inr (1, [.ref a_t_plan, .int (z4 (min 64 (sl_ 1 o1))), .ref a_t_leads, .ref a_t_part, .ref a_t_finer, .ref a_t_keys, .ref a_t_stateOfPart, .ref a_t_pastOfState, .int (z4 o12.1), .ref a_t_steps, .ref a_t_away])), (a_t_plan, .inr (4, [.int (z4 t_plan_rules), .ref a_t_plan_least, .ref a_t_plan_of, .ref a_t_plan_set, .ref a_t_plan_chances, .int (z4 t_plan_slack), .int (z4 t_plan_limit)])), (a_t_plan_of, .inl (E 0, 3, .inl (A4 t_plan_of))), (a_t_plan_set, .inl (E 0, 3, .inl (A4 t_plan_set))), (a_t_plan_least, .inl (E 0, 3, .inl (A4 t_plan_least))), (a_t_leads, .inl (E 0, 320, .inl (A4 o4))), (a_t_part, .inl (E 0, 64, .inl (A4 o6_1.1))), (a_t_keys, .inl (E 0, 64, .inl (A4 o6_1.2.1))), (a_t_finer, .inl (E 0, 64, .inl (A4 o6_1.2.2))), (a_t_stateOfPart, .inl (E 0, 64, .inl (A4 o12.2.1))), (a_t_pastOfState, .inl (E 0, 64, .inl (A4 o12.2.2.1))), (a_t_steps, .inl (E 0, 320, .inl (A4 o12.2.2.2))), (a_t_away, .inl (E 0, 64, .inl (A4 t_away)))] rfl rfl rfl rfl (by decide) rfl rfl rfl cl_X1 lk_X1_87 co_X1_numberStates dy_X1_numberStates rfl rfl ⟨Nat.le_of_ble_eq_true rfl, Nat.le_of_ble_eq_true rfl⟩ hl.1 rfl (Nat.le_of_ble_eq_true rfl) dX1_build_62 (Nat.zero_le _) (Nat.zero_le _) (fun H locs hP hD hS => ?_)
    refine lv_aload_n hx hb dX1_build_65 rfl (lv_at hl 0 rfl) ?_
    obtain ⟨o13, ho, hr6⟩ := bd_some hr6
    refine m_cVW X hK hP hD hS hA (wr := [(a_t_plan, .inr (4, [.int (z4 t_plan_rules), .ref a_t_plan_least, .ref a_t_plan_of, .ref a_t_plan_set, .ref a_t_plan_chances, .int (z4 t_plan_slack), .int (z4 t_plan_limit)])), (a_t_plan_of, .inl (E 0, 3, .inl (A4 t_plan_of))), (a_t_plan_set, .inl (E 0, 3, .inl (A4 t_plan_set))), (a_t_plan_least, .inl (E 0, 3, .inl (A4 t_plan_least))), (a_t_leads, .inl (E 0, 320, .inl (A4 o4))), (a_t_part, .inl (E 0, 64, .inl (A4 o6_1.1))), (a_t_keys, .inl (E 0, 64, .inl (A4 o6_1.2.1))), (a_t_finer, .inl (E 0, 64, .inl (A4 o6_1.2.2))), (a_t_stateOfPart, .inl (E 0, 64, .inl (A4 o12.2.1))), (a_t_pastOfState, .inl (E 0, 64, .inl (A4 o12.2.2.1)))]) (k_X1_measure n a_t a_t_plan a_t_leads a_t_part a_t_finer a_t_keys a_t_stateOfPart a_t_pastOfState a_t_steps a_t_away (min 64 (sl_ 1 o1)) o12.1 t_away o12.2.2.2 o13 ho) [0, 12, 11] [1, 2, 3, 4, 5, 6, 7, 8, 9, 10] [10, 0, 1, 2, 3, 4, 5, 6, 7, 8, 9, 12, 11] [(a_t, .inr (1, [.ref a_t_plan, .int (z4 (min 64 (sl_ 1 o1))), .ref a_t_leads, .ref a_t_part, .ref a_t_finer, .ref a_t_keys, .ref a_t_stateOfPart, .ref a_t_pastOfState, .int (z4 o12.1), .ref a_t_steps, .ref a_t_away])), (a_t_plan, .inr (4, [.int (z4 t_plan_rules), .ref a_t_plan_least, .ref a_t_plan_of, .ref a_t_plan_set, .ref a_t_plan_chances, .int (z4 t_plan_slack), .int (z4 t_plan_limit)])), (a_t_plan_of, .inl (E 0, 3, .inl (A4 t_plan_of))), (a_t_plan_set, .inl (E 0, 3, .inl (A4 t_plan_set))), (a_t_plan_least, .inl (E 0, 3, .inl (A4 t_plan_least))), (a_t_leads, .inl (E 0, 320, .inl (A4 o4))), (a_t_part, .inl (E 0, 64, .inl (A4 o6_1.1))), (a_t_keys, .inl (E 0, 64, .inl (A4 o6_1.2.1))), (a_t_finer, .inl (E 0, 64, .inl (A4 o6_1.2.2))), (a_t_stateOfPart, .inl (E 0, 64, .inl (A4 o12.2.1))), (a_t_pastOfState, .inl (E 0, 64, .inl (A4 o12.2.2.1))), (a_t_steps, .inl (E 0, 320, .inl (A4 o12.2.2.2))), (a_t_away, .inl (E 0, 64, .inl (A4 o13)))] rfl rfl rfl rfl (by decide) rfl rfl rfl cl_X1 lk_X1_90 co_X1_measure dy_X1_measure rfl rfl ⟨Nat.le_of_ble_eq_true rfl, Nat.le_of_ble_eq_true rfl⟩ hl.1 rfl (Nat.le_of_ble_eq_true rfl) dX1_build_66 (Nat.zero_le _) (Nat.zero_le _) (fun H locs hP hD hS => ?_)
    obtain rfl := Option.some.inj hr6
    exact ret _ _ _ _ hP hD hS dX1_build_69
  have L6 : ∀ (k_ : Nat) (v34_1 : Int) (v34_2 : Int) (t_part_l34 : Nat → Int) (t_keys_l34 : Nat → Int) (t_finer_l34 : Nat → Int), ∀ (H : Heap) (locs : List Loc) (ls : Array Slot), lv_has ls 4 [(0, .ref a_t), (1, .int (z4 v34_1)), (2, .int (z4 v34_2))] → va_P D vwCl [(a_t, .inr (1, [.ref a_t_plan, .int (z4 (min 64 (sl_ 1 o1))), .ref a_t_leads, .ref a_t_part, .ref a_t_finer, .ref a_t_keys, .ref a_t_stateOfPart, .ref a_t_pastOfState, .int (z4 t_states), .ref a_t_steps, .ref a_t_away])), (a_t_plan, .inr (4, [.int (z4 t_plan_rules), .ref a_t_plan_least, .ref a_t_plan_of, .ref a_t_plan_set, .ref a_t_plan_chances, .int (z4 t_plan_slack), .int (z4 t_plan_limit)])), (a_t_plan_of, .inl (E 0, 3, .inl (A4 t_plan_of))), (a_t_plan_set, .inl (E 0, 3, .inl (A4 t_plan_set))), (a_t_plan_least, .inl (E 0, 3, .inl (A4 t_plan_least))), (a_t_leads, .inl (E 0, 320, .inl (A4 o4))), (a_t_part, .inl (E 0, 64, .inl (A4 t_part_l34))), (a_t_keys, .inl (E 0, 64, .inl (A4 t_keys_l34))), (a_t_finer, .inl (E 0, 64, .inl (A4 t_finer_l34))), (a_t_stateOfPart, .inl (E 0, 64, .inl (A4 t_stateOfPart))), (a_t_pastOfState, .inl (E 0, 64, .inl (A4 t_pastOfState))), (a_t_steps, .inl (E 0, 320, .inl (A4 t_steps))), (a_t_away, .inl (E 0, 64, .inl (A4 t_away)))] H → va_D A [(a_t, .inr (1, [.ref a_t_plan, .int (z4 (min 64 (sl_ 1 o1))), .ref a_t_leads, .ref a_t_part, .ref a_t_finer, .ref a_t_keys, .ref a_t_stateOfPart, .ref a_t_pastOfState, .int (z4 t_states), .ref a_t_steps, .ref a_t_away])), (a_t_plan, .inr (4, [.int (z4 t_plan_rules), .ref a_t_plan_least, .ref a_t_plan_of, .ref a_t_plan_set, .ref a_t_plan_chances, .int (z4 t_plan_slack), .int (z4 t_plan_limit)])), (a_t_plan_of, .inl (E 0, 3, .inl (A4 t_plan_of))), (a_t_plan_set, .inl (E 0, 3, .inl (A4 t_plan_set))), (a_t_plan_least, .inl (E 0, 3, .inl (A4 t_plan_least))), (a_t_leads, .inl (E 0, 320, .inl (A4 o4))), (a_t_part, .inl (E 0, 64, .inl (A4 t_part_l34))), (a_t_keys, .inl (E 0, 64, .inl (A4 t_keys_l34))), (a_t_finer, .inl (E 0, 64, .inl (A4 t_finer_l34))), (a_t_stateOfPart, .inl (E 0, 64, .inl (A4 t_stateOfPart))), (a_t_pastOfState, .inl (E 0, 64, .inl (A4 t_pastOfState))), (a_t_steps, .inl (E 0, 320, .inl (A4 t_steps))), (a_t_away, .inl (E 0, 64, .inl (A4 t_away)))] → va_S A s.heap H locs → lp_ (fun (q : Int × Int × (Nat → Int) × (Nat → Int) × (Nat → Int)) => F_X1_build_L34 n o1 o4 q.1 q.2.1 q.2.2.1 q.2.2.2.1 q.2.2.2.2) k_ (v34_1, v34_2, t_part_l34, t_keys_l34, t_finer_l34) = some o6 → W p l e rm_X1_build s m args below meth c H locs 0 0 Q (F0 m 34 ls []) := by
    intro k_
    induction k_ with
    | zero =>
      intro v34_1 v34_2 t_part_l34 t_keys_l34 t_finer_l34 H locs ls hl hP hD hS hq_; exact (lp_zero hq_).elim
    | succ k_ ih6 =>
      intro v34_1 v34_2 t_part_l34 t_keys_l34 t_finer_l34 H locs ls hl hP hD hS hq_
      obtain ⟨t_6, hb6, hq6⟩ := lp_some hq_
      replace hb6 : F_X1_build_L34 n o1 o4 v34_1 v34_2 t_part_l34 t_keys_l34 t_finer_l34 = some t_6 := hb6
      unfold F_X1_build_L34 at hb6
      refine lv_iload_n hx hb dX1_build_34 rfl (lv_at hl 2 rfl) ?_
      refine m_bipush X dX1_build_35 (by decide) ?_
      obtain ⟨h7, hb6⟩ := ck_some hb6
      refine m_icmp_ge X ⟨h7, ⟨by decide, by decide⟩⟩ dX1_build_37 (tgt := 61) (by decide) (fun (hc_ : ¬ (v34_2 < 64)) => ?_) (fun (hc_ : v34_2 < 64) => ?_)
      · rw [if_neg hc_] at hb6
        obtain rfl := Option.some.inj hb6
        exact E6_0 _ (Option.some.inj hq6).symm _ _ _ (lv_sub hl [0] rfl) hP hD hS
      · rw [if_pos hc_] at hb6
        refine lv_aload_n hx hb dX1_build_40 rfl (lv_at hl 0 rfl) ?_
        obtain ⟨o8, ho, hb6⟩ := bd_some hb6
        refine m_cVW X hK hP hD hS hA (wr := [(a_t_plan, .inr (4, [.int (z4 t_plan_rules), .ref a_t_plan_least, .ref a_t_plan_of, .ref a_t_plan_set, .ref a_t_plan_chances, .int (z4 t_plan_slack), .int (z4 t_plan_limit)])), (a_t_plan_of, .inl (E 0, 3, .inl (A4 t_plan_of))), (a_t_plan_set, .inl (E 0, 3, .inl (A4 t_plan_set))), (a_t_plan_least, .inl (E 0, 3, .inl (A4 t_plan_least))), (a_t_stateOfPart, .inl (E 0, 64, .inl (A4 t_stateOfPart))), (a_t_pastOfState, .inl (E 0, 64, .inl (A4 t_pastOfState))), (a_t_steps, .inl (E 0, 320, .inl (A4 t_steps))), (a_t_away, .inl (E 0, 64, .inl (A4 t_away)))]) (k_X1_split n a_t a_t_plan a_t_leads a_t_part a_t_finer a_t_keys a_t_stateOfPart a_t_pastOfState a_t_steps a_t_away (min 64 (sl_ 1 o1)) t_states o4 t_part_l34 t_keys_l34 t_finer_l34 o8 ho) [0, 5, 6, 7, 8] [1, 2, 3, 4, 9, 10, 11, 12] [8, 0, 1, 2, 3, 9, 10, 11, 12, 4, 5, 6, 7] [(a_t, .inr (1, [.ref a_t_plan, .int (z4 (min 64 (sl_ 1 o1))), .ref a_t_leads, .ref a_t_part, .ref a_t_finer, .ref a_t_keys, .ref a_t_stateOfPart, .ref a_t_pastOfState, .int (z4 t_states), .ref a_t_steps, .ref a_t_away])), (a_t_plan, .inr (4, [.int (z4 t_plan_rules), .ref a_t_plan_least, .ref a_t_plan_of, .ref a_t_plan_set, .ref a_t_plan_chances, .int (z4 t_plan_slack), .int (z4 t_plan_limit)])), (a_t_plan_of, .inl (E 0, 3, .inl (A4 t_plan_of))), (a_t_plan_set, .inl (E 0, 3, .inl (A4 t_plan_set))), (a_t_plan_least, .inl (E 0, 3, .inl (A4 t_plan_least))), (a_t_leads, .inl (E 0, 320, .inl (A4 o4))), (a_t_part, .inl (E 0, 64, .inl (A4 o8.2.1))), (a_t_keys, .inl (E 0, 64, .inl (A4 o8.2.2.1))), (a_t_finer, .inl (E 0, 64, .inl (A4 o8.2.2.2))), (a_t_stateOfPart, .inl (E 0, 64, .inl (A4 t_stateOfPart))), (a_t_pastOfState, .inl (E 0, 64, .inl (A4 t_pastOfState))), (a_t_steps, .inl (E 0, 320, .inl (A4 t_steps))), (a_t_away, .inl (E 0, 64, .inl (A4 t_away)))] rfl rfl rfl rfl (by decide) rfl rfl rfl cl_X1 lk_X1_84 co_X1_split dy_X1_split rfl rfl ⟨Nat.le_of_ble_eq_true rfl, Nat.le_of_ble_eq_true rfl⟩ hl.1 rfl (Nat.le_of_ble_eq_true rfl) dX1_build_41 (Nat.zero_le _) (Nat.zero_le _) (fun H locs hP hD hS => ?_)
        refine lv_istore_n (lv' := [(3, .int (z4 o8.1)), (0, .ref a_t), (1, .int (z4 v34_1)), (2, .int (z4 v34_2))]) hx hb dX1_build_44 rfl hl (by decide) rfl (fun ls hl => ?_)
        refine lv_iload_n hx hb dX1_build_45 rfl (lv_at hl 0 rfl) ?_
        refine lv_iload_n hx hb dX1_build_46 rfl (lv_at hl 2 rfl) ?_
        obtain ⟨h9, hb6⟩ := ck_some hb6
        refine m_icmp_ne X h9 dX1_build_47 (tgt := 53) (by decide) (fun (hc_ : ¬ (o8.1 = v34_1)) => ?_) (fun (hc_ : o8.1 = v34_1) => ?_)
        · rw [if_neg hc_] at hb6
          refine lv_iload_n hx hb dX1_build_53 rfl (lv_at hl 0 rfl) ?_
          refine lv_istore_n (lv' := [(1, .int (z4 o8.1)), (3, .int (z4 o8.1)), (0, .ref a_t), (2, .int (z4 v34_2))]) hx hb dX1_build_54 rfl hl (by decide) rfl (fun ls hl => ?_)
          refine m_iinc X 3 [(2, .int (z4 (v34_2 + 1))), (1, .int (z4 o8.1)), (3, .int (z4 o8.1)), (0, .ref a_t)] dX1_build_55 hl rfl (by decide) rfl (fun ls hl => ?_)
          refine lv_goto (tgt := 34) hx hb dX1_build_58 (by decide) ?_
          obtain rfl := Option.some.inj hb6
          exact ih6 _ _ _ _ _ _ _ _ (lv_sub hl [3, 1, 0] rfl) hP hD hS hq6
        · rw [if_pos hc_] at hb6
          obtain rfl := Option.some.inj hb6
          exact E6_1 _ (Option.some.inj hq6).symm _ _ _ (lv_sub hl [1] rfl) hP hD hS
  exact L6 n _ _ _ _ _ _ _ _ (lv_sub hl [2, 1, 0] rfl) hP hD hS hj6
def F_X1_fit (n : Nat)  (t_pasts : Int) (t_states : Int) (t_plan_rules : Int) (t_plan_slack : Int) (t_plan_limit : Int) (p1_rules : Int) (p1_slack : Int) (p1_limit : Int) (t_plan_least : Nat → Int) (p1_least : Nat → Int) (t_plan_of : Nat → Int) (p1_of : Nat → Int) (t_plan_set : Nat → Int) (p1_set : Nat → Int) (p1_chances : Nat → Int) (t_plan_chances : Nat → Int) (t_leads : Nat → Int) (t_part : Nat → Int) (t_keys : Nat → Int) (t_finer : Nat → Int) (t_stateOfPart : Nat → Int) (t_pastOfState : Nat → Int) (t_steps : Nat → Int) (t_away : Nat → Int)  : Option (Int × Int × Int × Int × Int × (Nat → Int) × (Nat → Int) × (Nat → Int) × (Nat → Int) × (Nat → Int) × (Nat → Int) × (Nat → Int) × (Nat → Int) × (Nat → Int) × (Nat → Int) × (Nat → Int) × (Nat → Int)) :=
  (F_X4_hasRulesOf n t_plan_rules p1_rules t_plan_least p1_least t_plan_of p1_of t_plan_set p1_set).bind fun o1 =>
  Option.bind (α := Int × Int × Int × Int × Int × (Nat → Int) × (Nat → Int) × (Nat → Int) × (Nat → Int) × (Nat → Int) × (Nat → Int) × (Nat → Int) × (Nat → Int) × (Nat → Int) × (Nat → Int) × (Nat → Int) × (Nat → Int)) (
    ck (r4 o1) <|
    if o1 = 0 then
      (F_X4_take n p1_rules p1_slack p1_limit p1_least t_plan_least p1_of t_plan_of p1_set t_plan_set p1_chances t_plan_chances).bind fun o4 =>
      (F_X1_build n o4.1 o4.2.2.2.2.1 o4.2.2.2.2.2.1 o4.2.2.2.1 t_leads t_part t_keys t_finer t_stateOfPart t_pastOfState t_steps t_away).bind fun o5 =>
      some (o5.1, o5.2.1, o4.1, o4.2.1, o4.2.2.1, o4.2.2.2.1, o4.2.2.2.2.1, o4.2.2.2.2.2.1, o4.2.2.2.2.2.2, o5.2.2.1, o5.2.2.2.1, o5.2.2.2.2.1, o5.2.2.2.2.2.1, o5.2.2.2.2.2.2.1, o5.2.2.2.2.2.2.2.1, o5.2.2.2.2.2.2.2.2.1, o5.2.2.2.2.2.2.2.2.2)
    else
      some (t_pasts, t_states, t_plan_rules, t_plan_slack, t_plan_limit, t_plan_least, t_plan_of, t_plan_set, t_plan_chances, t_leads, t_part, t_keys, t_finer, t_stateOfPart, t_pastOfState, t_steps, t_away)) fun o2 =>
  some (o2.1, o2.2.1, o2.2.2.1, o2.2.2.2.1, o2.2.2.2.2.1, o2.2.2.2.2.2.1, o2.2.2.2.2.2.2.1, o2.2.2.2.2.2.2.2.1, o2.2.2.2.2.2.2.2.2.1, o2.2.2.2.2.2.2.2.2.2.1, o2.2.2.2.2.2.2.2.2.2.2.1, o2.2.2.2.2.2.2.2.2.2.2.2.1, o2.2.2.2.2.2.2.2.2.2.2.2.2.1, o2.2.2.2.2.2.2.2.2.2.2.2.2.2.1, o2.2.2.2.2.2.2.2.2.2.2.2.2.2.2.1, o2.2.2.2.2.2.2.2.2.2.2.2.2.2.2.2.1, o2.2.2.2.2.2.2.2.2.2.2.2.2.2.2.2.2)
def rm_X1_fit : Room := { frames := 4, cells := 0, slots := 0, locals := 96 }
set_option maxHeartbeats 4000000 in
set_option maxRecDepth 100000 in
theorem k_X1_fit {l : Launch} {D : va_G} {E : Nat → ClassId} (n : Nat) (a_t a_t_plan a_t_leads a_t_part a_t_finer a_t_keys a_t_stateOfPart a_t_pastOfState a_t_steps a_t_away a_t_plan_least a_t_plan_of a_t_plan_set a_t_plan_chances a_p1 a_p1_least a_p1_of a_p1_set a_p1_chances : Nat) (t_pasts : Int) (t_states : Int) (t_plan_rules : Int) (t_plan_slack : Int) (t_plan_limit : Int) (p1_rules : Int) (p1_slack : Int) (p1_limit : Int) (t_plan_least : Nat → Int) (p1_least : Nat → Int) (t_plan_of : Nat → Int) (p1_of : Nat → Int) (t_plan_set : Nat → Int) (p1_set : Nat → Int) (p1_chances : Nat → Int) (t_plan_chances : Nat → Int) (t_leads : Nat → Int) (t_part : Nat → Int) (t_keys : Nat → Int) (t_finer : Nat → Int) (t_stateOfPart : Nat → Int) (t_pastOfState : Nat → Int) (t_steps : Nat → Int) (t_away : Nat → Int) (res : Int × Int × Int × Int × Int × (Nat → Int) × (Nat → Int) × (Nat → Int) × (Nat → Int) × (Nat → Int) × (Nat → Int) × (Nat → Int) × (Nat → Int) × (Nat → Int) × (Nat → Int) × (Nat → Int) × (Nat → Int)) (hf : F_X1_fit n t_pasts t_states t_plan_rules t_plan_slack t_plan_limit p1_rules p1_slack p1_limit t_plan_least p1_least t_plan_of p1_of t_plan_set p1_set p1_chances t_plan_chances t_leads t_part t_keys t_finer t_stateOfPart t_pastOfState t_steps t_away = some res) : MW l yX1_fit (.code yX1_fit cX1_fit 2 none) rm_X1_fit D E [.ref a_t, .ref a_p1] [(a_t, .inr (1, [.ref a_t_plan, .int (z4 t_pasts), .ref a_t_leads, .ref a_t_part, .ref a_t_finer, .ref a_t_keys, .ref a_t_stateOfPart, .ref a_t_pastOfState, .int (z4 t_states), .ref a_t_steps, .ref a_t_away])), (a_t_plan, .inr (4, [.int (z4 t_plan_rules), .ref a_t_plan_least, .ref a_t_plan_of, .ref a_t_plan_set, .ref a_t_plan_chances, .int (z4 t_plan_slack), .int (z4 t_plan_limit)])), (a_p1, .inr (4, [.int (z4 p1_rules), .ref a_p1_least, .ref a_p1_of, .ref a_p1_set, .ref a_p1_chances, .int (z4 p1_slack), .int (z4 p1_limit)])), (a_t_plan_least, .inl (E 0, 3, .inl (A4 t_plan_least))), (a_p1_least, .inl (E 0, 3, .inl (A4 p1_least))), (a_t_plan_of, .inl (E 0, 3, .inl (A4 t_plan_of))), (a_p1_of, .inl (E 0, 3, .inl (A4 p1_of))), (a_t_plan_set, .inl (E 0, 3, .inl (A4 t_plan_set))), (a_p1_set, .inl (E 0, 3, .inl (A4 p1_set))), (a_p1_chances, .inl (E 0, 5, .inl (A4 p1_chances))), (a_t_plan_chances, .inl (E 0, 5, .inl (A4 t_plan_chances))), (a_t_leads, .inl (E 0, 320, .inl (A4 t_leads))), (a_t_part, .inl (E 0, 64, .inl (A4 t_part))), (a_t_keys, .inl (E 0, 64, .inl (A4 t_keys))), (a_t_finer, .inl (E 0, 64, .inl (A4 t_finer))), (a_t_stateOfPart, .inl (E 0, 64, .inl (A4 t_stateOfPart))), (a_t_pastOfState, .inl (E 0, 64, .inl (A4 t_pastOfState))), (a_t_steps, .inl (E 0, 320, .inl (A4 t_steps))), (a_t_away, .inl (E 0, 64, .inl (A4 t_away)))] none [(a_t, .inr (1, [.ref a_t_plan, .int (z4 res.1), .ref a_t_leads, .ref a_t_part, .ref a_t_finer, .ref a_t_keys, .ref a_t_stateOfPart, .ref a_t_pastOfState, .int (z4 res.2.1), .ref a_t_steps, .ref a_t_away])), (a_t_plan, .inr (4, [.int (z4 res.2.2.1), .ref a_t_plan_least, .ref a_t_plan_of, .ref a_t_plan_set, .ref a_t_plan_chances, .int (z4 res.2.2.2.1), .int (z4 res.2.2.2.2.1)])), (a_p1, .inr (4, [.int (z4 p1_rules), .ref a_p1_least, .ref a_p1_of, .ref a_p1_set, .ref a_p1_chances, .int (z4 p1_slack), .int (z4 p1_limit)])), (a_t_plan_least, .inl (E 0, 3, .inl (A4 res.2.2.2.2.2.1))), (a_p1_least, .inl (E 0, 3, .inl (A4 p1_least))), (a_t_plan_of, .inl (E 0, 3, .inl (A4 res.2.2.2.2.2.2.1))), (a_p1_of, .inl (E 0, 3, .inl (A4 p1_of))), (a_t_plan_set, .inl (E 0, 3, .inl (A4 res.2.2.2.2.2.2.2.1))), (a_p1_set, .inl (E 0, 3, .inl (A4 p1_set))), (a_p1_chances, .inl (E 0, 5, .inl (A4 p1_chances))), (a_t_plan_chances, .inl (E 0, 5, .inl (A4 res.2.2.2.2.2.2.2.2.1))), (a_t_leads, .inl (E 0, 320, .inl (A4 res.2.2.2.2.2.2.2.2.2.1))), (a_t_part, .inl (E 0, 64, .inl (A4 res.2.2.2.2.2.2.2.2.2.2.1))), (a_t_keys, .inl (E 0, 64, .inl (A4 res.2.2.2.2.2.2.2.2.2.2.2.1))), (a_t_finer, .inl (E 0, 64, .inl (A4 res.2.2.2.2.2.2.2.2.2.2.2.2.1))), (a_t_stateOfPart, .inl (E 0, 64, .inl (A4 res.2.2.2.2.2.2.2.2.2.2.2.2.2.1))), (a_t_pastOfState, .inl (E 0, 64, .inl (A4 res.2.2.2.2.2.2.2.2.2.2.2.2.2.2.1))), (a_t_steps, .inl (E 0, 320, .inl (A4 res.2.2.2.2.2.2.2.2.2.2.2.2.2.2.2.1))), (a_t_away, .inl (E 0, 64, .inl (A4 res.2.2.2.2.2.2.2.2.2.2.2.2.2.2.2.2)))] := by
  refine MWv (by decide) (Nat.le_of_ble_eq_true rfl) ?_
  intro p e s m args below meth c A Q X hK hP hD hA ret ls hl
  have hS : va_S A s.heap s.heap [] := va_S.rf
  have hx := X.1
  have hb := X.2.1
  have hl : lv_has ls 2 [(0, .ref a_t), (1, .ref a_p1)] := hl
  unfold F_X1_fit at hf
  refine lv_aload_n hx hb dX1_fit_0 rfl (lv_at hl 0 rfl) ?_
  refine m_get X hK hP cl_X1 iT_X1 0 (by decide) fl_X1_12 0 rfl rfl dX1_fit_1 ?_
  refine lv_aload_n hx hb dX1_fit_4 rfl (lv_at hl 1 rfl) ?_
  obtain ⟨o1, ho, hf⟩ := bd_some hf
  refine m_cVR X hK (k_X4_hasRulesOf n a_t_plan a_t_plan_least a_t_plan_of a_t_plan_set a_t_plan_chances a_p1 a_p1_least a_p1_of a_p1_set a_p1_chances t_plan_rules t_plan_slack t_plan_limit p1_rules p1_slack p1_limit t_plan_least p1_least t_plan_of p1_of t_plan_set p1_set o1 ho) (hP.sub [1, 2, 3, 4, 5, 6, 7, 8] rfl) rfl cl_X4 lk_X1_46 co_X4_hasRulesOf dy_X4_hasRulesOf rfl rfl ⟨Nat.le_of_ble_eq_true rfl, Nat.le_of_ble_eq_true rfl⟩ hl.1 rfl (Nat.le_of_ble_eq_true rfl) dX1_fit_5 (Nat.zero_le _) (Nat.zero_le _) ?_
  obtain ⟨o2, hj2, hr2⟩ := bd_some hf
  have J2 : ∀ (o_ : Int × Int × Int × Int × Int × (Nat → Int) × (Nat → Int) × (Nat → Int) × (Nat → Int) × (Nat → Int) × (Nat → Int) × (Nat → Int) × (Nat → Int) × (Nat → Int) × (Nat → Int) × (Nat → Int) × (Nat → Int)), o2 = o_ → ∀ (H : Heap) (locs : List Loc) (ls : Array Slot), lv_has ls 2 [] → va_P D vwCl [(a_t, .inr (1, [.ref a_t_plan, .int (z4 o_.1), .ref a_t_leads, .ref a_t_part, .ref a_t_finer, .ref a_t_keys, .ref a_t_stateOfPart, .ref a_t_pastOfState, .int (z4 o_.2.1), .ref a_t_steps, .ref a_t_away])), (a_t_plan, .inr (4, [.int (z4 o_.2.2.1), .ref a_t_plan_least, .ref a_t_plan_of, .ref a_t_plan_set, .ref a_t_plan_chances, .int (z4 o_.2.2.2.1), .int (z4 o_.2.2.2.2.1)])), (a_p1, .inr (4, [.int (z4 p1_rules), .ref a_p1_least, .ref a_p1_of, .ref a_p1_set, .ref a_p1_chances, .int (z4 p1_slack), .int (z4 p1_limit)])), (a_t_plan_least, .inl (E 0, 3, .inl (A4 o_.2.2.2.2.2.1))), (a_p1_least, .inl (E 0, 3, .inl (A4 p1_least))), (a_t_plan_of, .inl (E 0, 3, .inl (A4 o_.2.2.2.2.2.2.1))), (a_p1_of, .inl (E 0, 3, .inl (A4 p1_of))), (a_t_plan_set, .inl (E 0, 3, .inl (A4 o_.2.2.2.2.2.2.2.1))), (a_p1_set, .inl (E 0, 3, .inl (A4 p1_set))), (a_p1_chances, .inl (E 0, 5, .inl (A4 p1_chances))), (a_t_plan_chances, .inl (E 0, 5, .inl (A4 o_.2.2.2.2.2.2.2.2.1))), (a_t_leads, .inl (E 0, 320, .inl (A4 o_.2.2.2.2.2.2.2.2.2.1))), (a_t_part, .inl (E 0, 64, .inl (A4 o_.2.2.2.2.2.2.2.2.2.2.1))), (a_t_keys, .inl (E 0, 64, .inl (A4 o_.2.2.2.2.2.2.2.2.2.2.2.1))), (a_t_finer, .inl (E 0, 64, .inl (A4 o_.2.2.2.2.2.2.2.2.2.2.2.2.1))), (a_t_stateOfPart, .inl (E 0, 64, .inl (A4 o_.2.2.2.2.2.2.2.2.2.2.2.2.2.1))), (a_t_pastOfState, .inl (E 0, 64, .inl (A4 o_.2.2.2.2.2.2.2.2.2.2.2.2.2.2.1))), (a_t_steps, .inl (E 0, 320, .inl (A4 o_.2.2.2.2.2.2.2.2.2.2.2.2.2.2.2.1))), (a_t_away, .inl (E 0, 64, .inl (A4 o_.2.2.2.2.2.2.2.2.2.2.2.2.2.2.2.2)))] H → va_D A [(a_t, .inr (1, [.ref a_t_plan, .int (z4 o_.1), .ref a_t_leads, .ref a_t_part, .ref a_t_finer, .ref a_t_keys, .ref a_t_stateOfPart, .ref a_t_pastOfState, .int (z4 o_.2.1), .ref a_t_steps, .ref a_t_away])), (a_t_plan, .inr (4, [.int (z4 o_.2.2.1), .ref a_t_plan_least, .ref a_t_plan_of, .ref a_t_plan_set, .ref a_t_plan_chances, .int (z4 o_.2.2.2.1), .int (z4 o_.2.2.2.2.1)])), (a_p1, .inr (4, [.int (z4 p1_rules), .ref a_p1_least, .ref a_p1_of, .ref a_p1_set, .ref a_p1_chances, .int (z4 p1_slack), .int (z4 p1_limit)])), (a_t_plan_least, .inl (E 0, 3, .inl (A4 o_.2.2.2.2.2.1))), (a_p1_least, .inl (E 0, 3, .inl (A4 p1_least))), (a_t_plan_of, .inl (E 0, 3, .inl (A4 o_.2.2.2.2.2.2.1))), (a_p1_of, .inl (E 0, 3, .inl (A4 p1_of))), (a_t_plan_set, .inl (E 0, 3, .inl (A4 o_.2.2.2.2.2.2.2.1))), (a_p1_set, .inl (E 0, 3, .inl (A4 p1_set))), (a_p1_chances, .inl (E 0, 5, .inl (A4 p1_chances))), (a_t_plan_chances, .inl (E 0, 5, .inl (A4 o_.2.2.2.2.2.2.2.2.1))), (a_t_leads, .inl (E 0, 320, .inl (A4 o_.2.2.2.2.2.2.2.2.2.1))), (a_t_part, .inl (E 0, 64, .inl (A4 o_.2.2.2.2.2.2.2.2.2.2.1))), (a_t_keys, .inl (E 0, 64, .inl (A4 o_.2.2.2.2.2.2.2.2.2.2.2.1))), (a_t_finer, .inl (E 0, 64, .inl (A4 o_.2.2.2.2.2.2.2.2.2.2.2.2.1))), (a_t_stateOfPart, .inl (E 0, 64, .inl (A4 o_.2.2.2.2.2.2.2.2.2.2.2.2.2.1))), (a_t_pastOfState, .inl (E 0, 64, .inl (A4 o_.2.2.2.2.2.2.2.2.2.2.2.2.2.2.1))), (a_t_steps, .inl (E 0, 320, .inl (A4 o_.2.2.2.2.2.2.2.2.2.2.2.2.2.2.2.1))), (a_t_away, .inl (E 0, 64, .inl (A4 o_.2.2.2.2.2.2.2.2.2.2.2.2.2.2.2.2)))] → va_S A s.heap H locs → W p l e rm_X1_fit s m args below meth c H locs 0 0 Q (F0 m 23 ls []) := by
    intro o_ ho_ H locs ls hl hP hD hS
    subst ho_
    obtain rfl := Option.some.inj hr2
    exact ret _ _ _ _ hP hD hS dX1_fit_23
  obtain ⟨h3, hj2⟩ := ck_some hj2
  refine m_if_ne X h3 dX1_fit_8 (tgt := 23) (by decide) (fun (hc_ : ¬ (o1 = 0)) => ?_) (fun (hc_ : o1 = 0) => ?_)
  · rw [if_neg hc_] at hj2
    exact J2 _ (Option.some.inj hj2).symm _ _ _ (lv_sub hl [] rfl) hP hD hS
  · rw [if_pos hc_] at hj2
    refine lv_aload_n hx hb dX1_fit_11 rfl (lv_at hl 0 rfl) ?_
    refine m_get X hK hP cl_X1 iT_X1 0 (by decide) fl_X1_12 0 rfl rfl dX1_fit_12 ?_
    refine lv_aload_n hx hb dX1_fit_15 rfl (lv_at hl 1 rfl) ?_
    obtain ⟨o4, ho, hj2⟩ := bd_some hj2
    refine m_cVW X hK hP hD hS hA (wr := [(a_t, .inr (1, [.ref a_t_plan, .int (z4 t_pasts), .ref a_t_leads, .ref a_t_part, .ref a_t_finer, .ref a_t_keys, .ref a_t_stateOfPart, .ref a_t_pastOfState, .int (z4 t_states), .ref a_t_steps, .ref a_t_away])), (a_t_leads, .inl (E 0, 320, .inl (A4 t_leads))), (a_t_part, .inl (E 0, 64, .inl (A4 t_part))), (a_t_keys, .inl (E 0, 64, .inl (A4 t_keys))), (a_t_finer, .inl (E 0, 64, .inl (A4 t_finer))), (a_t_stateOfPart, .inl (E 0, 64, .inl (A4 t_stateOfPart))), (a_t_pastOfState, .inl (E 0, 64, .inl (A4 t_pastOfState))), (a_t_steps, .inl (E 0, 320, .inl (A4 t_steps))), (a_t_away, .inl (E 0, 64, .inl (A4 t_away)))]) (k_X4_take n a_t_plan a_t_plan_least a_t_plan_of a_t_plan_set a_t_plan_chances a_p1 a_p1_least a_p1_of a_p1_set a_p1_chances t_plan_rules t_plan_slack t_plan_limit p1_rules p1_slack p1_limit p1_least t_plan_least p1_of t_plan_of p1_set t_plan_set p1_chances t_plan_chances o4 ho) [1, 2, 4, 3, 6, 5, 8, 7, 9, 10] [0, 11, 12, 13, 14, 15, 16, 17, 18] [0, 9, 10, 12, 11, 14, 13, 16, 15, 17, 18, 1, 2, 3, 4, 5, 6, 7, 8] [(a_t, .inr (1, [.ref a_t_plan, .int (z4 t_pasts), .ref a_t_leads, .ref a_t_part, .ref a_t_finer, .ref a_t_keys, .ref a_t_stateOfPart, .ref a_t_pastOfState, .int (z4 t_states), .ref a_t_steps, .ref a_t_away])), (a_t_plan, .inr (4, [.int (z4 o4.1), .ref a_t_plan_least, .ref a_t_plan_of, .ref a_t_plan_set, .ref a_t_plan_chances, .int (z4 o4.2.1), .int (z4 o4.2.2.1)])), (a_p1, .inr (4, [.int (z4 p1_rules), .ref a_p1_least, .ref a_p1_of, .ref a_p1_set, .ref a_p1_chances, .int (z4 p1_slack), .int (z4 p1_limit)])), (a_t_plan_least, .inl (E 0, 3, .inl (A4 o4.2.2.2.1))), (a_p1_least, .inl (E 0, 3, .inl (A4 p1_least))), (a_t_plan_of, .inl (E 0, 3, .inl (A4 o4.2.2.2.2.1))), (a_p1_of, .inl (E 0, 3, .inl (A4 p1_of))), (a_t_plan_set, .inl (E 0, 3, .inl (A4 o4.2.2.2.2.2.1))), (a_p1_set, .inl (E 0, 3, .inl (A4 p1_set))), (a_p1_chances, .inl (E 0, 5, .inl (A4 p1_chances))), (a_t_plan_chances, .inl (E 0, 5, .inl (A4 o4.2.2.2.2.2.2))), (a_t_leads, .inl (E 0, 320, .inl (A4 t_leads))), (a_t_part, .inl (E 0, 64, .inl (A4 t_part))), (a_t_keys, .inl (E 0, 64, .inl (A4 t_keys))), (a_t_finer, .inl (E 0, 64, .inl (A4 t_finer))), (a_t_stateOfPart, .inl (E 0, 64, .inl (A4 t_stateOfPart))), (a_t_pastOfState, .inl (E 0, 64, .inl (A4 t_pastOfState))), (a_t_steps, .inl (E 0, 320, .inl (A4 t_steps))), (a_t_away, .inl (E 0, 64, .inl (A4 t_away)))] rfl rfl rfl rfl (by decide) rfl rfl rfl cl_X4 lk_X1_50 co_X4_take dy_X4_take rfl rfl ⟨Nat.le_of_ble_eq_true rfl, Nat.le_of_ble_eq_true rfl⟩ hl.1 rfl (Nat.le_of_ble_eq_true rfl) dX1_fit_16 (Nat.zero_le _) (Nat.zero_le _) (fun H locs hP hD hS => ?_)
    refine lv_aload_n hx hb dX1_fit_19 rfl (lv_at hl 0 rfl) ?_
    obtain ⟨o5, ho, hj2⟩ := bd_some hj2
    refine m_cVW X hK hP hD hS hA (wr := [(a_p1, .inr (4, [.int (z4 p1_rules), .ref a_p1_least, .ref a_p1_of, .ref a_p1_set, .ref a_p1_chances, .int (z4 p1_slack), .int (z4 p1_limit)])), (a_p1_least, .inl (E 0, 3, .inl (A4 p1_least))), (a_p1_of, .inl (E 0, 3, .inl (A4 p1_of))), (a_p1_set, .inl (E 0, 3, .inl (A4 p1_set))), (a_p1_chances, .inl (E 0, 5, .inl (A4 p1_chances))), (a_t_plan_chances, .inl (E 0, 5, .inl (A4 o4.2.2.2.2.2.2)))]) (k_X1_build n a_t a_t_plan a_t_leads a_t_part a_t_finer a_t_keys a_t_stateOfPart a_t_pastOfState a_t_steps a_t_away a_t_plan_least a_t_plan_of a_t_plan_set a_t_plan_chances t_pasts t_states o4.1 o4.2.1 o4.2.2.1 o4.2.2.2.2.1 o4.2.2.2.2.2.1 o4.2.2.2.1 t_leads t_part t_keys t_finer t_stateOfPart t_pastOfState t_steps t_away o5 ho) [0, 1, 5, 7, 3, 11, 12, 13, 14, 15, 16, 17, 18] [2, 4, 6, 8, 9, 10] [6, 7, 0, 10, 1, 8, 2, 9, 3, 4, 5, 11, 12, 13, 14, 15, 16, 17, 18] [(a_t, .inr (1, [.ref a_t_plan, .int (z4 o5.1), .ref a_t_leads, .ref a_t_part, .ref a_t_finer, .ref a_t_keys, .ref a_t_stateOfPart, .ref a_t_pastOfState, .int (z4 o5.2.1), .ref a_t_steps, .ref a_t_away])), (a_t_plan, .inr (4, [.int (z4 o4.1), .ref a_t_plan_least, .ref a_t_plan_of, .ref a_t_plan_set, .ref a_t_plan_chances, .int (z4 o4.2.1), .int (z4 o4.2.2.1)])), (a_p1, .inr (4, [.int (z4 p1_rules), .ref a_p1_least, .ref a_p1_of, .ref a_p1_set, .ref a_p1_chances, .int (z4 p1_slack), .int (z4 p1_limit)])), (a_t_plan_least, .inl (E 0, 3, .inl (A4 o4.2.2.2.1))), (a_p1_least, .inl (E 0, 3, .inl (A4 p1_least))), (a_t_plan_of, .inl (E 0, 3, .inl (A4 o4.2.2.2.2.1))), (a_p1_of, .inl (E 0, 3, .inl (A4 p1_of))), (a_t_plan_set, .inl (E 0, 3, .inl (A4 o4.2.2.2.2.2.1))), (a_p1_set, .inl (E 0, 3, .inl (A4 p1_set))), (a_p1_chances, .inl (E 0, 5, .inl (A4 p1_chances))), (a_t_plan_chances, .inl (E 0, 5, .inl (A4 o4.2.2.2.2.2.2))), (a_t_leads, .inl (E 0, 320, .inl (A4 o5.2.2.1))), (a_t_part, .inl (E 0, 64, .inl (A4 o5.2.2.2.1))), (a_t_keys, .inl (E 0, 64, .inl (A4 o5.2.2.2.2.1))), (a_t_finer, .inl (E 0, 64, .inl (A4 o5.2.2.2.2.2.1))), (a_t_stateOfPart, .inl (E 0, 64, .inl (A4 o5.2.2.2.2.2.2.1))), (a_t_pastOfState, .inl (E 0, 64, .inl (A4 o5.2.2.2.2.2.2.2.1))), (a_t_steps, .inl (E 0, 320, .inl (A4 o5.2.2.2.2.2.2.2.2.1))), (a_t_away, .inl (E 0, 64, .inl (A4 o5.2.2.2.2.2.2.2.2.2)))] rfl rfl rfl rfl (by decide) rfl rfl rfl cl_X1 lk_X1_43 co_X1_build dy_X1_build rfl rfl ⟨Nat.le_of_ble_eq_true rfl, Nat.le_of_ble_eq_true rfl⟩ hl.1 rfl (Nat.le_of_ble_eq_true rfl) dX1_fit_20 (Nat.zero_le _) (Nat.zero_le _) (fun H locs hP hD hS => ?_)
    exact J2 _ (Option.some.inj hj2).symm _ _ _ (lv_sub hl [] rfl) hP hD hS
def F_X1_stateBehind (n : Nat)  (t_part : Nat → Int) (t_stateOfPart : Nat → Int) (x1 : Int) : Option (Int) :=
  (F_X11_isPast n x1).bind fun o1 =>
  Option.bind (α := Int) (
    ck (r4 o1) <|
    if o1 = 0 then
      some 0
    else
      ck (ix_ x1 64) <|
      some (t_part (x1).toNat)) fun o2 =>
  (F_X11_isPast n o2).bind fun o5 =>
  Option.bind (α := Int) (
    ck (r4 o5) <|
    if o5 = 0 then
      some 0
    else
      ck (ix_ o2 64) <|
      ck (r4 (t_stateOfPart (o2).toNat)) <|
      some (max 0 (t_stateOfPart (o2).toNat))) fun o6 =>
  some o6
def rm_X1_stateBehind : Room := { frames := 1, cells := 0, slots := 0, locals := 20 }
set_option maxHeartbeats 4000000 in
set_option maxRecDepth 100000 in
theorem k_X1_stateBehind {l : Launch} {D : va_G} {E : Nat → ClassId} (n : Nat) (a_t a_t_plan a_t_leads a_t_part a_t_finer a_t_keys a_t_stateOfPart a_t_pastOfState a_t_steps a_t_away : Nat) (t_pasts : Int) (t_states : Int) (t_part : Nat → Int) (t_stateOfPart : Nat → Int) (x1 : Int) (res : Int) (hf : F_X1_stateBehind n t_part t_stateOfPart x1 = some res) : MR l yX1_stateBehind (.code yX1_stateBehind cX1_stateBehind 3 (some .int)) rm_X1_stateBehind D E [.ref a_t, .int (z4 x1)] [(a_t, .inr (1, [.ref a_t_plan, .int (z4 t_pasts), .ref a_t_leads, .ref a_t_part, .ref a_t_finer, .ref a_t_keys, .ref a_t_stateOfPart, .ref a_t_pastOfState, .int (z4 t_states), .ref a_t_steps, .ref a_t_away])), (a_t_part, .inl (E 0, 64, .inl (A4 t_part))), (a_t_stateOfPart, .inl (E 0, 64, .inl (A4 t_stateOfPart)))] (some (.int (z4 res))) := by
  refine MRi (by decide) (Nat.le_of_ble_eq_true rfl) ?_
  intro p e s m args below meth c Q X hK hP ret ls hl
  have hx := X.1
  have hb := X.2.1
  have hl : lv_has ls 3 [(0, .ref a_t), (1, .int (z4 x1))] := hl
  unfold F_X1_stateBehind at hf
  refine lv_iload_n hx hb dX1_stateBehind_0 rfl (lv_at hl 1 rfl) ?_
  obtain ⟨o1, ho, hf⟩ := bd_some hf
  refine m_cSRN X hK (k_X11_isPast n x1 o1 ho) (hP.sub (ws' := []) [] rfl) (NK.X1_54 hK.2.2.2) ls_X1_54 co_X11_isPast dy_X11_isPast rfl rfl ⟨Nat.le_of_ble_eq_true rfl, Nat.le_of_ble_eq_true rfl⟩ hl.1 rfl (Nat.le_of_ble_eq_true rfl) dX1_stateBehind_1 (Nat.zero_le _) (Nat.zero_le _) ?_
  obtain ⟨o2, hj2, hr2⟩ := bd_some hf
  have J2 : ∀ (o_ : Int), o2 = o_ → ∀ (ls : Array Slot), lv_has ls 3 [(0, .ref a_t)] → W p l e rm_X1_stateBehind s m args below meth c s.heap [] 0 0 Q (F0 m 17 ls [.int (z4 o_)]) := by
    intro o_ ho_ ls hl 
    subst ho_
    refine lv_istore_n (lv' := [(2, .int (z4 o2)), (0, .ref a_t)]) hx hb dX1_stateBehind_17 rfl hl (by decide) rfl (fun ls hl => ?_)
    refine lv_iload_n hx hb dX1_stateBehind_18 rfl (lv_at hl 0 rfl) ?_
    obtain ⟨o5, ho, hr2⟩ := bd_some hr2
    refine m_cSRN X hK (k_X11_isPast n o2 o5 ho) (hP.sub (ws' := []) [] rfl) (NK.X1_54 hK.2.2.2) ls_X1_54 co_X11_isPast dy_X11_isPast rfl rfl ⟨Nat.le_of_ble_eq_true rfl, Nat.le_of_ble_eq_true rfl⟩ hl.1 rfl (Nat.le_of_ble_eq_true rfl) dX1_stateBehind_19 (Nat.zero_le _) (Nat.zero_le _) ?_
    obtain ⟨o6, hj6, hr6⟩ := bd_some hr2
    have J6 : ∀ (o_ : Int), o6 = o_ → ∀ (ls : Array Slot), lv_has ls 3 [] → W p l e rm_X1_stateBehind s m args below meth c s.heap [] 0 0 Q (F0 m 39 ls [.int (z4 o_)]) := by
      intro o_ ho_ ls hl 
      subst ho_
      obtain rfl := Option.some.inj hr6
      exact ret _ _ dX1_stateBehind_39
    obtain ⟨h7, hj6⟩ := ck_some hj6
    refine m_if_eq X h7 dX1_stateBehind_22 (tgt := 38) (by decide) (fun (hc_ : o5 = 0) => ?_) (fun (hc_ : ¬ (o5 = 0)) => ?_)
    · rw [if_pos hc_] at hj6
      refine m_iconst X dX1_stateBehind_38 ?_
      exact J6 _ (Option.some.inj hj6).symm _ (lv_sub hl [] rfl) 
    · rw [if_neg hc_] at hj6
      refine m_iconst X dX1_stateBehind_25 ?_
      refine lv_aload_n hx hb dX1_stateBehind_26 rfl (lv_at hl 1 rfl) ?_
      refine m_get X hK hP cl_X1 iT_X1 6 (by decide) fl_X1_31 0 rfl rfl dX1_stateBehind_27 ?_
      refine lv_iload_n hx hb dX1_stateBehind_30 rfl (lv_at hl 0 rfl) ?_
      obtain ⟨h8, hj6⟩ := ck_some hj6
      refine m_iald X hK hP 2 rfl (by decide) h8 dX1_stateBehind_31 ?_
      obtain ⟨h9, hj6⟩ := ck_some hj6
      refine m_max X ml_X1_58 st_max in_Math cd_max hl.1 (Nat.le_of_ble_eq_true rfl) (Nat.le_of_ble_eq_true rfl) (Nat.zero_le _) (Nat.zero_le _) ⟨⟨by decide, by decide⟩, h9⟩ dX1_stateBehind_32 ?_
      refine lv_goto (tgt := 39) hx hb dX1_stateBehind_35 (by decide) ?_
      exact J6 _ (Option.some.inj hj6).symm _ (lv_sub hl [] rfl) 
  obtain ⟨h3, hj2⟩ := ck_some hj2
  refine m_if_eq X h3 dX1_stateBehind_4 (tgt := 16) (by decide) (fun (hc_ : o1 = 0) => ?_) (fun (hc_ : ¬ (o1 = 0)) => ?_)
  · rw [if_pos hc_] at hj2
    refine m_iconst X dX1_stateBehind_16 ?_
    exact J2 _ (Option.some.inj hj2).symm _ (lv_sub hl [0] rfl) 
  · rw [if_neg hc_] at hj2
    refine lv_aload_n hx hb dX1_stateBehind_7 rfl (lv_at hl 0 rfl) ?_
    refine m_get X hK hP cl_X1 iT_X1 3 (by decide) fl_X1_22 0 rfl rfl dX1_stateBehind_8 ?_
    refine lv_iload_n hx hb dX1_stateBehind_11 rfl (lv_at hl 1 rfl) ?_
    obtain ⟨h4, hj2⟩ := ck_some hj2
    refine m_iald X hK hP 1 rfl (by decide) h4 dX1_stateBehind_12 ?_
    refine lv_goto (tgt := 17) hx hb dX1_stateBehind_13 (by decide) ?_
    exact J2 _ (Option.some.inj hj2).symm _ (lv_sub hl [0] rfl) 
def F_X1_signTowardsAlarm_L9 (n : Nat) (x2 : Int) (t_away : Nat → Int) (t_steps : Nat → Int) (v9_3 : Int) (v9_4 : Int) (v9_5 : Int) : Option ((Int × Int × Int) ⊕ ((Int) ⊕ (Unit))) :=
  ck (r4 v9_5 ∧ r4 x2) <|
  if x2 < v9_5 then
    some (.inr (.inl v9_4))
  else
    ck (r4 v9_5) <|
    if v9_5 < 64 then
      (F_X1_awayFrom n t_away v9_3).bind fun o4 =>
      (F_X1_signTo n t_steps t_away v9_3 (o4 - 1)).bind fun o5 =>
      (F_X11_isPast n v9_3).bind fun o6 =>
      ck (r4 o6) <|
      if o6 = 0 then
        some (.inr (.inr ()))
      else
        (F_X11_isSign n o5).bind fun o8 =>
        ck (r4 o8) <|
        if o8 = 0 then
          some (.inr (.inr ()))
        else
          ck (ix_ ((v9_3 * 5) + o5) 320) <|
          some (.inl (t_steps ((v9_3 * 5) + o5).toNat, o5, v9_5 + 1))
    else
      some (.inr (.inl v9_4))
def F_X1_signTowardsAlarm (n : Nat)  (t_away : Nat → Int) (t_steps : Nat → Int) (x1 : Int) (x2 : Int) : Option (Int) :=
  (lp_ (fun (q : Int × Int × Int) => F_X1_signTowardsAlarm_L9 n x2 t_away t_steps q.1 q.2.1 q.2.2) n (x1, (-9), 0)).bind fun o1 => match o1 with
  | .inl o1_0 =>
    some o1_0
  | .inr o1_1 =>
    some (-9)
def rm_X1_signTowardsAlarm : Room := { frames := 2, cells := 0, slots := 0, locals := 45 }
set_option maxHeartbeats 4000000 in
set_option maxRecDepth 100000 in
theorem k_X1_signTowardsAlarm {l : Launch} {D : va_G} {E : Nat → ClassId} (n : Nat) (a_t a_t_plan a_t_leads a_t_part a_t_finer a_t_keys a_t_stateOfPart a_t_pastOfState a_t_steps a_t_away : Nat) (t_pasts : Int) (t_states : Int) (t_away : Nat → Int) (t_steps : Nat → Int) (x1 : Int) (x2 : Int) (res : Int) (hf : F_X1_signTowardsAlarm n t_away t_steps x1 x2 = some res) : MR l yX1_signTowardsAlarm (.code yX1_signTowardsAlarm cX1_signTowardsAlarm 6 (some .int)) rm_X1_signTowardsAlarm D E [.ref a_t, .int (z4 x1), .int (z4 x2)] [(a_t, .inr (1, [.ref a_t_plan, .int (z4 t_pasts), .ref a_t_leads, .ref a_t_part, .ref a_t_finer, .ref a_t_keys, .ref a_t_stateOfPart, .ref a_t_pastOfState, .int (z4 t_states), .ref a_t_steps, .ref a_t_away])), (a_t_away, .inl (E 0, 64, .inl (A4 t_away))), (a_t_steps, .inl (E 0, 320, .inl (A4 t_steps)))] (some (.int (z4 res))) := by
  refine MRi (by decide) (Nat.le_of_ble_eq_true rfl) ?_
  intro p e s m args below meth c Q X hK hP ret ls hl
  have hx := X.1
  have hb := X.2.1
  have hl : lv_has ls 6 [(0, .ref a_t), (1, .int (z4 x1)), (2, .int (z4 x2))] := hl
  unfold F_X1_signTowardsAlarm at hf
  refine lv_iload_n hx hb dX1_signTowardsAlarm_0 rfl (lv_at hl 1 rfl) ?_
  refine lv_istore_n (lv' := [(3, .int (z4 x1)), (0, .ref a_t), (1, .int (z4 x1)), (2, .int (z4 x2))]) hx hb dX1_signTowardsAlarm_1 rfl hl (by decide) rfl (fun ls hl => ?_)
  refine m_bipush X dX1_signTowardsAlarm_2 (by decide) ?_
  refine lv_istore (lv' := [(4, .int (z4 (-9))), (3, .int (z4 x1)), (0, .ref a_t), (1, .int (z4 x1)), (2, .int (z4 x2))]) hx hb dX1_signTowardsAlarm_4 hl (by decide) rfl (fun ls hl => ?_)
  refine m_iconst X dX1_signTowardsAlarm_6 ?_
  refine lv_istore (lv' := [(5, .int (z4 0)), (4, .int (z4 (-9))), (3, .int (z4 x1)), (0, .ref a_t), (1, .int (z4 x1)), (2, .int (z4 x2))]) hx hb dX1_signTowardsAlarm_7 hl (by decide) rfl (fun ls hl => ?_)
  obtain ⟨o1, hj1, hr1⟩ := bd_some hf
  have E1_0 : ∀ (o_ : Int), o1 = (.inl o_) → ∀ (ls : Array Slot), lv_has ls 6 [(4, .int (z4 o_))] → W p l e rm_X1_signTowardsAlarm s m args below meth c s.heap [] 0 0 Q (F0 m 72 ls []) := by
    intro o1_0 ho_ ls hl 
    subst ho_
    refine lv_iload hx hb dX1_signTowardsAlarm_72 (lv_at hl 0 rfl) ?_
    obtain rfl := Option.some.inj hr1
    exact ret _ _ dX1_signTowardsAlarm_74
  have E1_1 : ∀ (o_ : Unit), o1 = (.inr o_) → ∀ (ls : Array Slot), lv_has ls 6 [] → W p l e rm_X1_signTowardsAlarm s m args below meth c s.heap [] 0 0 Q (F0 m 51 ls []) := by
    intro o1_1 ho_ ls hl 
    subst ho_
    refine m_bipush X dX1_signTowardsAlarm_51 (by decide) ?_
    obtain rfl := Option.some.inj hr1
    exact ret _ _ dX1_signTowardsAlarm_53
  have L1 : ∀ (k_ : Nat) (v9_3 : Int) (v9_4 : Int) (v9_5 : Int), ∀ (ls : Array Slot), lv_has ls 6 [(0, .ref a_t), (2, .int (z4 x2)), (3, .int (z4 v9_3)), (4, .int (z4 v9_4)), (5, .int (z4 v9_5))] → lp_ (fun (q : Int × Int × Int) => F_X1_signTowardsAlarm_L9 n x2 t_away t_steps q.1 q.2.1 q.2.2) k_ (v9_3, v9_4, v9_5) = some o1 → W p l e rm_X1_signTowardsAlarm s m args below meth c s.heap [] 0 0 Q (F0 m 9 ls []) := by
    intro k_
    induction k_ with
    | zero =>
      intro v9_3 v9_4 v9_5 ls hl  hq_; exact (lp_zero hq_).elim
    | succ k_ ih1 =>
      intro v9_3 v9_4 v9_5 ls hl  hq_
      obtain ⟨t_1, hb1, hq1⟩ := lp_some hq_
      replace hb1 : F_X1_signTowardsAlarm_L9 n x2 t_away t_steps v9_3 v9_4 v9_5 = some t_1 := hb1
      unfold F_X1_signTowardsAlarm_L9 at hb1
      refine lv_iload hx hb dX1_signTowardsAlarm_9 (lv_at hl 4 rfl) ?_
      refine lv_iload_n hx hb dX1_signTowardsAlarm_11 rfl (lv_at hl 1 rfl) ?_
      obtain ⟨h2, hb1⟩ := ck_some hb1
      refine m_icmp_gt X h2 dX1_signTowardsAlarm_12 (tgt := 72) (by decide) (fun (hc_ : x2 < v9_5) => ?_) (fun (hc_ : ¬ (x2 < v9_5)) => ?_)
      · rw [if_pos hc_] at hb1
        obtain rfl := Option.some.inj hb1
        exact E1_0 _ (Option.some.inj hq1).symm _ (lv_sub hl [3] rfl) 
      · rw [if_neg hc_] at hb1
        refine lv_iload hx hb dX1_signTowardsAlarm_15 (lv_at hl 4 rfl) ?_
        refine m_bipush X dX1_signTowardsAlarm_17 (by decide) ?_
        obtain ⟨h3, hb1⟩ := ck_some hb1
        refine m_icmp_ge X ⟨h3, ⟨by decide, by decide⟩⟩ dX1_signTowardsAlarm_19 (tgt := 72) (by decide) (fun (hc_ : ¬ (v9_5 < 64)) => ?_) (fun (hc_ : v9_5 < 64) => ?_)
        · rw [if_neg hc_] at hb1
          obtain rfl := Option.some.inj hb1
          exact E1_0 _ (Option.some.inj hq1).symm _ (lv_sub hl [3] rfl) 
        · rw [if_pos hc_] at hb1
          refine lv_aload_n hx hb dX1_signTowardsAlarm_22 rfl (lv_at hl 0 rfl) ?_
          refine lv_iload_n hx hb dX1_signTowardsAlarm_23 rfl (lv_at hl 2 rfl) ?_
          refine lv_aload_n hx hb dX1_signTowardsAlarm_24 rfl (lv_at hl 0 rfl) ?_
          refine lv_iload_n hx hb dX1_signTowardsAlarm_25 rfl (lv_at hl 2 rfl) ?_
          obtain ⟨o4, ho, hb1⟩ := bd_some hb1
          refine m_cVR X hK (k_X1_awayFrom n a_t a_t_plan a_t_leads a_t_part a_t_finer a_t_keys a_t_stateOfPart a_t_pastOfState a_t_steps a_t_away t_pasts t_states t_away v9_3 o4 ho) (hP.sub [0, 1] rfl) rfl cl_X1 lk_X1_115 co_X1_awayFrom dy_X1_awayFrom rfl rfl ⟨Nat.le_of_ble_eq_true rfl, Nat.le_of_ble_eq_true rfl⟩ hl.1 rfl (Nat.le_of_ble_eq_true rfl) dX1_signTowardsAlarm_26 (Nat.zero_le _) (Nat.zero_le _) ?_
          refine m_iconst X dX1_signTowardsAlarm_29 ?_
          refine m_isub X dX1_signTowardsAlarm_30 ?_
          obtain ⟨o5, ho, hb1⟩ := bd_some hb1
          refine m_cVR X hK (k_X1_signTo n a_t a_t_plan a_t_leads a_t_part a_t_finer a_t_keys a_t_stateOfPart a_t_pastOfState a_t_steps a_t_away t_pasts t_states t_steps t_away v9_3 (o4 - 1) o5 ho) (hP.sub [0, 2, 1] rfl) rfl cl_X1 lk_X1_112 co_X1_signTo dy_X1_signTo rfl rfl ⟨Nat.le_of_ble_eq_true rfl, Nat.le_of_ble_eq_true rfl⟩ hl.1 rfl (Nat.le_of_ble_eq_true rfl) dX1_signTowardsAlarm_31 (Nat.zero_le _) (Nat.zero_le _) ?_
          refine lv_istore (lv' := [(4, .int (z4 o5)), (0, .ref a_t), (2, .int (z4 x2)), (3, .int (z4 v9_3)), (5, .int (z4 v9_5))]) hx hb dX1_signTowardsAlarm_34 hl (by decide) rfl (fun ls hl => ?_)
          refine lv_iload_n hx hb dX1_signTowardsAlarm_36 rfl (lv_at hl 3 rfl) ?_
          obtain ⟨o6, ho, hb1⟩ := bd_some hb1
          refine m_cSRN X hK (k_X11_isPast n v9_3 o6 ho) (hP.sub (ws' := []) [] rfl) (NK.X1_54 hK.2.2.2) ls_X1_54 co_X11_isPast dy_X11_isPast rfl rfl ⟨Nat.le_of_ble_eq_true rfl, Nat.le_of_ble_eq_true rfl⟩ hl.1 rfl (Nat.le_of_ble_eq_true rfl) dX1_signTowardsAlarm_37 (Nat.zero_le _) (Nat.zero_le _) ?_
          obtain ⟨h7, hb1⟩ := ck_some hb1
          refine m_if_eq X h7 dX1_signTowardsAlarm_40 (tgt := 51) (by decide) (fun (hc_ : o6 = 0) => ?_) (fun (hc_ : ¬ (o6 = 0)) => ?_)
          · rw [if_pos hc_] at hb1
            obtain rfl := Option.some.inj hb1
            exact E1_1 _ (Option.some.inj hq1).symm _ (lv_sub hl [] rfl) 
          · rw [if_neg hc_] at hb1
            refine lv_iload hx hb dX1_signTowardsAlarm_43 (lv_at hl 0 rfl) ?_
            obtain ⟨o8, ho, hb1⟩ := bd_some hb1
            refine m_cSRN X hK (k_X11_isSign n o5 o8 ho) (hP.sub (ws' := []) [] rfl) (NK.X1_118 hK.2.2.2) ls_X1_118 co_X11_isSign dy_X11_isSign rfl rfl ⟨Nat.le_of_ble_eq_true rfl, Nat.le_of_ble_eq_true rfl⟩ hl.1 rfl (Nat.le_of_ble_eq_true rfl) dX1_signTowardsAlarm_45 (Nat.zero_le _) (Nat.zero_le _) ?_
            obtain ⟨h9, hb1⟩ := ck_some hb1
            refine m_if_ne X h9 dX1_signTowardsAlarm_48 (tgt := 54) (by decide) (fun (hc_ : ¬ (o8 = 0)) => ?_) (fun (hc_ : o8 = 0) => ?_)
            · rw [if_neg hc_] at hb1
              refine lv_aload_n hx hb dX1_signTowardsAlarm_54 rfl (lv_at hl 1 rfl) ?_
              refine m_get X hK hP cl_X1 iT_X1 9 (by decide) fl_X1_37 0 rfl rfl dX1_signTowardsAlarm_55 ?_
              refine lv_iload_n hx hb dX1_signTowardsAlarm_58 rfl (lv_at hl 3 rfl) ?_
              refine m_iconst X dX1_signTowardsAlarm_59 ?_
              refine m_imul X dX1_signTowardsAlarm_60 ?_
              refine lv_iload hx hb dX1_signTowardsAlarm_61 (lv_at hl 0 rfl) ?_
              refine m_iadd X dX1_signTowardsAlarm_63 ?_
              obtain ⟨h10, hb1⟩ := ck_some hb1
              refine m_iald X hK hP 2 rfl (by decide) h10 dX1_signTowardsAlarm_64 ?_
              refine lv_istore_n (lv' := [(3, .int (z4 (t_steps ((v9_3 * 5) + o5).toNat))), (4, .int (z4 o5)), (0, .ref a_t), (2, .int (z4 x2)), (5, .int (z4 v9_5))]) hx hb dX1_signTowardsAlarm_65 rfl hl (by decide) rfl (fun ls hl => ?_)
              refine m_iinc X 4 [(5, .int (z4 (v9_5 + 1))), (3, .int (z4 (t_steps ((v9_3 * 5) + o5).toNat))), (4, .int (z4 o5)), (0, .ref a_t), (2, .int (z4 x2))] dX1_signTowardsAlarm_66 hl rfl (by decide) rfl (fun ls hl => ?_)
              refine lv_goto (tgt := 9) hx hb dX1_signTowardsAlarm_69 (by decide) ?_
              obtain rfl := Option.some.inj hb1
              exact ih1 _ _ _ _ (lv_sub hl [3, 4, 1, 2, 0] rfl)  hq1
            · rw [if_pos hc_] at hb1
              obtain rfl := Option.some.inj hb1
              exact E1_1 _ (Option.some.inj hq1).symm _ (lv_sub hl [] rfl) 
  exact L1 n _ _ _ _ (lv_sub hl [3, 5, 2, 1, 0] rfl)  hj1
