def F_X11_rule (n : Nat)  (t_sheet_plan_rules : Int) (t_sheet_plan_least : Nat → Int) (t_sheet_plan_of : Nat → Int) (t_sheet_plan_set : Nat → Int) (x1 : Int) (x2 : Int) : Option (Int) :=
  ck (r4 x1) <|
  if x1 < 0 then
    some (-1)
  else
    ck (r4 x1 ∧ r4 t_sheet_plan_rules) <|
    if x1 < t_sheet_plan_rules then
      ck (r4 x1) <|
      if x1 < 3 then
        ck (r4 x2) <|
        if x2 = 0 then
          ck (ix_ x1 3) <|
          some (t_sheet_plan_least (x1).toNat)
        else
          if x2 = 1 then
            ck (ix_ x1 3) <|
            some (t_sheet_plan_of (x1).toNat)
          else
            if x2 = 2 then
              ck (ix_ x1 3) <|
              some (t_sheet_plan_set (x1).toNat)
            else
              some (-1)
      else
        some (-1)
    else
      some (-1)
def rm_X11_rule : Room := { frames := 0, cells := 0, slots := 0, locals := 0 }
set_option maxHeartbeats 4000000 in
set_option maxRecDepth 100000 in
theorem k_X11_rule {l : Launch} {D : va_G} {E : Nat → ClassId} (n : Nat) (a_t a_t_reader_text a_t_reader a_t_sheet a_t_history a_t_images a_t_kept a_t_walk a_t_machine a_t_outlook a_t_means a_t_singles a_t_sheet_plan a_t_sheet_rows a_t_sheet_plan_least a_t_sheet_plan_of a_t_sheet_plan_set a_t_sheet_plan_chances : Nat) (t_sheet_plan_rules : Int) (t_sheet_plan_slack : Int) (t_sheet_plan_limit : Int) (t_sheet_plan_least : Nat → Int) (t_sheet_plan_of : Nat → Int) (t_sheet_plan_set : Nat → Int) (x1 : Int) (x2 : Int) (res : Int) (hf : F_X11_rule n t_sheet_plan_rules t_sheet_plan_least t_sheet_plan_of t_sheet_plan_set x1 x2 = some res) : MR l yX11_rule (.code yX11_rule cX11_rule 4 (some .int)) rm_X11_rule D E [.ref a_t, .int (z4 x1), .int (z4 x2)] [(a_t, .inr (11, [.ref a_t_reader_text, .ref a_t_reader, .ref a_t_sheet, .ref a_t_history, .ref a_t_images, .ref a_t_kept, .ref a_t_walk, .ref a_t_machine, .ref a_t_outlook, .ref a_t_means, .ref a_t_singles])), (a_t_sheet, .inr (7, [.ref a_t_sheet_plan, .ref a_t_sheet_rows])), (a_t_sheet_plan, .inr (4, [.int (z4 t_sheet_plan_rules), .ref a_t_sheet_plan_least, .ref a_t_sheet_plan_of, .ref a_t_sheet_plan_set, .ref a_t_sheet_plan_chances, .int (z4 t_sheet_plan_slack), .int (z4 t_sheet_plan_limit)])), (a_t_sheet_plan_least, .inl (E 0, 3, .inl (A4 t_sheet_plan_least))), (a_t_sheet_plan_of, .inl (E 0, 3, .inl (A4 t_sheet_plan_of))), (a_t_sheet_plan_set, .inl (E 0, 3, .inl (A4 t_sheet_plan_set)))] (some (.int (z4 res))) := by
  refine MRi (by decide) (Nat.le_of_ble_eq_true rfl) ?_
  intro p e s m args below meth c Q X hK hP ret ls hl
  have hx := X.1
  have hb := X.2.1
  have hl : lv_has ls 4 [(0, .ref a_t), (1, .int (z4 x1)), (2, .int (z4 x2))] := hl
  unfold F_X11_rule at hf
  refine lv_aload_n hx hb dX11_rule_0 rfl (lv_at hl 0 rfl) ?_
  refine m_get X hK hP cl_X11 iT_X11 2 (by decide) fl_X11_24 0 rfl rfl dX11_rule_1 ?_
  refine m_get X hK hP cl_X7 iT_X7 0 (by decide) fl_X11_96 1 rfl rfl dX11_rule_4 ?_
  refine lv_astore_n (lv' := [(3, .ref a_t_sheet_plan), (0, .ref a_t), (1, .int (z4 x1)), (2, .int (z4 x2))]) hx hb dX11_rule_7 rfl hl (by decide) rfl (fun ls hl => ?_)
  refine lv_iload_n hx hb dX11_rule_8 rfl (lv_at hl 2 rfl) ?_
  obtain ⟨h1, hf⟩ := ck_some hf
  refine m_if_lt X h1 dX11_rule_9 (tgt := 25) (by decide) (fun (hc_ : x1 < 0) => ?_) (fun (hc_ : ¬ (x1 < 0)) => ?_)
  · rw [if_pos hc_] at hf
    refine m_iconst X dX11_rule_25 ?_
    obtain rfl := Option.some.inj hf
    exact ret _ _ dX11_rule_26
  · rw [if_neg hc_] at hf
    refine lv_iload_n hx hb dX11_rule_12 rfl (lv_at hl 2 rfl) ?_
    refine lv_aload_n hx hb dX11_rule_13 rfl (lv_at hl 0 rfl) ?_
    refine m_get X hK hP cl_X4 iT_X4 0 (by decide) fl_X11_146 2 rfl rfl dX11_rule_14 ?_
    obtain ⟨h2, hf⟩ := ck_some hf
    refine m_icmp_ge X h2 dX11_rule_17 (tgt := 25) (by decide) (fun (hc_ : ¬ (x1 < t_sheet_plan_rules)) => ?_) (fun (hc_ : x1 < t_sheet_plan_rules) => ?_)
    · rw [if_neg hc_] at hf
      refine m_iconst X dX11_rule_25 ?_
      obtain rfl := Option.some.inj hf
      exact ret _ _ dX11_rule_26
    · rw [if_pos hc_] at hf
      refine lv_iload_n hx hb dX11_rule_20 rfl (lv_at hl 2 rfl) ?_
      refine m_iconst X dX11_rule_21 ?_
      obtain ⟨h3, hf⟩ := ck_some hf
      refine m_icmp_lt X ⟨h3, ⟨by decide, by decide⟩⟩ dX11_rule_22 (tgt := 27) (by decide) (fun (hc_ : x1 < 3) => ?_) (fun (hc_ : ¬ (x1 < 3)) => ?_)
      · rw [if_pos hc_] at hf
        refine lv_iload_n hx hb dX11_rule_27 rfl (lv_at hl 3 rfl) ?_
        obtain ⟨h4, hf⟩ := ck_some hf
        by_cases hc0 : x2 = 0
        · rw [if_pos hc0] at hf
          refine m_swIn X h4 0 hc0 (by decide) dX11_rule_28 rfl (tgt := 56) (by decide) ?_
          refine lv_aload_n hx hb dX11_rule_56 rfl (lv_at hl 0 rfl) ?_
          refine m_get X hK hP cl_X4 iT_X4 1 (by decide) fl_X11_149 2 rfl rfl dX11_rule_57 ?_
          refine lv_iload_n hx hb dX11_rule_60 rfl (lv_at hl 2 rfl) ?_
          obtain ⟨h5, hf⟩ := ck_some hf
          refine m_iald X hK hP 3 rfl (by decide) h5 dX11_rule_61 ?_
          obtain rfl := Option.some.inj hf
          exact ret _ _ dX11_rule_62
        · rw [if_neg hc0] at hf
          by_cases hc1 : x2 = 1
          · rw [if_pos hc1] at hf
            refine m_swIn X h4 1 hc1 (by decide) dX11_rule_28 rfl (tgt := 63) (by decide) ?_
            refine lv_aload_n hx hb dX11_rule_63 rfl (lv_at hl 0 rfl) ?_
            refine m_get X hK hP cl_X4 iT_X4 2 (by decide) fl_X11_152 2 rfl rfl dX11_rule_64 ?_
            refine lv_iload_n hx hb dX11_rule_67 rfl (lv_at hl 2 rfl) ?_
            obtain ⟨h6, hf⟩ := ck_some hf
            refine m_iald X hK hP 4 rfl (by decide) h6 dX11_rule_68 ?_
            obtain rfl := Option.some.inj hf
            exact ret _ _ dX11_rule_69
          · rw [if_neg hc1] at hf
            by_cases hc2 : x2 = 2
            · rw [if_pos hc2] at hf
              refine m_swIn X h4 2 hc2 (by decide) dX11_rule_28 rfl (tgt := 70) (by decide) ?_
              refine lv_aload_n hx hb dX11_rule_70 rfl (lv_at hl 0 rfl) ?_
              refine m_get X hK hP cl_X4 iT_X4 3 (by decide) fl_X11_155 2 rfl rfl dX11_rule_71 ?_
              refine lv_iload_n hx hb dX11_rule_74 rfl (lv_at hl 2 rfl) ?_
              obtain ⟨h7, hf⟩ := ck_some hf
              refine m_iald X hK hP 5 rfl (by decide) h7 dX11_rule_75 ?_
              obtain rfl := Option.some.inj hf
              exact ret _ _ dX11_rule_76
            · rw [if_neg hc2] at hf
              refine m_swOut X h4 (by omega) dX11_rule_28 (tgt := 77) (by decide) ?_
              refine m_iconst X dX11_rule_77 ?_
              obtain rfl := Option.some.inj hf
              exact ret _ _ dX11_rule_78
      · rw [if_neg hc_] at hf
        refine m_iconst X dX11_rule_25 ?_
        obtain rfl := Option.some.inj hf
        exact ret _ _ dX11_rule_26
def F_X11_chance (n : Nat)  (t_sheet_plan_chances : Nat → Int) (x1 : Int) : Option (Int) :=
  (F_X11_isSign n x1).bind fun o1 =>
  Option.bind (α := Int) (
    ck (r4 o1) <|
    if o1 = 0 then
      some (-1)
    else
      ck (ix_ x1 5) <|
      some (t_sheet_plan_chances (x1).toNat)) fun o2 =>
  some o2
def rm_X11_chance : Room := { frames := 1, cells := 0, slots := 0, locals := 20 }
set_option maxHeartbeats 4000000 in
set_option maxRecDepth 100000 in
theorem k_X11_chance {l : Launch} {D : va_G} {E : Nat → ClassId} (n : Nat) (a_t a_t_reader_text a_t_reader a_t_sheet a_t_history a_t_images a_t_kept a_t_walk a_t_machine a_t_outlook a_t_means a_t_singles a_t_sheet_plan a_t_sheet_rows a_t_sheet_plan_least a_t_sheet_plan_of a_t_sheet_plan_set a_t_sheet_plan_chances : Nat) (t_sheet_plan_rules : Int) (t_sheet_plan_slack : Int) (t_sheet_plan_limit : Int) (t_sheet_plan_chances : Nat → Int) (x1 : Int) (res : Int) (hf : F_X11_chance n t_sheet_plan_chances x1 = some res) : MR l yX11_chance (.code yX11_chance cX11_chance 2 (some .int)) rm_X11_chance D E [.ref a_t, .int (z4 x1)] [(a_t, .inr (11, [.ref a_t_reader_text, .ref a_t_reader, .ref a_t_sheet, .ref a_t_history, .ref a_t_images, .ref a_t_kept, .ref a_t_walk, .ref a_t_machine, .ref a_t_outlook, .ref a_t_means, .ref a_t_singles])), (a_t_sheet, .inr (7, [.ref a_t_sheet_plan, .ref a_t_sheet_rows])), (a_t_sheet_plan, .inr (4, [.int (z4 t_sheet_plan_rules), .ref a_t_sheet_plan_least, .ref a_t_sheet_plan_of, .ref a_t_sheet_plan_set, .ref a_t_sheet_plan_chances, .int (z4 t_sheet_plan_slack), .int (z4 t_sheet_plan_limit)])), (a_t_sheet_plan_chances, .inl (E 0, 5, .inl (A4 t_sheet_plan_chances)))] (some (.int (z4 res))) := by
  refine MRi (by decide) (Nat.le_of_ble_eq_true rfl) ?_
  intro p e s m args below meth c Q X hK hP ret ls hl
  have hx := X.1
  have hb := X.2.1
  have hl : lv_has ls 2 [(0, .ref a_t), (1, .int (z4 x1))] := hl
  unfold F_X11_chance at hf
  refine lv_iload_n hx hb dX11_chance_0 rfl (lv_at hl 1 rfl) ?_
  obtain ⟨o1, ho, hf⟩ := bd_some hf
  refine m_cSR X hK (k_X11_isSign n x1 o1 ho) (hP.sub (ws' := []) [] rfl) lk_X11_110 co_X11_isSign dy_X11_isSign rfl rfl ⟨Nat.le_of_ble_eq_true rfl, Nat.le_of_ble_eq_true rfl⟩ hl.1 rfl (Nat.le_of_ble_eq_true rfl) dX11_chance_1 (Nat.zero_le _) (Nat.zero_le _) ?_
  obtain ⟨o2, hj2, hr2⟩ := bd_some hf
  have J2 : ∀ (o_ : Int), o2 = o_ → ∀ (ls : Array Slot), lv_has ls 2 [] → W p l e rm_X11_chance s m args below meth c s.heap [] 0 0 Q (F0 m 23 ls [.int (z4 o_)]) := by
    intro o_ ho_ ls hl 
    subst ho_
    obtain rfl := Option.some.inj hr2
    exact ret _ _ dX11_chance_23
  obtain ⟨h3, hj2⟩ := ck_some hj2
  refine m_if_eq X h3 dX11_chance_4 (tgt := 22) (by decide) (fun (hc_ : o1 = 0) => ?_) (fun (hc_ : ¬ (o1 = 0)) => ?_)
  · rw [if_pos hc_] at hj2
    refine m_iconst X dX11_chance_22 ?_
    exact J2 _ (Option.some.inj hj2).symm _ (lv_sub hl [] rfl) 
  · rw [if_neg hc_] at hj2
    refine lv_aload_n hx hb dX11_chance_7 rfl (lv_at hl 0 rfl) ?_
    refine m_get X hK hP cl_X11 iT_X11 2 (by decide) fl_X11_24 0 rfl rfl dX11_chance_8 ?_
    refine m_get X hK hP cl_X7 iT_X7 0 (by decide) fl_X11_96 1 rfl rfl dX11_chance_11 ?_
    refine m_get X hK hP cl_X4 iT_X4 4 (by decide) fl_X11_158 2 rfl rfl dX11_chance_14 ?_
    refine lv_iload_n hx hb dX11_chance_17 rfl (lv_at hl 1 rfl) ?_
    obtain ⟨h4, hj2⟩ := ck_some hj2
    refine m_iald X hK hP 3 rfl (by decide) h4 dX11_chance_18 ?_
    refine lv_goto (tgt := 23) hx hb dX11_chance_19 (by decide) ?_
    exact J2 _ (Option.some.inj hj2).symm _ (lv_sub hl [] rfl) 
def F_X11_row (n : Nat)  (t_sheet_rows_size : Int) (t_sheet_rows_times : Nat → Int) (t_sheet_rows_signs : Nat → Int) (t_walk_met : Nat → Int) (t_machine_pasts : Int) (t_machine_states : Int) (t_machine_plan_rules : Int) (t_machine_plan_slack : Int) (t_machine_plan_limit : Int) (t_sheet_plan_rules : Int) (t_sheet_plan_slack : Int) (t_sheet_plan_limit : Int) (t_machine_plan_least : Nat → Int) (t_sheet_plan_least : Nat → Int) (t_machine_plan_of : Nat → Int) (t_sheet_plan_of : Nat → Int) (t_machine_plan_set : Nat → Int) (t_sheet_plan_set : Nat → Int) (t_sheet_plan_chances : Nat → Int) (t_machine_plan_chances : Nat → Int) (t_machine_leads : Nat → Int) (t_machine_part : Nat → Int) (t_machine_keys : Nat → Int) (t_machine_finer : Nat → Int) (t_machine_stateOfPart : Nat → Int) (t_machine_pastOfState : Nat → Int) (t_machine_steps : Nat → Int) (t_machine_away : Nat → Int) (t_walk_past : Nat → Int) (t_walk_up : Nat → Int) (t_walk_down : Nat → Int) (t_walk_signals : Nat → Int) (x1 : Int) (x2 : Int) : Option (Int × Int × Int × Int × Int × Int × (Nat → Int) × (Nat → Int) × (Nat → Int) × (Nat → Int) × (Nat → Int) × (Nat → Int) × (Nat → Int) × (Nat → Int) × (Nat → Int) × (Nat → Int) × (Nat → Int) × (Nat → Int)) :=
  (F_X11_isRow n t_sheet_rows_size x1).bind fun o1 =>
  ck (r4 o1) <|
  if o1 = 0 then
    some ((-1), t_machine_pasts, t_machine_states, t_machine_plan_rules, t_machine_plan_slack, t_machine_plan_limit, t_machine_plan_least, t_machine_plan_of, t_machine_plan_set, t_machine_plan_chances, t_machine_leads, t_machine_part, t_machine_keys, t_machine_finer, t_machine_stateOfPart, t_machine_pastOfState, t_machine_steps, t_machine_away)
  else
    ck (r4 x2) <|
    if x2 = 0 then
      ck (ix_ x1 40) <|
      some (t_sheet_rows_times (x1).toNat, t_machine_pasts, t_machine_states, t_machine_plan_rules, t_machine_plan_slack, t_machine_plan_limit, t_machine_plan_least, t_machine_plan_of, t_machine_plan_set, t_machine_plan_chances, t_machine_leads, t_machine_part, t_machine_keys, t_machine_finer, t_machine_stateOfPart, t_machine_pastOfState, t_machine_steps, t_machine_away)
    else
      if x2 = 1 then
        ck (ix_ x1 40) <|
        some (t_sheet_rows_signs (x1).toNat, t_machine_pasts, t_machine_states, t_machine_plan_rules, t_machine_plan_slack, t_machine_plan_limit, t_machine_plan_least, t_machine_plan_of, t_machine_plan_set, t_machine_plan_chances, t_machine_leads, t_machine_part, t_machine_keys, t_machine_finer, t_machine_stateOfPart, t_machine_pastOfState, t_machine_steps, t_machine_away)
      else
        if x2 = 2 then
          ck (ix_ x1 40) <|
          some (t_walk_met (x1).toNat, t_machine_pasts, t_machine_states, t_machine_plan_rules, t_machine_plan_slack, t_machine_plan_limit, t_machine_plan_least, t_machine_plan_of, t_machine_plan_set, t_machine_plan_chances, t_machine_leads, t_machine_part, t_machine_keys, t_machine_finer, t_machine_stateOfPart, t_machine_pastOfState, t_machine_steps, t_machine_away)
        else
          if x2 = 3 then
            (F_X11_fitted n t_machine_pasts t_machine_states t_machine_plan_rules t_machine_plan_slack t_machine_plan_limit t_sheet_plan_rules t_sheet_plan_slack t_sheet_plan_limit t_machine_plan_least t_sheet_plan_least t_machine_plan_of t_sheet_plan_of t_machine_plan_set t_sheet_plan_set t_sheet_plan_chances t_machine_plan_chances t_machine_leads t_machine_part t_machine_keys t_machine_finer t_machine_stateOfPart t_machine_pastOfState t_machine_steps t_machine_away).bind fun o7 =>
            ck (ix_ x1 40) <|
            (F_X1_stateBehind n o7.2.2.2.2.2.2.2.2.2.2.1 o7.2.2.2.2.2.2.2.2.2.2.2.2.2.1 (t_walk_past (x1).toNat)).bind fun o9 =>
            some (o9, o7.1, o7.2.1, o7.2.2.1, o7.2.2.2.1, o7.2.2.2.2.1, o7.2.2.2.2.2.1, o7.2.2.2.2.2.2.1, o7.2.2.2.2.2.2.2.1, o7.2.2.2.2.2.2.2.2.1, o7.2.2.2.2.2.2.2.2.2.1, o7.2.2.2.2.2.2.2.2.2.2.1, o7.2.2.2.2.2.2.2.2.2.2.2.1, o7.2.2.2.2.2.2.2.2.2.2.2.2.1, o7.2.2.2.2.2.2.2.2.2.2.2.2.2.1, o7.2.2.2.2.2.2.2.2.2.2.2.2.2.2.1, o7.2.2.2.2.2.2.2.2.2.2.2.2.2.2.2.1, o7.2.2.2.2.2.2.2.2.2.2.2.2.2.2.2.2)
          else
            if x2 = 4 then
              ck (ix_ x1 40) <|
              some (t_walk_up (x1).toNat, t_machine_pasts, t_machine_states, t_machine_plan_rules, t_machine_plan_slack, t_machine_plan_limit, t_machine_plan_least, t_machine_plan_of, t_machine_plan_set, t_machine_plan_chances, t_machine_leads, t_machine_part, t_machine_keys, t_machine_finer, t_machine_stateOfPart, t_machine_pastOfState, t_machine_steps, t_machine_away)
            else
              if x2 = 5 then
                ck (ix_ x1 40) <|
                some (t_walk_down (x1).toNat, t_machine_pasts, t_machine_states, t_machine_plan_rules, t_machine_plan_slack, t_machine_plan_limit, t_machine_plan_least, t_machine_plan_of, t_machine_plan_set, t_machine_plan_chances, t_machine_leads, t_machine_part, t_machine_keys, t_machine_finer, t_machine_stateOfPart, t_machine_pastOfState, t_machine_steps, t_machine_away)
              else
                if x2 = 6 then
                  ck (ix_ x1 40) <|
                  some (t_walk_signals (x1).toNat, t_machine_pasts, t_machine_states, t_machine_plan_rules, t_machine_plan_slack, t_machine_plan_limit, t_machine_plan_least, t_machine_plan_of, t_machine_plan_set, t_machine_plan_chances, t_machine_leads, t_machine_part, t_machine_keys, t_machine_finer, t_machine_stateOfPart, t_machine_pastOfState, t_machine_steps, t_machine_away)
                else
                  some ((-1), t_machine_pasts, t_machine_states, t_machine_plan_rules, t_machine_plan_slack, t_machine_plan_limit, t_machine_plan_least, t_machine_plan_of, t_machine_plan_set, t_machine_plan_chances, t_machine_leads, t_machine_part, t_machine_keys, t_machine_finer, t_machine_stateOfPart, t_machine_pastOfState, t_machine_steps, t_machine_away)
def rm_X11_row : Room := { frames := 6, cells := 0, slots := 0, locals := 137 }
set_option maxHeartbeats 4000000 in
set_option maxRecDepth 100000 in
theorem k_X11_row {l : Launch} {D : va_G} {E : Nat → ClassId} (n : Nat) (a_t a_t_reader_text a_t_reader a_t_sheet a_t_history a_t_images a_t_kept a_t_walk a_t_machine a_t_outlook a_t_means a_t_singles a_t_sheet_plan a_t_sheet_rows a_t_sheet_rows_times a_t_sheet_rows_signs a_t_walk_met a_t_walk_past a_t_walk_up a_t_walk_down a_t_walk_signals a_t_machine_plan a_t_machine_leads a_t_machine_part a_t_machine_finer a_t_machine_keys a_t_machine_stateOfPart a_t_machine_pastOfState a_t_machine_steps a_t_machine_away a_t_machine_plan_least a_t_machine_plan_of a_t_machine_plan_set a_t_machine_plan_chances a_t_sheet_plan_least a_t_sheet_plan_of a_t_sheet_plan_set a_t_sheet_plan_chances : Nat) (t_sheet_rows_size : Int) (t_sheet_rows_times : Nat → Int) (t_sheet_rows_signs : Nat → Int) (t_walk_met : Nat → Int) (t_machine_pasts : Int) (t_machine_states : Int) (t_machine_plan_rules : Int) (t_machine_plan_slack : Int) (t_machine_plan_limit : Int) (t_sheet_plan_rules : Int) (t_sheet_plan_slack : Int) (t_sheet_plan_limit : Int) (t_machine_plan_least : Nat → Int) (t_sheet_plan_least : Nat → Int) (t_machine_plan_of : Nat → Int) (t_sheet_plan_of : Nat → Int) (t_machine_plan_set : Nat → Int) (t_sheet_plan_set : Nat → Int) (t_sheet_plan_chances : Nat → Int) (t_machine_plan_chances : Nat → Int) (t_machine_leads : Nat → Int) (t_machine_part : Nat → Int) (t_machine_keys : Nat → Int) (t_machine_finer : Nat → Int) (t_machine_stateOfPart : Nat → Int) (t_machine_pastOfState : Nat → Int) (t_machine_steps : Nat → Int) (t_machine_away : Nat → Int) (t_walk_past : Nat → Int) (t_walk_up : Nat → Int) (t_walk_down : Nat → Int) (t_walk_signals : Nat → Int) (x1 : Int) (x2 : Int) (res : Int × Int × Int × Int × Int × Int × (Nat → Int) × (Nat → Int) × (Nat → Int) × (Nat → Int) × (Nat → Int) × (Nat → Int) × (Nat → Int) × (Nat → Int) × (Nat → Int) × (Nat → Int) × (Nat → Int) × (Nat → Int)) (hf : F_X11_row n t_sheet_rows_size t_sheet_rows_times t_sheet_rows_signs t_walk_met t_machine_pasts t_machine_states t_machine_plan_rules t_machine_plan_slack t_machine_plan_limit t_sheet_plan_rules t_sheet_plan_slack t_sheet_plan_limit t_machine_plan_least t_sheet_plan_least t_machine_plan_of t_sheet_plan_of t_machine_plan_set t_sheet_plan_set t_sheet_plan_chances t_machine_plan_chances t_machine_leads t_machine_part t_machine_keys t_machine_finer t_machine_stateOfPart t_machine_pastOfState t_machine_steps t_machine_away t_walk_past t_walk_up t_walk_down t_walk_signals x1 x2 = some res) : MW l yX11_row (.code yX11_row cX11_row 3 (some .int)) rm_X11_row D E [.ref a_t, .int (z4 x1), .int (z4 x2)] [(a_t, .inr (11, [.ref a_t_reader_text, .ref a_t_reader, .ref a_t_sheet, .ref a_t_history, .ref a_t_images, .ref a_t_kept, .ref a_t_walk, .ref a_t_machine, .ref a_t_outlook, .ref a_t_means, .ref a_t_singles])), (a_t_sheet, .inr (7, [.ref a_t_sheet_plan, .ref a_t_sheet_rows])), (a_t_sheet_rows, .inr (6, [.int (z4 t_sheet_rows_size), .ref a_t_sheet_rows_times, .ref a_t_sheet_rows_signs])), (a_t_sheet_rows_times, .inl (E 0, 40, .inl (A4 t_sheet_rows_times))), (a_t_sheet_rows_signs, .inl (E 0, 40, .inl (A4 t_sheet_rows_signs))), (a_t_walk, .inr (10, [.ref a_t_walk_met, .ref a_t_walk_past, .ref a_t_walk_up, .ref a_t_walk_down, .ref a_t_walk_signals])), (a_t_walk_met, .inl (E 0, 40, .inl (A4 t_walk_met))), (a_t_machine, .inr (1, [.ref a_t_machine_plan, .int (z4 t_machine_pasts), .ref a_t_machine_leads, .ref a_t_machine_part, .ref a_t_machine_finer, .ref a_t_machine_keys, .ref a_t_machine_stateOfPart, .ref a_t_machine_pastOfState, .int (z4 t_machine_states), .ref a_t_machine_steps, .ref a_t_machine_away])), (a_t_machine_plan, .inr (4, [.int (z4 t_machine_plan_rules), .ref a_t_machine_plan_least, .ref a_t_machine_plan_of, .ref a_t_machine_plan_set, .ref a_t_machine_plan_chances, .int (z4 t_machine_plan_slack), .int (z4 t_machine_plan_limit)])), (a_t_sheet_plan, .inr (4, [.int (z4 t_sheet_plan_rules), .ref a_t_sheet_plan_least, .ref a_t_sheet_plan_of, .ref a_t_sheet_plan_set, .ref a_t_sheet_plan_chances, .int (z4 t_sheet_plan_slack), .int (z4 t_sheet_plan_limit)])), (a_t_machine_plan_least, .inl (E 0, 3, .inl (A4 t_machine_plan_least))), (a_t_sheet_plan_least, .inl (E 0, 3, .inl (A4 t_sheet_plan_least))), (a_t_machine_plan_of, .inl (E 0, 3, .inl (A4 t_machine_plan_of))), (a_t_sheet_plan_of, .inl (E 0, 3, .inl (A4 t_sheet_plan_of))), (a_t_machine_plan_set, .inl (E 0, 3, .inl (A4 t_machine_plan_set))), (a_t_sheet_plan_set, .inl (E 0, 3, .inl (A4 t_sheet_plan_set))), (a_t_sheet_plan_chances, .inl (E 0, 5, .inl (A4 t_sheet_plan_chances))), (a_t_machine_plan_chances, .inl (E 0, 5, .inl (A4 t_machine_plan_chances))), (a_t_machine_leads, .inl (E 0, 320, .inl (A4 t_machine_leads))), (a_t_machine_part, .inl (E 0, 64, .inl (A4 t_machine_part))), (a_t_machine_keys, .inl (E 0, 64, .inl (A4 t_machine_keys))), (a_t_machine_finer, .inl (E 0, 64, .inl (A4 t_machine_finer))), (a_t_machine_stateOfPart, .inl (E 0, 64, .inl (A4 t_machine_stateOfPart))), (a_t_machine_pastOfState, .inl (E 0, 64, .inl (A4 t_machine_pastOfState))), (a_t_machine_steps, .inl (E 0, 320, .inl (A4 t_machine_steps))), (a_t_machine_away, .inl (E 0, 64, .inl (A4 t_machine_away))), (a_t_walk_past, .inl (E 0, 40, .inl (A4 t_walk_past))), (a_t_walk_up, .inl (E 0, 40, .inl (A4 t_walk_up))), (a_t_walk_down, .inl (E 0, 40, .inl (A4 t_walk_down))), (a_t_walk_signals, .inl (E 0, 40, .inl (A4 t_walk_signals)))] (some (.int (z4 res.1))) [(a_t, .inr (11, [.ref a_t_reader_text, .ref a_t_reader, .ref a_t_sheet, .ref a_t_history, .ref a_t_images, .ref a_t_kept, .ref a_t_walk, .ref a_t_machine, .ref a_t_outlook, .ref a_t_means, .ref a_t_singles])), (a_t_sheet, .inr (7, [.ref a_t_sheet_plan, .ref a_t_sheet_rows])), (a_t_sheet_rows, .inr (6, [.int (z4 t_sheet_rows_size), .ref a_t_sheet_rows_times, .ref a_t_sheet_rows_signs])), (a_t_sheet_rows_times, .inl (E 0, 40, .inl (A4 t_sheet_rows_times))), (a_t_sheet_rows_signs, .inl (E 0, 40, .inl (A4 t_sheet_rows_signs))), (a_t_walk, .inr (10, [.ref a_t_walk_met, .ref a_t_walk_past, .ref a_t_walk_up, .ref a_t_walk_down, .ref a_t_walk_signals])), (a_t_walk_met, .inl (E 0, 40, .inl (A4 t_walk_met))), (a_t_machine, .inr (1, [.ref a_t_machine_plan, .int (z4 res.2.1), .ref a_t_machine_leads, .ref a_t_machine_part, .ref a_t_machine_finer, .ref a_t_machine_keys, .ref a_t_machine_stateOfPart, .ref a_t_machine_pastOfState, .int (z4 res.2.2.1), .ref a_t_machine_steps, .ref a_t_machine_away])), (a_t_machine_plan, .inr (4, [.int (z4 res.2.2.2.1), .ref a_t_machine_plan_least, .ref a_t_machine_plan_of, .ref a_t_machine_plan_set, .ref a_t_machine_plan_chances, .int (z4 res.2.2.2.2.1), .int (z4 res.2.2.2.2.2.1)])), (a_t_sheet_plan, .inr (4, [.int (z4 t_sheet_plan_rules), .ref a_t_sheet_plan_least, .ref a_t_sheet_plan_of, .ref a_t_sheet_plan_set, .ref a_t_sheet_plan_chances, .int (z4 t_sheet_plan_slack), .int (z4 t_sheet_plan_limit)])), (a_t_machine_plan_least, .inl (E 0, 3, .inl (A4 res.2.2.2.2.2.2.1))), (a_t_sheet_plan_least, .inl (E 0, 3, .inl (A4 t_sheet_plan_least))), (a_t_machine_plan_of, .inl (E 0, 3, .inl (A4 res.2.2.2.2.2.2.2.1))), (a_t_sheet_plan_of, .inl (E 0, 3, .inl (A4 t_sheet_plan_of))), (a_t_machine_plan_set, .inl (E 0, 3, .inl (A4 res.2.2.2.2.2.2.2.2.1))), (a_t_sheet_plan_set, .inl (E 0, 3, .inl (A4 t_sheet_plan_set))), (a_t_sheet_plan_chances, .inl (E 0, 5, .inl (A4 t_sheet_plan_chances))), (a_t_machine_plan_chances, .inl (E 0, 5, .inl (A4 res.2.2.2.2.2.2.2.2.2.1))), (a_t_machine_leads, .inl (E 0, 320, .inl (A4 res.2.2.2.2.2.2.2.2.2.2.1))), (a_t_machine_part, .inl (E 0, 64, .inl (A4 res.2.2.2.2.2.2.2.2.2.2.2.1))), (a_t_machine_keys, .inl (E 0, 64, .inl (A4 res.2.2.2.2.2.2.2.2.2.2.2.2.1))), (a_t_machine_finer, .inl (E 0, 64, .inl (A4 res.2.2.2.2.2.2.2.2.2.2.2.2.2.1))), (a_t_machine_stateOfPart, .inl (E 0, 64, .inl (A4 res.2.2.2.2.2.2.2.2.2.2.2.2.2.2.1))), (a_t_machine_pastOfState, .inl (E 0, 64, .inl (A4 res.2.2.2.2.2.2.2.2.2.2.2.2.2.2.2.1))), (a_t_machine_steps, .inl (E 0, 320, .inl (A4 res.2.2.2.2.2.2.2.2.2.2.2.2.2.2.2.2.1))), (a_t_machine_away, .inl (E 0, 64, .inl (A4 res.2.2.2.2.2.2.2.2.2.2.2.2.2.2.2.2.2))), (a_t_walk_past, .inl (E 0, 40, .inl (A4 t_walk_past))), (a_t_walk_up, .inl (E 0, 40, .inl (A4 t_walk_up))), (a_t_walk_down, .inl (E 0, 40, .inl (A4 t_walk_down))), (a_t_walk_signals, .inl (E 0, 40, .inl (A4 t_walk_signals)))] := by
  refine MWi (by decide) (Nat.le_of_ble_eq_true rfl) ?_
  intro p e s m args below meth c A Q X hK hP hD hA ret ls hl
  have hS : va_S A s.heap s.heap [] := va_S.rf
  have hx := X.1
  have hb := X.2.1
  have hl : lv_has ls 3 [(0, .ref a_t), (1, .int (z4 x1)), (2, .int (z4 x2))] := hl
  unfold F_X11_row at hf
  refine lv_aload_n hx hb dX11_row_0 rfl (lv_at hl 0 rfl) ?_
  refine lv_iload_n hx hb dX11_row_1 rfl (lv_at hl 1 rfl) ?_
  obtain ⟨o1, ho, hf⟩ := bd_some hf
  refine m_cVR X hK (k_X11_isRow n a_t a_t_reader_text a_t_reader a_t_sheet a_t_history a_t_images a_t_kept a_t_walk a_t_machine a_t_outlook a_t_means a_t_singles a_t_sheet_plan a_t_sheet_rows a_t_sheet_rows_times a_t_sheet_rows_signs t_sheet_rows_size x1 o1 ho) (hP.sub [0, 1, 2] rfl) rfl cl_X11 lk_X11_124 co_X11_isRow dy_X11_isRow rfl rfl ⟨Nat.le_of_ble_eq_true rfl, Nat.le_of_ble_eq_true rfl⟩ hl.1 rfl (Nat.le_of_ble_eq_true rfl) dX11_row_2 (Nat.zero_le _) (Nat.zero_le _) ?_
  obtain ⟨h2, hf⟩ := ck_some hf
  refine m_if_ne X h2 dX11_row_5 (tgt := 10) (by decide) (fun (hc_ : ¬ (o1 = 0)) => ?_) (fun (hc_ : o1 = 0) => ?_)
  · rw [if_neg hc_] at hf
    refine lv_iload_n hx hb dX11_row_10 rfl (lv_at hl 2 rfl) ?_
    obtain ⟨h3, hf⟩ := ck_some hf
    by_cases hc0 : x2 = 0
    · rw [if_pos hc0] at hf
      refine m_swIn X h3 0 hc0 (by decide) dX11_row_11 rfl (tgt := 52) (by decide) ?_
      refine lv_aload_n hx hb dX11_row_52 rfl (lv_at hl 0 rfl) ?_
      refine m_get X hK hP cl_X11 iT_X11 2 (by decide) fl_X11_24 0 rfl rfl dX11_row_53 ?_
      refine m_get X hK hP cl_X7 iT_X7 1 (by decide) fl_X11_114 1 rfl rfl dX11_row_56 ?_
      refine m_get X hK hP cl_X6 iT_X6 1 (by decide) fl_X11_127 2 rfl rfl dX11_row_59 ?_
      refine lv_iload_n hx hb dX11_row_62 rfl (lv_at hl 1 rfl) ?_
      obtain ⟨h4, hf⟩ := ck_some hf
      refine m_iald X hK hP 3 rfl (by decide) h4 dX11_row_63 ?_
      obtain rfl := Option.some.inj hf
      exact ret _ _ _ _ hP hD hS dX11_row_64
    · rw [if_neg hc0] at hf
      by_cases hc1 : x2 = 1
      · rw [if_pos hc1] at hf
        refine m_swIn X h3 1 hc1 (by decide) dX11_row_11 rfl (tgt := 65) (by decide) ?_
        refine lv_aload_n hx hb dX11_row_65 rfl (lv_at hl 0 rfl) ?_
        refine m_get X hK hP cl_X11 iT_X11 2 (by decide) fl_X11_24 0 rfl rfl dX11_row_66 ?_
        refine m_get X hK hP cl_X7 iT_X7 1 (by decide) fl_X11_114 1 rfl rfl dX11_row_69 ?_
        refine m_get X hK hP cl_X6 iT_X6 2 (by decide) fl_X11_139 2 rfl rfl dX11_row_72 ?_
        refine lv_iload_n hx hb dX11_row_75 rfl (lv_at hl 1 rfl) ?_
        obtain ⟨h5, hf⟩ := ck_some hf
        refine m_iald X hK hP 4 rfl (by decide) h5 dX11_row_76 ?_
        obtain rfl := Option.some.inj hf
        exact ret _ _ _ _ hP hD hS dX11_row_77
      · rw [if_neg hc1] at hf
        by_cases hc2 : x2 = 2
        · rw [if_pos hc2] at hf
          refine m_swIn X h3 2 hc2 (by decide) dX11_row_11 rfl (tgt := 78) (by decide) ?_
          refine lv_aload_n hx hb dX11_row_78 rfl (lv_at hl 0 rfl) ?_
          refine m_get X hK hP cl_X11 iT_X11 6 (by decide) fl_X11_46 0 rfl rfl dX11_row_79 ?_
          refine m_get X hK hP cl_X10 iT_X10 0 (by decide) fl_X11_161 5 rfl rfl dX11_row_82 ?_
          refine lv_iload_n hx hb dX11_row_85 rfl (lv_at hl 1 rfl) ?_
          obtain ⟨h6, hf⟩ := ck_some hf
          refine m_iald X hK hP 6 rfl (by decide) h6 dX11_row_86 ?_
          obtain rfl := Option.some.inj hf
          exact ret _ _ _ _ hP hD hS dX11_row_87
        · rw [if_neg hc2] at hf
          by_cases hc3 : x2 = 3
          · rw [if_pos hc3] at hf
            refine m_swIn X h3 3 hc3 (by decide) dX11_row_11 rfl (tgt := 88) (by decide) ?_
            refine lv_aload_n hx hb dX11_row_88 rfl (lv_at hl 0 rfl) ?_
            obtain ⟨o7, ho, hf⟩ := bd_some hf
            refine m_cVW X hK hP hD hS hA (wr := [(a_t_sheet_rows, .inr (6, [.int (z4 t_sheet_rows_size), .ref a_t_sheet_rows_times, .ref a_t_sheet_rows_signs])), (a_t_sheet_rows_times, .inl (E 0, 40, .inl (A4 t_sheet_rows_times))), (a_t_sheet_rows_signs, .inl (E 0, 40, .inl (A4 t_sheet_rows_signs))), (a_t_walk, .inr (10, [.ref a_t_walk_met, .ref a_t_walk_past, .ref a_t_walk_up, .ref a_t_walk_down, .ref a_t_walk_signals])), (a_t_walk_met, .inl (E 0, 40, .inl (A4 t_walk_met))), (a_t_walk_past, .inl (E 0, 40, .inl (A4 t_walk_past))), (a_t_walk_up, .inl (E 0, 40, .inl (A4 t_walk_up))), (a_t_walk_down, .inl (E 0, 40, .inl (A4 t_walk_down))), (a_t_walk_signals, .inl (E 0, 40, .inl (A4 t_walk_signals)))]) (k_X11_fitted n a_t a_t_reader_text a_t_reader a_t_sheet a_t_history a_t_images a_t_kept a_t_walk a_t_machine a_t_outlook a_t_means a_t_singles a_t_sheet_plan a_t_sheet_rows a_t_machine_plan a_t_machine_leads a_t_machine_part a_t_machine_finer a_t_machine_keys a_t_machine_stateOfPart a_t_machine_pastOfState a_t_machine_steps a_t_machine_away a_t_machine_plan_least a_t_machine_plan_of a_t_machine_plan_set a_t_machine_plan_chances a_t_sheet_plan_least a_t_sheet_plan_of a_t_sheet_plan_set a_t_sheet_plan_chances t_machine_pasts t_machine_states t_machine_plan_rules t_machine_plan_slack t_machine_plan_limit t_sheet_plan_rules t_sheet_plan_slack t_sheet_plan_limit t_machine_plan_least t_sheet_plan_least t_machine_plan_of t_sheet_plan_of t_machine_plan_set t_sheet_plan_set t_sheet_plan_chances t_machine_plan_chances t_machine_leads t_machine_part t_machine_keys t_machine_finer t_machine_stateOfPart t_machine_pastOfState t_machine_steps t_machine_away o7 ho) [0, 1, 7, 8, 9, 10, 11, 12, 13, 14, 15, 16, 17, 18, 19, 20, 21, 22, 23, 24, 25] [2, 3, 4, 5, 6, 26, 27, 28, 29] [9, 10, 0, 1, 2, 3, 4, 11, 12, 13, 14, 15, 16, 17, 18, 19, 20, 21, 22, 23, 24, 25, 26, 27, 28, 29, 5, 6, 7, 8] [(a_t, .inr (11, [.ref a_t_reader_text, .ref a_t_reader, .ref a_t_sheet, .ref a_t_history, .ref a_t_images, .ref a_t_kept, .ref a_t_walk, .ref a_t_machine, .ref a_t_outlook, .ref a_t_means, .ref a_t_singles])), (a_t_sheet, .inr (7, [.ref a_t_sheet_plan, .ref a_t_sheet_rows])), (a_t_sheet_rows, .inr (6, [.int (z4 t_sheet_rows_size), .ref a_t_sheet_rows_times, .ref a_t_sheet_rows_signs])), (a_t_sheet_rows_times, .inl (E 0, 40, .inl (A4 t_sheet_rows_times))), (a_t_sheet_rows_signs, .inl (E 0, 40, .inl (A4 t_sheet_rows_signs))), (a_t_walk, .inr (10, [.ref a_t_walk_met, .ref a_t_walk_past, .ref a_t_walk_up, .ref a_t_walk_down, .ref a_t_walk_signals])), (a_t_walk_met, .inl (E 0, 40, .inl (A4 t_walk_met))), (a_t_machine, .inr (1, [.ref a_t_machine_plan, .int (z4 o7.1), .ref a_t_machine_leads, .ref a_t_machine_part, .ref a_t_machine_finer, .ref a_t_machine_keys, .ref a_t_machine_stateOfPart, .ref a_t_machine_pastOfState, .int (z4 o7.2.1), .ref a_t_machine_steps, .ref a_t_machine_away])), (a_t_machine_plan, .inr (4, [.int (z4 o7.2.2.1), .ref a_t_machine_plan_least, .ref a_t_machine_plan_of, .ref a_t_machine_plan_set, .ref a_t_machine_plan_chances, .int (z4 o7.2.2.2.1), .int (z4 o7.2.2.2.2.1)])), (a_t_sheet_plan, .inr (4, [.int (z4 t_sheet_plan_rules), .ref a_t_sheet_plan_least, .ref a_t_sheet_plan_of, .ref a_t_sheet_plan_set, .ref a_t_sheet_plan_chances, .int (z4 t_sheet_plan_slack), .int (z4 t_sheet_plan_limit)])), (a_t_machine_plan_least, .inl (E 0, 3, .inl (A4 o7.2.2.2.2.2.1))), (a_t_sheet_plan_least, .inl (E 0, 3, .inl (A4 t_sheet_plan_least))), (a_t_machine_plan_of, .inl (E 0, 3, .inl (A4 o7.2.2.2.2.2.2.1))), (a_t_sheet_plan_of, .inl (E 0, 3, .inl (A4 t_sheet_plan_of))), (a_t_machine_plan_set, .inl (E 0, 3, .inl (A4 o7.2.2.2.2.2.2.2.1))), (a_t_sheet_plan_set, .inl (E 0, 3, .inl (A4 t_sheet_plan_set))), (a_t_sheet_plan_chances, .inl (E 0, 5, .inl (A4 t_sheet_plan_chances))), (a_t_machine_plan_chances, .inl (E 0, 5, .inl (A4 o7.2.2.2.2.2.2.2.2.1))), (a_t_machine_leads, .inl (E 0, 320, .inl (A4 o7.2.2.2.2.2.2.2.2.2.1))), (a_t_machine_part, .inl (E 0, 64, .inl (A4 o7.2.2.2.2.2.2.2.2.2.2.1))), (a_t_machine_keys, .inl (E 0, 64, .inl (A4 o7.2.2.2.2.2.2.2.2.2.2.2.1))), (a_t_machine_finer, .inl (E 0, 64, .inl (A4 o7.2.2.2.2.2.2.2.2.2.2.2.2.1))), (a_t_machine_stateOfPart, .inl (E 0, 64, .inl (A4 o7.2.2.2.2.2.2.2.2.2.2.2.2.2.1))), (a_t_machine_pastOfState, .inl (E 0, 64, .inl (A4 o7.2.2.2.2.2.2.2.2.2.2.2.2.2.2.1))), (a_t_machine_steps, .inl (E 0, 320, .inl (A4 o7.2.2.2.2.2.2.2.2.2.2.2.2.2.2.2.1))), (a_t_machine_away, .inl (E 0, 64, .inl (A4 o7.2.2.2.2.2.2.2.2.2.2.2.2.2.2.2.2))), (a_t_walk_past, .inl (E 0, 40, .inl (A4 t_walk_past))), (a_t_walk_up, .inl (E 0, 40, .inl (A4 t_walk_up))), (a_t_walk_down, .inl (E 0, 40, .inl (A4 t_walk_down))), (a_t_walk_signals, .inl (E 0, 40, .inl (A4 t_walk_signals)))] rfl rfl rfl rfl (by decide) rfl rfl rfl cl_X11 lk_X11_164 co_X11_fitted dy_X11_fitted rfl rfl ⟨Nat.le_of_ble_eq_true rfl, Nat.le_of_ble_eq_true rfl⟩ hl.1 rfl (Nat.le_of_ble_eq_true rfl) dX11_row_89 (Nat.zero_le _) (Nat.zero_le _) (fun H locs hP hD hS => ?_)
            refine lv_aload_n hx hb dX11_row_92 rfl (lv_at hl 0 rfl) ?_
            refine m_get X hK hP cl_X11 iT_X11 6 (by decide) fl_X11_46 0 rfl rfl dX11_row_93 ?_
            refine m_get X hK hP cl_X10 iT_X10 1 (by decide) fl_X11_168 5 rfl rfl dX11_row_96 ?_
            refine lv_iload_n hx hb dX11_row_99 rfl (lv_at hl 1 rfl) ?_
            obtain ⟨h8, hf⟩ := ck_some hf
            refine m_iald X hK hP 26 rfl (by decide) h8 dX11_row_100 ?_
            obtain ⟨o9, ho, hf⟩ := bd_some hf
            refine m_cVR X hK (k_X1_stateBehind n a_t_machine a_t_machine_plan a_t_machine_leads a_t_machine_part a_t_machine_finer a_t_machine_keys a_t_machine_stateOfPart a_t_machine_pastOfState a_t_machine_steps a_t_machine_away o7.1 o7.2.1 o7.2.2.2.2.2.2.2.2.2.2.1 o7.2.2.2.2.2.2.2.2.2.2.2.2.2.1 (t_walk_past (x1).toNat) o9 ho) (hP.sub [7, 19, 22] rfl) rfl cl_X1 lk_X11_171 co_X1_stateBehind dy_X1_stateBehind rfl rfl ⟨Nat.le_of_ble_eq_true rfl, Nat.le_of_ble_eq_true rfl⟩ hl.1 rfl (Nat.le_of_ble_eq_true rfl) dX11_row_101 (Nat.zero_le _) (Nat.zero_le _) ?_
            obtain rfl := Option.some.inj hf
            exact ret _ _ _ _ hP hD hS dX11_row_104
          · rw [if_neg hc3] at hf
            by_cases hc4 : x2 = 4
            · rw [if_pos hc4] at hf
              refine m_swIn X h3 4 hc4 (by decide) dX11_row_11 rfl (tgt := 105) (by decide) ?_
              refine lv_aload_n hx hb dX11_row_105 rfl (lv_at hl 0 rfl) ?_
              refine m_get X hK hP cl_X11 iT_X11 6 (by decide) fl_X11_46 0 rfl rfl dX11_row_106 ?_
              refine m_get X hK hP cl_X10 iT_X10 2 (by decide) fl_X11_174 5 rfl rfl dX11_row_109 ?_
              refine lv_iload_n hx hb dX11_row_112 rfl (lv_at hl 1 rfl) ?_
              obtain ⟨h10, hf⟩ := ck_some hf
              refine m_iald X hK hP 27 rfl (by decide) h10 dX11_row_113 ?_
              obtain rfl := Option.some.inj hf
              exact ret _ _ _ _ hP hD hS dX11_row_114
            · rw [if_neg hc4] at hf
              by_cases hc5 : x2 = 5
              · rw [if_pos hc5] at hf
                refine m_swIn X h3 5 hc5 (by decide) dX11_row_11 rfl (tgt := 115) (by decide) ?_
                refine lv_aload_n hx hb dX11_row_115 rfl (lv_at hl 0 rfl) ?_
                refine m_get X hK hP cl_X11 iT_X11 6 (by decide) fl_X11_46 0 rfl rfl dX11_row_116 ?_
                refine m_get X hK hP cl_X10 iT_X10 3 (by decide) fl_X11_177 5 rfl rfl dX11_row_119 ?_
                refine lv_iload_n hx hb dX11_row_122 rfl (lv_at hl 1 rfl) ?_
                obtain ⟨h11, hf⟩ := ck_some hf
                refine m_iald X hK hP 28 rfl (by decide) h11 dX11_row_123 ?_
                obtain rfl := Option.some.inj hf
                exact ret _ _ _ _ hP hD hS dX11_row_124
              · rw [if_neg hc5] at hf
                by_cases hc6 : x2 = 6
                · rw [if_pos hc6] at hf
                  refine m_swIn X h3 6 hc6 (by decide) dX11_row_11 rfl (tgt := 125) (by decide) ?_
                  refine lv_aload_n hx hb dX11_row_125 rfl (lv_at hl 0 rfl) ?_
                  refine m_get X hK hP cl_X11 iT_X11 6 (by decide) fl_X11_46 0 rfl rfl dX11_row_126 ?_
                  refine m_get X hK hP cl_X10 iT_X10 4 (by decide) fl_X11_180 5 rfl rfl dX11_row_129 ?_
                  refine lv_iload_n hx hb dX11_row_132 rfl (lv_at hl 1 rfl) ?_
                  obtain ⟨h12, hf⟩ := ck_some hf
                  refine m_iald X hK hP 29 rfl (by decide) h12 dX11_row_133 ?_
                  obtain rfl := Option.some.inj hf
                  exact ret _ _ _ _ hP hD hS dX11_row_134
                · rw [if_neg hc6] at hf
                  refine m_swOut X h3 (by omega) dX11_row_11 (tgt := 135) (by decide) ?_
                  refine m_iconst X dX11_row_135 ?_
                  obtain rfl := Option.some.inj hf
                  exact ret _ _ _ _ hP hD hS dX11_row_136
  · rw [if_pos hc_] at hf
    refine m_iconst X dX11_row_8 ?_
    obtain rfl := Option.some.inj hf
    exact ret _ _ _ _ hP hD hS dX11_row_9
def F_X11_alarm (n : Nat)  (t_sheet_rows_size : Int) (t_walk_met : Nat → Int) (t_sheet_rows_times : Nat → Int) (x1 : Int) : Option (Int) :=
  (F_X11_timeOfMark n t_sheet_rows_size t_walk_met t_sheet_rows_times x1).bind fun o1 =>
  some o1
def rm_X11_alarm : Room := { frames := 1, cells := 0, slots := 0, locals := 24 }
set_option maxHeartbeats 4000000 in
set_option maxRecDepth 100000 in
theorem k_X11_alarm {l : Launch} {D : va_G} {E : Nat → ClassId} (n : Nat) (a_t a_t_reader_text a_t_reader a_t_sheet a_t_history a_t_images a_t_kept a_t_walk a_t_machine a_t_outlook a_t_means a_t_singles a_t_walk_met a_t_walk_past a_t_walk_up a_t_walk_down a_t_walk_signals a_t_sheet_plan a_t_sheet_rows a_t_sheet_rows_times a_t_sheet_rows_signs : Nat) (t_sheet_rows_size : Int) (t_walk_met : Nat → Int) (t_sheet_rows_times : Nat → Int) (x1 : Int) (res : Int) (hf : F_X11_alarm n t_sheet_rows_size t_walk_met t_sheet_rows_times x1 = some res) : MR l yX11_alarm (.code yX11_alarm cX11_alarm 2 (some .int)) rm_X11_alarm D E [.ref a_t, .int (z4 x1)] [(a_t, .inr (11, [.ref a_t_reader_text, .ref a_t_reader, .ref a_t_sheet, .ref a_t_history, .ref a_t_images, .ref a_t_kept, .ref a_t_walk, .ref a_t_machine, .ref a_t_outlook, .ref a_t_means, .ref a_t_singles])), (a_t_walk, .inr (10, [.ref a_t_walk_met, .ref a_t_walk_past, .ref a_t_walk_up, .ref a_t_walk_down, .ref a_t_walk_signals])), (a_t_sheet, .inr (7, [.ref a_t_sheet_plan, .ref a_t_sheet_rows])), (a_t_sheet_rows, .inr (6, [.int (z4 t_sheet_rows_size), .ref a_t_sheet_rows_times, .ref a_t_sheet_rows_signs])), (a_t_walk_met, .inl (E 0, 40, .inl (A4 t_walk_met))), (a_t_sheet_rows_times, .inl (E 0, 40, .inl (A4 t_sheet_rows_times)))] (some (.int (z4 res))) := by
  refine MRi (by decide) (Nat.le_of_ble_eq_true rfl) ?_
  intro p e s m args below meth c Q X hK hP ret ls hl
  have hx := X.1
  have hb := X.2.1
  have hl : lv_has ls 2 [(0, .ref a_t), (1, .int (z4 x1))] := hl
  unfold F_X11_alarm at hf
  refine lv_aload_n hx hb dX11_alarm_0 rfl (lv_at hl 0 rfl) ?_
  refine lv_aload_n hx hb dX11_alarm_1 rfl (lv_at hl 0 rfl) ?_
  refine m_get X hK hP cl_X11 iT_X11 6 (by decide) fl_X11_46 0 rfl rfl dX11_alarm_2 ?_
  refine m_get X hK hP cl_X10 iT_X10 0 (by decide) fl_X11_161 1 rfl rfl dX11_alarm_5 ?_
  refine lv_iload_n hx hb dX11_alarm_8 rfl (lv_at hl 1 rfl) ?_
  obtain ⟨o1, ho, hf⟩ := bd_some hf
  refine m_cVR X hK (k_X11_timeOfMark n a_t a_t_reader_text a_t_reader a_t_sheet a_t_history a_t_images a_t_kept a_t_walk a_t_machine a_t_outlook a_t_means a_t_singles a_t_sheet_plan a_t_sheet_rows a_t_sheet_rows_times a_t_sheet_rows_signs a_t_walk_met t_sheet_rows_size t_walk_met t_sheet_rows_times x1 o1 ho) (hP.sub [0, 2, 3, 4, 5] rfl) rfl cl_X11 lk_X11_183 co_X11_timeOfMark dy_X11_timeOfMark rfl rfl ⟨Nat.le_of_ble_eq_true rfl, Nat.le_of_ble_eq_true rfl⟩ hl.1 rfl (Nat.le_of_ble_eq_true rfl) dX11_alarm_9 (Nat.zero_le _) (Nat.zero_le _) ?_
  obtain rfl := Option.some.inj hf
  exact ret _ _ dX11_alarm_12
def F_X11_signal (n : Nat)  (t_sheet_rows_size : Int) (t_walk_signals : Nat → Int) (t_sheet_rows_times : Nat → Int) (x1 : Int) : Option (Int) :=
  (F_X11_timeOfMark n t_sheet_rows_size t_walk_signals t_sheet_rows_times x1).bind fun o1 =>
  some o1
def rm_X11_signal : Room := { frames := 1, cells := 0, slots := 0, locals := 24 }
set_option maxHeartbeats 4000000 in
set_option maxRecDepth 100000 in
theorem k_X11_signal {l : Launch} {D : va_G} {E : Nat → ClassId} (n : Nat) (a_t a_t_reader_text a_t_reader a_t_sheet a_t_history a_t_images a_t_kept a_t_walk a_t_machine a_t_outlook a_t_means a_t_singles a_t_walk_met a_t_walk_past a_t_walk_up a_t_walk_down a_t_walk_signals a_t_sheet_plan a_t_sheet_rows a_t_sheet_rows_times a_t_sheet_rows_signs : Nat) (t_sheet_rows_size : Int) (t_walk_signals : Nat → Int) (t_sheet_rows_times : Nat → Int) (x1 : Int) (res : Int) (hf : F_X11_signal n t_sheet_rows_size t_walk_signals t_sheet_rows_times x1 = some res) : MR l yX11_signal (.code yX11_signal cX11_signal 2 (some .int)) rm_X11_signal D E [.ref a_t, .int (z4 x1)] [(a_t, .inr (11, [.ref a_t_reader_text, .ref a_t_reader, .ref a_t_sheet, .ref a_t_history, .ref a_t_images, .ref a_t_kept, .ref a_t_walk, .ref a_t_machine, .ref a_t_outlook, .ref a_t_means, .ref a_t_singles])), (a_t_walk, .inr (10, [.ref a_t_walk_met, .ref a_t_walk_past, .ref a_t_walk_up, .ref a_t_walk_down, .ref a_t_walk_signals])), (a_t_sheet, .inr (7, [.ref a_t_sheet_plan, .ref a_t_sheet_rows])), (a_t_sheet_rows, .inr (6, [.int (z4 t_sheet_rows_size), .ref a_t_sheet_rows_times, .ref a_t_sheet_rows_signs])), (a_t_walk_signals, .inl (E 0, 40, .inl (A4 t_walk_signals))), (a_t_sheet_rows_times, .inl (E 0, 40, .inl (A4 t_sheet_rows_times)))] (some (.int (z4 res))) := by
  refine MRi (by decide) (Nat.le_of_ble_eq_true rfl) ?_
  intro p e s m args below meth c Q X hK hP ret ls hl
  have hx := X.1
  have hb := X.2.1
  have hl : lv_has ls 2 [(0, .ref a_t), (1, .int (z4 x1))] := hl
  unfold F_X11_signal at hf
  refine lv_aload_n hx hb dX11_signal_0 rfl (lv_at hl 0 rfl) ?_
  refine lv_aload_n hx hb dX11_signal_1 rfl (lv_at hl 0 rfl) ?_
  refine m_get X hK hP cl_X11 iT_X11 6 (by decide) fl_X11_46 0 rfl rfl dX11_signal_2 ?_
  refine m_get X hK hP cl_X10 iT_X10 4 (by decide) fl_X11_180 1 rfl rfl dX11_signal_5 ?_
  refine lv_iload_n hx hb dX11_signal_8 rfl (lv_at hl 1 rfl) ?_
  obtain ⟨o1, ho, hf⟩ := bd_some hf
  refine m_cVR X hK (k_X11_timeOfMark n a_t a_t_reader_text a_t_reader a_t_sheet a_t_history a_t_images a_t_kept a_t_walk a_t_machine a_t_outlook a_t_means a_t_singles a_t_sheet_plan a_t_sheet_rows a_t_sheet_rows_times a_t_sheet_rows_signs a_t_walk_signals t_sheet_rows_size t_walk_signals t_sheet_rows_times x1 o1 ho) (hP.sub [0, 2, 3, 4, 5] rfl) rfl cl_X11 lk_X11_183 co_X11_timeOfMark dy_X11_timeOfMark rfl rfl ⟨Nat.le_of_ble_eq_true rfl, Nat.le_of_ble_eq_true rfl⟩ hl.1 rfl (Nat.le_of_ble_eq_true rfl) dX11_signal_9 (Nat.zero_le _) (Nat.zero_le _) ?_
  obtain rfl := Option.some.inj hf
  exact ret _ _ dX11_signal_12
def F_X11_step (n : Nat)  (t_machine_pasts : Int) (t_machine_states : Int) (t_machine_plan_rules : Int) (t_machine_plan_slack : Int) (t_machine_plan_limit : Int) (t_sheet_plan_rules : Int) (t_sheet_plan_slack : Int) (t_sheet_plan_limit : Int) (t_machine_plan_least : Nat → Int) (t_sheet_plan_least : Nat → Int) (t_machine_plan_of : Nat → Int) (t_sheet_plan_of : Nat → Int) (t_machine_plan_set : Nat → Int) (t_sheet_plan_set : Nat → Int) (t_sheet_plan_chances : Nat → Int) (t_machine_plan_chances : Nat → Int) (t_machine_leads : Nat → Int) (t_machine_part : Nat → Int) (t_machine_keys : Nat → Int) (t_machine_finer : Nat → Int) (t_machine_stateOfPart : Nat → Int) (t_machine_pastOfState : Nat → Int) (t_machine_steps : Nat → Int) (t_machine_away : Nat → Int) (x1 : Int) (x2 : Int) : Option (Int × Int × Int × Int × Int × Int × (Nat → Int) × (Nat → Int) × (Nat → Int) × (Nat → Int) × (Nat → Int) × (Nat → Int) × (Nat → Int) × (Nat → Int) × (Nat → Int) × (Nat → Int) × (Nat → Int) × (Nat → Int)) :=
  (F_X11_isSign n x2).bind fun o1 =>
  ck (r4 o1) <|
  if o1 = 0 then
    some ((-1), t_machine_pasts, t_machine_states, t_machine_plan_rules, t_machine_plan_slack, t_machine_plan_limit, t_machine_plan_least, t_machine_plan_of, t_machine_plan_set, t_machine_plan_chances, t_machine_leads, t_machine_part, t_machine_keys, t_machine_finer, t_machine_stateOfPart, t_machine_pastOfState, t_machine_steps, t_machine_away)
  else
    ck (r4 x1) <|
    if x1 < 0 then
      some ((-1), t_machine_pasts, t_machine_states, t_machine_plan_rules, t_machine_plan_slack, t_machine_plan_limit, t_machine_plan_least, t_machine_plan_of, t_machine_plan_set, t_machine_plan_chances, t_machine_leads, t_machine_part, t_machine_keys, t_machine_finer, t_machine_stateOfPart, t_machine_pastOfState, t_machine_steps, t_machine_away)
    else
      (F_X11_fitted n t_machine_pasts t_machine_states t_machine_plan_rules t_machine_plan_slack t_machine_plan_limit t_sheet_plan_rules t_sheet_plan_slack t_sheet_plan_limit t_machine_plan_least t_sheet_plan_least t_machine_plan_of t_sheet_plan_of t_machine_plan_set t_sheet_plan_set t_sheet_plan_chances t_machine_plan_chances t_machine_leads t_machine_part t_machine_keys t_machine_finer t_machine_stateOfPart t_machine_pastOfState t_machine_steps t_machine_away).bind fun o4 =>
      ck (r4 x1 ∧ r4 o4.2.1) <|
      if x1 < o4.2.1 then
        ck (r4 x1) <|
        if x1 < 64 then
          ck (ix_ ((x1 * 5) + x2) 320) <|
          some (o4.2.2.2.2.2.2.2.2.2.2.2.2.2.2.2.1 ((x1 * 5) + x2).toNat, o4.1, o4.2.1, o4.2.2.1, o4.2.2.2.1, o4.2.2.2.2.1, o4.2.2.2.2.2.1, o4.2.2.2.2.2.2.1, o4.2.2.2.2.2.2.2.1, o4.2.2.2.2.2.2.2.2.1, o4.2.2.2.2.2.2.2.2.2.1, o4.2.2.2.2.2.2.2.2.2.2.1, o4.2.2.2.2.2.2.2.2.2.2.2.1, o4.2.2.2.2.2.2.2.2.2.2.2.2.1, o4.2.2.2.2.2.2.2.2.2.2.2.2.2.1, o4.2.2.2.2.2.2.2.2.2.2.2.2.2.2.1, o4.2.2.2.2.2.2.2.2.2.2.2.2.2.2.2.1, o4.2.2.2.2.2.2.2.2.2.2.2.2.2.2.2.2)
        else
          some ((-1), o4.1, o4.2.1, o4.2.2.1, o4.2.2.2.1, o4.2.2.2.2.1, o4.2.2.2.2.2.1, o4.2.2.2.2.2.2.1, o4.2.2.2.2.2.2.2.1, o4.2.2.2.2.2.2.2.2.1, o4.2.2.2.2.2.2.2.2.2.1, o4.2.2.2.2.2.2.2.2.2.2.1, o4.2.2.2.2.2.2.2.2.2.2.2.1, o4.2.2.2.2.2.2.2.2.2.2.2.2.1, o4.2.2.2.2.2.2.2.2.2.2.2.2.2.1, o4.2.2.2.2.2.2.2.2.2.2.2.2.2.2.1, o4.2.2.2.2.2.2.2.2.2.2.2.2.2.2.2.1, o4.2.2.2.2.2.2.2.2.2.2.2.2.2.2.2.2)
      else
        some ((-1), o4.1, o4.2.1, o4.2.2.1, o4.2.2.2.1, o4.2.2.2.2.1, o4.2.2.2.2.2.1, o4.2.2.2.2.2.2.1, o4.2.2.2.2.2.2.2.1, o4.2.2.2.2.2.2.2.2.1, o4.2.2.2.2.2.2.2.2.2.1, o4.2.2.2.2.2.2.2.2.2.2.1, o4.2.2.2.2.2.2.2.2.2.2.2.1, o4.2.2.2.2.2.2.2.2.2.2.2.2.1, o4.2.2.2.2.2.2.2.2.2.2.2.2.2.1, o4.2.2.2.2.2.2.2.2.2.2.2.2.2.2.1, o4.2.2.2.2.2.2.2.2.2.2.2.2.2.2.2.1, o4.2.2.2.2.2.2.2.2.2.2.2.2.2.2.2.2)
def rm_X11_step : Room := { frames := 6, cells := 0, slots := 0, locals := 137 }
set_option maxHeartbeats 4000000 in
set_option maxRecDepth 100000 in
theorem k_X11_step {l : Launch} {D : va_G} {E : Nat → ClassId} (n : Nat) (a_t a_t_reader_text a_t_reader a_t_sheet a_t_history a_t_images a_t_kept a_t_walk a_t_machine a_t_outlook a_t_means a_t_singles a_t_sheet_plan a_t_sheet_rows a_t_machine_plan a_t_machine_leads a_t_machine_part a_t_machine_finer a_t_machine_keys a_t_machine_stateOfPart a_t_machine_pastOfState a_t_machine_steps a_t_machine_away a_t_machine_plan_least a_t_machine_plan_of a_t_machine_plan_set a_t_machine_plan_chances a_t_sheet_plan_least a_t_sheet_plan_of a_t_sheet_plan_set a_t_sheet_plan_chances : Nat) (t_machine_pasts : Int) (t_machine_states : Int) (t_machine_plan_rules : Int) (t_machine_plan_slack : Int) (t_machine_plan_limit : Int) (t_sheet_plan_rules : Int) (t_sheet_plan_slack : Int) (t_sheet_plan_limit : Int) (t_machine_plan_least : Nat → Int) (t_sheet_plan_least : Nat → Int) (t_machine_plan_of : Nat → Int) (t_sheet_plan_of : Nat → Int) (t_machine_plan_set : Nat → Int) (t_sheet_plan_set : Nat → Int) (t_sheet_plan_chances : Nat → Int) (t_machine_plan_chances : Nat → Int) (t_machine_leads : Nat → Int) (t_machine_part : Nat → Int) (t_machine_keys : Nat → Int) (t_machine_finer : Nat → Int) (t_machine_stateOfPart : Nat → Int) (t_machine_pastOfState : Nat → Int) (t_machine_steps : Nat → Int) (t_machine_away : Nat → Int) (x1 : Int) (x2 : Int) (res : Int × Int × Int × Int × Int × Int × (Nat → Int) × (Nat → Int) × (Nat → Int) × (Nat → Int) × (Nat → Int) × (Nat → Int) × (Nat → Int) × (Nat → Int) × (Nat → Int) × (Nat → Int) × (Nat → Int) × (Nat → Int)) (hf : F_X11_step n t_machine_pasts t_machine_states t_machine_plan_rules t_machine_plan_slack t_machine_plan_limit t_sheet_plan_rules t_sheet_plan_slack t_sheet_plan_limit t_machine_plan_least t_sheet_plan_least t_machine_plan_of t_sheet_plan_of t_machine_plan_set t_sheet_plan_set t_sheet_plan_chances t_machine_plan_chances t_machine_leads t_machine_part t_machine_keys t_machine_finer t_machine_stateOfPart t_machine_pastOfState t_machine_steps t_machine_away x1 x2 = some res) : MW l yX11_step (.code yX11_step cX11_step 3 (some .int)) rm_X11_step D E [.ref a_t, .int (z4 x1), .int (z4 x2)] [(a_t, .inr (11, [.ref a_t_reader_text, .ref a_t_reader, .ref a_t_sheet, .ref a_t_history, .ref a_t_images, .ref a_t_kept, .ref a_t_walk, .ref a_t_machine, .ref a_t_outlook, .ref a_t_means, .ref a_t_singles])), (a_t_sheet, .inr (7, [.ref a_t_sheet_plan, .ref a_t_sheet_rows])), (a_t_machine, .inr (1, [.ref a_t_machine_plan, .int (z4 t_machine_pasts), .ref a_t_machine_leads, .ref a_t_machine_part, .ref a_t_machine_finer, .ref a_t_machine_keys, .ref a_t_machine_stateOfPart, .ref a_t_machine_pastOfState, .int (z4 t_machine_states), .ref a_t_machine_steps, .ref a_t_machine_away])), (a_t_machine_plan, .inr (4, [.int (z4 t_machine_plan_rules), .ref a_t_machine_plan_least, .ref a_t_machine_plan_of, .ref a_t_machine_plan_set, .ref a_t_machine_plan_chances, .int (z4 t_machine_plan_slack), .int (z4 t_machine_plan_limit)])), (a_t_sheet_plan, .inr (4, [.int (z4 t_sheet_plan_rules), .ref a_t_sheet_plan_least, .ref a_t_sheet_plan_of, .ref a_t_sheet_plan_set, .ref a_t_sheet_plan_chances, .int (z4 t_sheet_plan_slack), .int (z4 t_sheet_plan_limit)])), (a_t_machine_plan_least, .inl (E 0, 3, .inl (A4 t_machine_plan_least))), (a_t_sheet_plan_least, .inl (E 0, 3, .inl (A4 t_sheet_plan_least))), (a_t_machine_plan_of, .inl (E 0, 3, .inl (A4 t_machine_plan_of))), (a_t_sheet_plan_of, .inl (E 0, 3, .inl (A4 t_sheet_plan_of))), (a_t_machine_plan_set, .inl (E 0, 3, .inl (A4 t_machine_plan_set))), (a_t_sheet_plan_set, .inl (E 0, 3, .inl (A4 t_sheet_plan_set))), (a_t_sheet_plan_chances, .inl (E 0, 5, .inl (A4 t_sheet_plan_chances))), (a_t_machine_plan_chances, .inl (E 0, 5, .inl (A4 t_machine_plan_chances))), (a_t_machine_leads, .inl (E 0, 320, .inl (A4 t_machine_leads))), (a_t_machine_part, .inl (E 0, 64, .inl (A4 t_machine_part))), (a_t_machine_keys, .inl (E 0, 64, .inl (A4 t_machine_keys))), (a_t_machine_finer, .inl (E 0, 64, .inl (A4 t_machine_finer))), (a_t_machine_stateOfPart, .inl (E 0, 64, .inl (A4 t_machine_stateOfPart))), (a_t_machine_pastOfState, .inl (E 0, 64, .inl (A4 t_machine_pastOfState))), (a_t_machine_steps, .inl (E 0, 320, .inl (A4 t_machine_steps))), (a_t_machine_away, .inl (E 0, 64, .inl (A4 t_machine_away)))] (some (.int (z4 res.1))) [(a_t, .inr (11, [.ref a_t_reader_text, .ref a_t_reader, .ref a_t_sheet, .ref a_t_history, .ref a_t_images, .ref a_t_kept, .ref a_t_walk, .ref a_t_machine, .ref a_t_outlook, .ref a_t_means, .ref a_t_singles])), (a_t_sheet, .inr (7, [.ref a_t_sheet_plan, .ref a_t_sheet_rows])), (a_t_machine, .inr (1, [.ref a_t_machine_plan, .int (z4 res.2.1), .ref a_t_machine_leads, .ref a_t_machine_part, .ref a_t_machine_finer, .ref a_t_machine_keys, .ref a_t_machine_stateOfPart, .ref a_t_machine_pastOfState, .int (z4 res.2.2.1), .ref a_t_machine_steps, .ref a_t_machine_away])), (a_t_machine_plan, .inr (4, [.int (z4 res.2.2.2.1), .ref a_t_machine_plan_least, .ref a_t_machine_plan_of, .ref a_t_machine_plan_set, .ref a_t_machine_plan_chances, .int (z4 res.2.2.2.2.1), .int (z4 res.2.2.2.2.2.1)])), (a_t_sheet_plan, .inr (4, [.int (z4 t_sheet_plan_rules), .ref a_t_sheet_plan_least, .ref a_t_sheet_plan_of, .ref a_t_sheet_plan_set, .ref a_t_sheet_plan_chances, .int (z4 t_sheet_plan_slack), .int (z4 t_sheet_plan_limit)])), (a_t_machine_plan_least, .inl (E 0, 3, .inl (A4 res.2.2.2.2.2.2.1))), (a_t_sheet_plan_least, .inl (E 0, 3, .inl (A4 t_sheet_plan_least))), (a_t_machine_plan_of, .inl (E 0, 3, .inl (A4 res.2.2.2.2.2.2.2.1))), (a_t_sheet_plan_of, .inl (E 0, 3, .inl (A4 t_sheet_plan_of))), (a_t_machine_plan_set, .inl (E 0, 3, .inl (A4 res.2.2.2.2.2.2.2.2.1))), (a_t_sheet_plan_set, .inl (E 0, 3, .inl (A4 t_sheet_plan_set))), (a_t_sheet_plan_chances, .inl (E 0, 5, .inl (A4 t_sheet_plan_chances))), (a_t_machine_plan_chances, .inl (E 0, 5, .inl (A4 res.2.2.2.2.2.2.2.2.2.1))), (a_t_machine_leads, .inl (E 0, 320, .inl (A4 res.2.2.2.2.2.2.2.2.2.2.1))), (a_t_machine_part, .inl (E 0, 64, .inl (A4 res.2.2.2.2.2.2.2.2.2.2.2.1))), (a_t_machine_keys, .inl (E 0, 64, .inl (A4 res.2.2.2.2.2.2.2.2.2.2.2.2.1))), (a_t_machine_finer, .inl (E 0, 64, .inl (A4 res.2.2.2.2.2.2.2.2.2.2.2.2.2.1))), (a_t_machine_stateOfPart, .inl (E 0, 64, .inl (A4 res.2.2.2.2.2.2.2.2.2.2.2.2.2.2.1))), (a_t_machine_pastOfState, .inl (E 0, 64, .inl (A4 res.2.2.2.2.2.2.2.2.2.2.2.2.2.2.2.1))), (a_t_machine_steps, .inl (E 0, 320, .inl (A4 res.2.2.2.2.2.2.2.2.2.2.2.2.2.2.2.2.1))), (a_t_machine_away, .inl (E 0, 64, .inl (A4 res.2.2.2.2.2.2.2.2.2.2.2.2.2.2.2.2.2)))] := by
  refine MWi (by decide) (Nat.le_of_ble_eq_true rfl) ?_
  intro p e s m args below meth c A Q X hK hP hD hA ret ls hl
  have hS : va_S A s.heap s.heap [] := va_S.rf
  have hx := X.1
  have hb := X.2.1
  have hl : lv_has ls 3 [(0, .ref a_t), (1, .int (z4 x1)), (2, .int (z4 x2))] := hl
  unfold F_X11_step at hf
  refine lv_iload_n hx hb dX11_step_0 rfl (lv_at hl 2 rfl) ?_
  obtain ⟨o1, ho, hf⟩ := bd_some hf
  refine m_cSR X hK (k_X11_isSign n x2 o1 ho) (hP.sub (ws' := []) [] rfl) lk_X11_110 co_X11_isSign dy_X11_isSign rfl rfl ⟨Nat.le_of_ble_eq_true rfl, Nat.le_of_ble_eq_true rfl⟩ hl.1 rfl (Nat.le_of_ble_eq_true rfl) dX11_step_1 (Nat.zero_le _) (Nat.zero_le _) ?_
  obtain ⟨h2, hf⟩ := ck_some hf
  refine m_if_eq X h2 dX11_step_4 (tgt := 28) (by decide) (fun (hc_ : o1 = 0) => ?_) (fun (hc_ : ¬ (o1 = 0)) => ?_)
  · rw [if_pos hc_] at hf
    refine m_iconst X dX11_step_28 ?_
    obtain rfl := Option.some.inj hf
    exact ret _ _ _ _ hP hD hS dX11_step_29
  · rw [if_neg hc_] at hf
    refine lv_iload_n hx hb dX11_step_7 rfl (lv_at hl 1 rfl) ?_
    obtain ⟨h3, hf⟩ := ck_some hf
    refine m_if_lt X h3 dX11_step_8 (tgt := 28) (by decide) (fun (hc_ : x1 < 0) => ?_) (fun (hc_ : ¬ (x1 < 0)) => ?_)
    · rw [if_pos hc_] at hf
      refine m_iconst X dX11_step_28 ?_
      obtain rfl := Option.some.inj hf
      exact ret _ _ _ _ hP hD hS dX11_step_29
    · rw [if_neg hc_] at hf
      refine lv_iload_n hx hb dX11_step_11 rfl (lv_at hl 1 rfl) ?_
      refine lv_aload_n hx hb dX11_step_12 rfl (lv_at hl 0 rfl) ?_
      obtain ⟨o4, ho, hf⟩ := bd_some hf
      refine m_cVW X hK hP hD hS hA (wr := []) (k_X11_fitted n a_t a_t_reader_text a_t_reader a_t_sheet a_t_history a_t_images a_t_kept a_t_walk a_t_machine a_t_outlook a_t_means a_t_singles a_t_sheet_plan a_t_sheet_rows a_t_machine_plan a_t_machine_leads a_t_machine_part a_t_machine_finer a_t_machine_keys a_t_machine_stateOfPart a_t_machine_pastOfState a_t_machine_steps a_t_machine_away a_t_machine_plan_least a_t_machine_plan_of a_t_machine_plan_set a_t_machine_plan_chances a_t_sheet_plan_least a_t_sheet_plan_of a_t_sheet_plan_set a_t_sheet_plan_chances t_machine_pasts t_machine_states t_machine_plan_rules t_machine_plan_slack t_machine_plan_limit t_sheet_plan_rules t_sheet_plan_slack t_sheet_plan_limit t_machine_plan_least t_sheet_plan_least t_machine_plan_of t_sheet_plan_of t_machine_plan_set t_sheet_plan_set t_sheet_plan_chances t_machine_plan_chances t_machine_leads t_machine_part t_machine_keys t_machine_finer t_machine_stateOfPart t_machine_pastOfState t_machine_steps t_machine_away o4 ho) [0, 1, 2, 3, 4, 5, 6, 7, 8, 9, 10, 11, 12, 13, 14, 15, 16, 17, 18, 19, 20] [] [0, 1, 2, 3, 4, 5, 6, 7, 8, 9, 10, 11, 12, 13, 14, 15, 16, 17, 18, 19, 20] [(a_t, .inr (11, [.ref a_t_reader_text, .ref a_t_reader, .ref a_t_sheet, .ref a_t_history, .ref a_t_images, .ref a_t_kept, .ref a_t_walk, .ref a_t_machine, .ref a_t_outlook, .ref a_t_means, .ref a_t_singles])), (a_t_sheet, .inr (7, [.ref a_t_sheet_plan, .ref a_t_sheet_rows])), (a_t_machine, .inr (1, [.ref a_t_machine_plan, .int (z4 o4.1), .ref a_t_machine_leads, .ref a_t_machine_part, .ref a_t_machine_finer, .ref a_t_machine_keys, .ref a_t_machine_stateOfPart, .ref a_t_machine_pastOfState, .int (z4 o4.2.1), .ref a_t_machine_steps, .ref a_t_machine_away])), (a_t_machine_plan, .inr (4, [.int (z4 o4.2.2.1), .ref a_t_machine_plan_least, .ref a_t_machine_plan_of, .ref a_t_machine_plan_set, .ref a_t_machine_plan_chances, .int (z4 o4.2.2.2.1), .int (z4 o4.2.2.2.2.1)])), (a_t_sheet_plan, .inr (4, [.int (z4 t_sheet_plan_rules), .ref a_t_sheet_plan_least, .ref a_t_sheet_plan_of, .ref a_t_sheet_plan_set, .ref a_t_sheet_plan_chances, .int (z4 t_sheet_plan_slack), .int (z4 t_sheet_plan_limit)])), (a_t_machine_plan_least, .inl (E 0, 3, .inl (A4 o4.2.2.2.2.2.1))), (a_t_sheet_plan_least, .inl (E 0, 3, .inl (A4 t_sheet_plan_least))), (a_t_machine_plan_of, .inl (E 0, 3, .inl (A4 o4.2.2.2.2.2.2.1))), (a_t_sheet_plan_of, .inl (E 0, 3, .inl (A4 t_sheet_plan_of))), (a_t_machine_plan_set, .inl (E 0, 3, .inl (A4 o4.2.2.2.2.2.2.2.1))), (a_t_sheet_plan_set, .inl (E 0, 3, .inl (A4 t_sheet_plan_set))), (a_t_sheet_plan_chances, .inl (E 0, 5, .inl (A4 t_sheet_plan_chances))), (a_t_machine_plan_chances, .inl (E 0, 5, .inl (A4 o4.2.2.2.2.2.2.2.2.1))), (a_t_machine_leads, .inl (E 0, 320, .inl (A4 o4.2.2.2.2.2.2.2.2.2.1))), (a_t_machine_part, .inl (E 0, 64, .inl (A4 o4.2.2.2.2.2.2.2.2.2.2.1))), (a_t_machine_keys, .inl (E 0, 64, .inl (A4 o4.2.2.2.2.2.2.2.2.2.2.2.1))), (a_t_machine_finer, .inl (E 0, 64, .inl (A4 o4.2.2.2.2.2.2.2.2.2.2.2.2.1))), (a_t_machine_stateOfPart, .inl (E 0, 64, .inl (A4 o4.2.2.2.2.2.2.2.2.2.2.2.2.2.1))), (a_t_machine_pastOfState, .inl (E 0, 64, .inl (A4 o4.2.2.2.2.2.2.2.2.2.2.2.2.2.2.1))), (a_t_machine_steps, .inl (E 0, 320, .inl (A4 o4.2.2.2.2.2.2.2.2.2.2.2.2.2.2.2.1))), (a_t_machine_away, .inl (E 0, 64, .inl (A4 o4.2.2.2.2.2.2.2.2.2.2.2.2.2.2.2.2)))] rfl rfl rfl rfl (by decide) rfl rfl rfl cl_X11 lk_X11_164 co_X11_fitted dy_X11_fitted rfl rfl ⟨Nat.le_of_ble_eq_true rfl, Nat.le_of_ble_eq_true rfl⟩ hl.1 rfl (Nat.le_of_ble_eq_true rfl) dX11_step_13 (Nat.zero_le _) (Nat.zero_le _) (fun H locs hP hD hS => ?_)
      refine m_get X hK hP cl_X1 iT_X1 8 (by decide) fl_X11_187 2 rfl rfl dX11_step_16 ?_
      obtain ⟨h5, hf⟩ := ck_some hf
      refine m_icmp_ge X h5 dX11_step_19 (tgt := 28) (by decide) (fun (hc_ : ¬ (x1 < o4.2.1)) => ?_) (fun (hc_ : x1 < o4.2.1) => ?_)
      · rw [if_neg hc_] at hf
        refine m_iconst X dX11_step_28 ?_
        obtain rfl := Option.some.inj hf
        exact ret _ _ _ _ hP hD hS dX11_step_29
      · rw [if_pos hc_] at hf
        refine lv_iload_n hx hb dX11_step_22 rfl (lv_at hl 1 rfl) ?_
        refine m_bipush X dX11_step_23 (by decide) ?_
        obtain ⟨h6, hf⟩ := ck_some hf
        refine m_icmp_lt X ⟨h6, ⟨by decide, by decide⟩⟩ dX11_step_25 (tgt := 30) (by decide) (fun (hc_ : x1 < 64) => ?_) (fun (hc_ : ¬ (x1 < 64)) => ?_)
        · rw [if_pos hc_] at hf
          refine lv_aload_n hx hb dX11_step_30 rfl (lv_at hl 0 rfl) ?_
          refine m_get X hK hP cl_X11 iT_X11 7 (by decide) fl_X11_53 0 rfl rfl dX11_step_31 ?_
          refine m_get X hK hP cl_X1 iT_X1 9 (by decide) fl_X11_190 2 rfl rfl dX11_step_34 ?_
          refine lv_iload_n hx hb dX11_step_37 rfl (lv_at hl 1 rfl) ?_
          refine m_iconst X dX11_step_38 ?_
          refine m_imul X dX11_step_39 ?_
          refine lv_iload_n hx hb dX11_step_40 rfl (lv_at hl 2 rfl) ?_
          refine m_iadd X dX11_step_41 ?_
          obtain ⟨h7, hf⟩ := ck_some hf
          refine m_iald X hK hP 19 rfl (by decide) h7 dX11_step_42 ?_
          obtain rfl := Option.some.inj hf
          exact ret _ _ _ _ hP hD hS dX11_step_43
        · rw [if_neg hc_] at hf
          refine m_iconst X dX11_step_28 ?_
          obtain rfl := Option.some.inj hf
          exact ret _ _ _ _ hP hD hS dX11_step_29
def F_X11_soonest (n : Nat)  (t_sheet_rows_size : Int) (t_walk_past : Nat → Int) (t_machine_pasts : Int) (t_machine_states : Int) (t_machine_plan_rules : Int) (t_machine_plan_slack : Int) (t_machine_plan_limit : Int) (t_sheet_plan_rules : Int) (t_sheet_plan_slack : Int) (t_sheet_plan_limit : Int) (t_machine_plan_least : Nat → Int) (t_sheet_plan_least : Nat → Int) (t_machine_plan_of : Nat → Int) (t_sheet_plan_of : Nat → Int) (t_machine_plan_set : Nat → Int) (t_sheet_plan_set : Nat → Int) (t_sheet_plan_chances : Nat → Int) (t_machine_plan_chances : Nat → Int) (t_machine_leads : Nat → Int) (t_machine_part : Nat → Int) (t_machine_keys : Nat → Int) (t_machine_finer : Nat → Int) (t_machine_stateOfPart : Nat → Int) (t_machine_pastOfState : Nat → Int) (t_machine_steps : Nat → Int) (t_machine_away : Nat → Int) (x1 : Int) : Option (Int × Int × Int × Int × Int × Int × (Nat → Int) × (Nat → Int) × (Nat → Int) × (Nat → Int) × (Nat → Int) × (Nat → Int) × (Nat → Int) × (Nat → Int) × (Nat → Int) × (Nat → Int) × (Nat → Int) × (Nat → Int)) :=
  ck (r4 x1) <|
  if x1 < (-1) then
    some ((-1), t_machine_pasts, t_machine_states, t_machine_plan_rules, t_machine_plan_slack, t_machine_plan_limit, t_machine_plan_least, t_machine_plan_of, t_machine_plan_set, t_machine_plan_chances, t_machine_leads, t_machine_part, t_machine_keys, t_machine_finer, t_machine_stateOfPart, t_machine_pastOfState, t_machine_steps, t_machine_away)
  else
    (F_X11_stateNow n t_sheet_rows_size t_walk_past t_machine_pasts t_machine_states t_machine_plan_rules t_machine_plan_slack t_machine_plan_limit t_sheet_plan_rules t_sheet_plan_slack t_sheet_plan_limit t_machine_plan_least t_sheet_plan_least t_machine_plan_of t_sheet_plan_of t_machine_plan_set t_sheet_plan_set t_sheet_plan_chances t_machine_plan_chances t_machine_leads t_machine_part t_machine_keys t_machine_finer t_machine_stateOfPart t_machine_pastOfState t_machine_steps t_machine_away).bind fun o2 =>
    (F_X1_awayFrom n o2.2.2.2.2.2.2.2.2.2.2.2.2.2.2.2.2.2 o2.1).bind fun o3 =>
    ck (r4 o3) <|
    if o3 = (-9) then
      some ((-9), o2.2.1, o2.2.2.1, o2.2.2.2.1, o2.2.2.2.2.1, o2.2.2.2.2.2.1, o2.2.2.2.2.2.2.1, o2.2.2.2.2.2.2.2.1, o2.2.2.2.2.2.2.2.2.1, o2.2.2.2.2.2.2.2.2.2.1, o2.2.2.2.2.2.2.2.2.2.2.1, o2.2.2.2.2.2.2.2.2.2.2.2.1, o2.2.2.2.2.2.2.2.2.2.2.2.2.1, o2.2.2.2.2.2.2.2.2.2.2.2.2.2.1, o2.2.2.2.2.2.2.2.2.2.2.2.2.2.2.1, o2.2.2.2.2.2.2.2.2.2.2.2.2.2.2.2.1, o2.2.2.2.2.2.2.2.2.2.2.2.2.2.2.2.2.1, o2.2.2.2.2.2.2.2.2.2.2.2.2.2.2.2.2.2)
    else
      ck (r4 x1 ∧ r4 o3) <|
      if x1 < o3 then
        Option.bind (α := Int) (
          ck (r4 x1) <|
          if x1 = (-1) then
            some o3
          else
            (F_X1_signTowardsAlarm n o2.2.2.2.2.2.2.2.2.2.2.2.2.2.2.2.2.2 o2.2.2.2.2.2.2.2.2.2.2.2.2.2.2.2.2.1 o2.1 x1).bind fun o8 =>
            some o8) fun o6 =>
        some (o6, o2.2.1, o2.2.2.1, o2.2.2.2.1, o2.2.2.2.2.1, o2.2.2.2.2.2.1, o2.2.2.2.2.2.2.1, o2.2.2.2.2.2.2.2.1, o2.2.2.2.2.2.2.2.2.1, o2.2.2.2.2.2.2.2.2.2.1, o2.2.2.2.2.2.2.2.2.2.2.1, o2.2.2.2.2.2.2.2.2.2.2.2.1, o2.2.2.2.2.2.2.2.2.2.2.2.2.1, o2.2.2.2.2.2.2.2.2.2.2.2.2.2.1, o2.2.2.2.2.2.2.2.2.2.2.2.2.2.2.1, o2.2.2.2.2.2.2.2.2.2.2.2.2.2.2.2.1, o2.2.2.2.2.2.2.2.2.2.2.2.2.2.2.2.2.1, o2.2.2.2.2.2.2.2.2.2.2.2.2.2.2.2.2.2)
      else
        some ((-9), o2.2.1, o2.2.2.1, o2.2.2.2.1, o2.2.2.2.2.1, o2.2.2.2.2.2.1, o2.2.2.2.2.2.2.1, o2.2.2.2.2.2.2.2.1, o2.2.2.2.2.2.2.2.2.1, o2.2.2.2.2.2.2.2.2.2.1, o2.2.2.2.2.2.2.2.2.2.2.1, o2.2.2.2.2.2.2.2.2.2.2.2.1, o2.2.2.2.2.2.2.2.2.2.2.2.2.1, o2.2.2.2.2.2.2.2.2.2.2.2.2.2.1, o2.2.2.2.2.2.2.2.2.2.2.2.2.2.2.1, o2.2.2.2.2.2.2.2.2.2.2.2.2.2.2.2.1, o2.2.2.2.2.2.2.2.2.2.2.2.2.2.2.2.2.1, o2.2.2.2.2.2.2.2.2.2.2.2.2.2.2.2.2.2)
def rm_X11_soonest : Room := { frames := 6, cells := 0, slots := 0, locals := 139 }
set_option maxHeartbeats 4000000 in
set_option maxRecDepth 100000 in
theorem k_X11_soonest {l : Launch} {D : va_G} {E : Nat → ClassId} (n : Nat) (a_t a_t_reader_text a_t_reader a_t_sheet a_t_history a_t_images a_t_kept a_t_walk a_t_machine a_t_outlook a_t_means a_t_singles a_t_sheet_plan a_t_sheet_rows a_t_sheet_rows_times a_t_sheet_rows_signs a_t_walk_met a_t_walk_past a_t_walk_up a_t_walk_down a_t_walk_signals a_t_machine_plan a_t_machine_leads a_t_machine_part a_t_machine_finer a_t_machine_keys a_t_machine_stateOfPart a_t_machine_pastOfState a_t_machine_steps a_t_machine_away a_t_machine_plan_least a_t_machine_plan_of a_t_machine_plan_set a_t_machine_plan_chances a_t_sheet_plan_least a_t_sheet_plan_of a_t_sheet_plan_set a_t_sheet_plan_chances : Nat) (t_sheet_rows_size : Int) (t_walk_past : Nat → Int) (t_machine_pasts : Int) (t_machine_states : Int) (t_machine_plan_rules : Int) (t_machine_plan_slack : Int) (t_machine_plan_limit : Int) (t_sheet_plan_rules : Int) (t_sheet_plan_slack : Int) (t_sheet_plan_limit : Int) (t_machine_plan_least : Nat → Int) (t_sheet_plan_least : Nat → Int) (t_machine_plan_of : Nat → Int) (t_sheet_plan_of : Nat → Int) (t_machine_plan_set : Nat → Int) (t_sheet_plan_set : Nat → Int) (t_sheet_plan_chances : Nat → Int) (t_machine_plan_chances : Nat → Int) (t_machine_leads : Nat → Int) (t_machine_part : Nat → Int) (t_machine_keys : Nat → Int) (t_machine_finer : Nat → Int) (t_machine_stateOfPart : Nat → Int) (t_machine_pastOfState : Nat → Int) (t_machine_steps : Nat → Int) (t_machine_away : Nat → Int) (x1 : Int) (res : Int × Int × Int × Int × Int × Int × (Nat → Int) × (Nat → Int) × (Nat → Int) × (Nat → Int) × (Nat → Int) × (Nat → Int) × (Nat → Int) × (Nat → Int) × (Nat → Int) × (Nat → Int) × (Nat → Int) × (Nat → Int)) (hf : F_X11_soonest n t_sheet_rows_size t_walk_past t_machine_pasts t_machine_states t_machine_plan_rules t_machine_plan_slack t_machine_plan_limit t_sheet_plan_rules t_sheet_plan_slack t_sheet_plan_limit t_machine_plan_least t_sheet_plan_least t_machine_plan_of t_sheet_plan_of t_machine_plan_set t_sheet_plan_set t_sheet_plan_chances t_machine_plan_chances t_machine_leads t_machine_part t_machine_keys t_machine_finer t_machine_stateOfPart t_machine_pastOfState t_machine_steps t_machine_away x1 = some res) : MW l yX11_soonest (.code yX11_soonest cX11_soonest 4 (some .int)) rm_X11_soonest D E [.ref a_t, .int (z4 x1)] [(a_t, .inr (11, [.ref a_t_reader_text, .ref a_t_reader, .ref a_t_sheet, .ref a_t_history, .ref a_t_images, .ref a_t_kept, .ref a_t_walk, .ref a_t_machine, .ref a_t_outlook, .ref a_t_means, .ref a_t_singles])), (a_t_sheet, .inr (7, [.ref a_t_sheet_plan, .ref a_t_sheet_rows])), (a_t_sheet_rows, .inr (6, [.int (z4 t_sheet_rows_size), .ref a_t_sheet_rows_times, .ref a_t_sheet_rows_signs])), (a_t_walk, .inr (10, [.ref a_t_walk_met, .ref a_t_walk_past, .ref a_t_walk_up, .ref a_t_walk_down, .ref a_t_walk_signals])), (a_t_walk_past, .inl (E 0, 40, .inl (A4 t_walk_past))), (a_t_machine, .inr (1, [.ref a_t_machine_plan, .int (z4 t_machine_pasts), .ref a_t_machine_leads, .ref a_t_machine_part, .ref a_t_machine_finer, .ref a_t_machine_keys, .ref a_t_machine_stateOfPart, .ref a_t_machine_pastOfState, .int (z4 t_machine_states), .ref a_t_machine_steps, .ref a_t_machine_away])), (a_t_machine_plan, .inr (4, [.int (z4 t_machine_plan_rules), .ref a_t_machine_plan_least, .ref a_t_machine_plan_of, .ref a_t_machine_plan_set, .ref a_t_machine_plan_chances, .int (z4 t_machine_plan_slack), .int (z4 t_machine_plan_limit)])), (a_t_sheet_plan, .inr (4, [.int (z4 t_sheet_plan_rules), .ref a_t_sheet_plan_least, .ref a_t_sheet_plan_of, .ref a_t_sheet_plan_set, .ref a_t_sheet_plan_chances, .int (z4 t_sheet_plan_slack), .int (z4 t_sheet_plan_limit)])), (a_t_machine_plan_least, .inl (E 0, 3, .inl (A4 t_machine_plan_least))), (a_t_sheet_plan_least, .inl (E 0, 3, .inl (A4 t_sheet_plan_least))), (a_t_machine_plan_of, .inl (E 0, 3, .inl (A4 t_machine_plan_of))), (a_t_sheet_plan_of, .inl (E 0, 3, .inl (A4 t_sheet_plan_of))), (a_t_machine_plan_set, .inl (E 0, 3, .inl (A4 t_machine_plan_set))), (a_t_sheet_plan_set, .inl (E 0, 3, .inl (A4 t_sheet_plan_set))), (a_t_sheet_plan_chances, .inl (E 0, 5, .inl (A4 t_sheet_plan_chances))), (a_t_machine_plan_chances, .inl (E 0, 5, .inl (A4 t_machine_plan_chances))), (a_t_machine_leads, .inl (E 0, 320, .inl (A4 t_machine_leads))), (a_t_machine_part, .inl (E 0, 64, .inl (A4 t_machine_part))), (a_t_machine_keys, .inl (E 0, 64, .inl (A4 t_machine_keys))), (a_t_machine_finer, .inl (E 0, 64, .inl (A4 t_machine_finer))), (a_t_machine_stateOfPart, .inl (E 0, 64, .inl (A4 t_machine_stateOfPart))), (a_t_machine_pastOfState, .inl (E 0, 64, .inl (A4 t_machine_pastOfState))), (a_t_machine_steps, .inl (E 0, 320, .inl (A4 t_machine_steps))), (a_t_machine_away, .inl (E 0, 64, .inl (A4 t_machine_away)))] (some (.int (z4 res.1))) [(a_t, .inr (11, [.ref a_t_reader_text, .ref a_t_reader, .ref a_t_sheet, .ref a_t_history, .ref a_t_images, .ref a_t_kept, .ref a_t_walk, .ref a_t_machine, .ref a_t_outlook, .ref a_t_means, .ref a_t_singles])), (a_t_sheet, .inr (7, [.ref a_t_sheet_plan, .ref a_t_sheet_rows])), (a_t_sheet_rows, .inr (6, [.int (z4 t_sheet_rows_size), .ref a_t_sheet_rows_times, .ref a_t_sheet_rows_signs])), (a_t_walk, .inr (10, [.ref a_t_walk_met, .ref a_t_walk_past, .ref a_t_walk_up, .ref a_t_walk_down, .ref a_t_walk_signals])), (a_t_walk_past, .inl (E 0, 40, .inl (A4 t_walk_past))), (a_t_machine, .inr (1, [.ref a_t_machine_plan, .int (z4 res.2.1), .ref a_t_machine_leads, .ref a_t_machine_part, .ref a_t_machine_finer, .ref a_t_machine_keys, .ref a_t_machine_stateOfPart, .ref a_t_machine_pastOfState, .int (z4 res.2.2.1), .ref a_t_machine_steps, .ref a_t_machine_away])), (a_t_machine_plan, .inr (4, [.int (z4 res.2.2.2.1), .ref a_t_machine_plan_least, .ref a_t_machine_plan_of, .ref a_t_machine_plan_set, .ref a_t_machine_plan_chances, .int (z4 res.2.2.2.2.1), .int (z4 res.2.2.2.2.2.1)])), (a_t_sheet_plan, .inr (4, [.int (z4 t_sheet_plan_rules), .ref a_t_sheet_plan_least, .ref a_t_sheet_plan_of, .ref a_t_sheet_plan_set, .ref a_t_sheet_plan_chances, .int (z4 t_sheet_plan_slack), .int (z4 t_sheet_plan_limit)])), (a_t_machine_plan_least, .inl (E 0, 3, .inl (A4 res.2.2.2.2.2.2.1))), (a_t_sheet_plan_least, .inl (E 0, 3, .inl (A4 t_sheet_plan_least))), (a_t_machine_plan_of, .inl (E 0, 3, .inl (A4 res.2.2.2.2.2.2.2.1))), (a_t_sheet_plan_of, .inl (E 0, 3, .inl (A4 t_sheet_plan_of))), (a_t_machine_plan_set, .inl (E 0, 3, .inl (A4 res.2.2.2.2.2.2.2.2.1))), (a_t_sheet_plan_set, .inl (E 0, 3, .inl (A4 t_sheet_plan_set))), (a_t_sheet_plan_chances, .inl (E 0, 5, .inl (A4 t_sheet_plan_chances))), (a_t_machine_plan_chances, .inl (E 0, 5, .inl (A4 res.2.2.2.2.2.2.2.2.2.1))), (a_t_machine_leads, .inl (E 0, 320, .inl (A4 res.2.2.2.2.2.2.2.2.2.2.1))), (a_t_machine_part, .inl (E 0, 64, .inl (A4 res.2.2.2.2.2.2.2.2.2.2.2.1))), (a_t_machine_keys, .inl (E 0, 64, .inl (A4 res.2.2.2.2.2.2.2.2.2.2.2.2.1))), (a_t_machine_finer, .inl (E 0, 64, .inl (A4 res.2.2.2.2.2.2.2.2.2.2.2.2.2.1))), (a_t_machine_stateOfPart, .inl (E 0, 64, .inl (A4 res.2.2.2.2.2.2.2.2.2.2.2.2.2.2.1))), (a_t_machine_pastOfState, .inl (E 0, 64, .inl (A4 res.2.2.2.2.2.2.2.2.2.2.2.2.2.2.2.1))), (a_t_machine_steps, .inl (E 0, 320, .inl (A4 res.2.2.2.2.2.2.2.2.2.2.2.2.2.2.2.2.1))), (a_t_machine_away, .inl (E 0, 64, .inl (A4 res.2.2.2.2.2.2.2.2.2.2.2.2.2.2.2.2.2)))] := by
  refine MWi (by decide) (Nat.le_of_ble_eq_true rfl) ?_
  intro p e s m args below meth c A Q X hK hP hD hA ret ls hl
  have hS : va_S A s.heap s.heap [] := va_S.rf
  have hx := X.1
  have hb := X.2.1
  have hl : lv_has ls 4 [(0, .ref a_t), (1, .int (z4 x1))] := hl
  unfold F_X11_soonest at hf
  refine lv_iload_n hx hb dX11_soonest_0 rfl (lv_at hl 1 rfl) ?_
  refine m_iconst X dX11_soonest_1 ?_
  obtain ⟨h1, hf⟩ := ck_some hf
  refine m_icmp_ge X ⟨h1, ⟨by decide, by decide⟩⟩ dX11_soonest_2 (tgt := 7) (by decide) (fun (hc_ : ¬ (x1 < (-1))) => ?_) (fun (hc_ : x1 < (-1)) => ?_)
  · rw [if_neg hc_] at hf
    refine lv_aload_n hx hb dX11_soonest_7 rfl (lv_at hl 0 rfl) ?_
    obtain ⟨o2, ho, hf⟩ := bd_some hf
    refine m_cVW X hK hP hD hS hA (wr := []) (k_X11_stateNow n a_t a_t_reader_text a_t_reader a_t_sheet a_t_history a_t_images a_t_kept a_t_walk a_t_machine a_t_outlook a_t_means a_t_singles a_t_sheet_plan a_t_sheet_rows a_t_sheet_rows_times a_t_sheet_rows_signs a_t_walk_met a_t_walk_past a_t_walk_up a_t_walk_down a_t_walk_signals a_t_machine_plan a_t_machine_leads a_t_machine_part a_t_machine_finer a_t_machine_keys a_t_machine_stateOfPart a_t_machine_pastOfState a_t_machine_steps a_t_machine_away a_t_machine_plan_least a_t_machine_plan_of a_t_machine_plan_set a_t_machine_plan_chances a_t_sheet_plan_least a_t_sheet_plan_of a_t_sheet_plan_set a_t_sheet_plan_chances t_sheet_rows_size t_walk_past t_machine_pasts t_machine_states t_machine_plan_rules t_machine_plan_slack t_machine_plan_limit t_sheet_plan_rules t_sheet_plan_slack t_sheet_plan_limit t_machine_plan_least t_sheet_plan_least t_machine_plan_of t_sheet_plan_of t_machine_plan_set t_sheet_plan_set t_sheet_plan_chances t_machine_plan_chances t_machine_leads t_machine_part t_machine_keys t_machine_finer t_machine_stateOfPart t_machine_pastOfState t_machine_steps t_machine_away o2 ho) [0, 1, 2, 3, 4, 5, 6, 7, 8, 9, 10, 11, 12, 13, 14, 15, 16, 17, 18, 19, 20, 21, 22, 23] [] [0, 1, 2, 3, 4, 5, 6, 7, 8, 9, 10, 11, 12, 13, 14, 15, 16, 17, 18, 19, 20, 21, 22, 23] [(a_t, .inr (11, [.ref a_t_reader_text, .ref a_t_reader, .ref a_t_sheet, .ref a_t_history, .ref a_t_images, .ref a_t_kept, .ref a_t_walk, .ref a_t_machine, .ref a_t_outlook, .ref a_t_means, .ref a_t_singles])), (a_t_sheet, .inr (7, [.ref a_t_sheet_plan, .ref a_t_sheet_rows])), (a_t_sheet_rows, .inr (6, [.int (z4 t_sheet_rows_size), .ref a_t_sheet_rows_times, .ref a_t_sheet_rows_signs])), (a_t_walk, .inr (10, [.ref a_t_walk_met, .ref a_t_walk_past, .ref a_t_walk_up, .ref a_t_walk_down, .ref a_t_walk_signals])), (a_t_walk_past, .inl (E 0, 40, .inl (A4 t_walk_past))), (a_t_machine, .inr (1, [.ref a_t_machine_plan, .int (z4 o2.2.1), .ref a_t_machine_leads, .ref a_t_machine_part, .ref a_t_machine_finer, .ref a_t_machine_keys, .ref a_t_machine_stateOfPart, .ref a_t_machine_pastOfState, .int (z4 o2.2.2.1), .ref a_t_machine_steps, .ref a_t_machine_away])), (a_t_machine_plan, .inr (4, [.int (z4 o2.2.2.2.1), .ref a_t_machine_plan_least, .ref a_t_machine_plan_of, .ref a_t_machine_plan_set, .ref a_t_machine_plan_chances, .int (z4 o2.2.2.2.2.1), .int (z4 o2.2.2.2.2.2.1)])), (a_t_sheet_plan, .inr (4, [.int (z4 t_sheet_plan_rules), .ref a_t_sheet_plan_least, .ref a_t_sheet_plan_of, .ref a_t_sheet_plan_set, .ref a_t_sheet_plan_chances, .int (z4 t_sheet_plan_slack), .int (z4 t_sheet_plan_limit)])), (a_t_machine_plan_least, .inl (E 0, 3, .inl (A4 o2.2.2.2.2.2.2.1))), (a_t_sheet_plan_least, .inl (E 0, 3, .inl (A4 t_sheet_plan_least))), (a_t_machine_plan_of, .inl (E 0, 3, .inl (A4 o2.2.2.2.2.2.2.2.1))), (a_t_sheet_plan_of, .inl (E 0, 3, .inl (A4 t_sheet_plan_of))), (a_t_machine_plan_set, .inl (E 0, 3, .inl (A4 o2.2.2.2.2.2.2.2.2.1))), (a_t_sheet_plan_set, .inl (E 0, 3, .inl (A4 t_sheet_plan_set))), (a_t_sheet_plan_chances, .inl (E 0, 5, .inl (A4 t_sheet_plan_chances))), (a_t_machine_plan_chances, .inl (E 0, 5, .inl (A4 o2.2.2.2.2.2.2.2.2.2.1))), (a_t_machine_leads, .inl (E 0, 320, .inl (A4 o2.2.2.2.2.2.2.2.2.2.2.1))), (a_t_machine_part, .inl (E 0, 64, .inl (A4 o2.2.2.2.2.2.2.2.2.2.2.2.1))), (a_t_machine_keys, .inl (E 0, 64, .inl (A4 o2.2.2.2.2.2.2.2.2.2.2.2.2.1))), (a_t_machine_finer, .inl (E 0, 64, .inl (A4 o2.2.2.2.2.2.2.2.2.2.2.2.2.2.1))), (a_t_machine_stateOfPart, .inl (E 0, 64, .inl (A4 o2.2.2.2.2.2.2.2.2.2.2.2.2.2.2.1))), (a_t_machine_pastOfState, .inl (E 0, 64, .inl (A4 o2.2.2.2.2.2.2.2.2.2.2.2.2.2.2.2.1))), (a_t_machine_steps, .inl (E 0, 320, .inl (A4 o2.2.2.2.2.2.2.2.2.2.2.2.2.2.2.2.2.1))), (a_t_machine_away, .inl (E 0, 64, .inl (A4 o2.2.2.2.2.2.2.2.2.2.2.2.2.2.2.2.2.2)))] rfl rfl rfl rfl (by decide) rfl rfl rfl cl_X11 lk_X11_193 co_X11_stateNow dy_X11_stateNow rfl rfl ⟨Nat.le_of_ble_eq_true rfl, Nat.le_of_ble_eq_true rfl⟩ hl.1 rfl (Nat.le_of_ble_eq_true rfl) dX11_soonest_8 (Nat.zero_le _) (Nat.zero_le _) (fun H locs hP hD hS => ?_)
    refine lv_istore_n (lv' := [(2, .int (z4 o2.1)), (0, .ref a_t), (1, .int (z4 x1))]) hx hb dX11_soonest_11 rfl hl (by decide) rfl (fun ls hl => ?_)
    refine lv_aload_n hx hb dX11_soonest_12 rfl (lv_at hl 1 rfl) ?_
    refine m_get X hK hP cl_X11 iT_X11 7 (by decide) fl_X11_53 0 rfl rfl dX11_soonest_13 ?_
    refine lv_iload_n hx hb dX11_soonest_16 rfl (lv_at hl 0 rfl) ?_
    obtain ⟨o3, ho, hf⟩ := bd_some hf
    refine m_cVR X hK (k_X1_awayFrom n a_t_machine a_t_machine_plan a_t_machine_leads a_t_machine_part a_t_machine_finer a_t_machine_keys a_t_machine_stateOfPart a_t_machine_pastOfState a_t_machine_steps a_t_machine_away o2.2.1 o2.2.2.1 o2.2.2.2.2.2.2.2.2.2.2.2.2.2.2.2.2.2 o2.1 o3 ho) (hP.sub [5, 23] rfl) rfl cl_X1 lk_X11_196 co_X1_awayFrom dy_X1_awayFrom rfl rfl ⟨Nat.le_of_ble_eq_true rfl, Nat.le_of_ble_eq_true rfl⟩ hl.1 rfl (Nat.le_of_ble_eq_true rfl) dX11_soonest_17 (Nat.zero_le _) (Nat.zero_le _) ?_
    refine lv_istore_n (lv' := [(3, .int (z4 o3)), (2, .int (z4 o2.1)), (0, .ref a_t), (1, .int (z4 x1))]) hx hb dX11_soonest_20 rfl hl (by decide) rfl (fun ls hl => ?_)
    refine lv_iload_n hx hb dX11_soonest_21 rfl (lv_at hl 0 rfl) ?_
    refine m_bipush X dX11_soonest_22 (by decide) ?_
    obtain ⟨h4, hf⟩ := ck_some hf
    refine m_icmp_eq X ⟨h4, ⟨by decide, by decide⟩⟩ dX11_soonest_24 (tgt := 32) (by decide) (fun (hc_ : o3 = (-9)) => ?_) (fun (hc_ : ¬ (o3 = (-9))) => ?_)
    · rw [if_pos hc_] at hf
      refine m_bipush X dX11_soonest_32 (by decide) ?_
      obtain rfl := Option.some.inj hf
      exact ret _ _ _ _ hP hD hS dX11_soonest_34
    · rw [if_neg hc_] at hf
      refine lv_iload_n hx hb dX11_soonest_27 rfl (lv_at hl 3 rfl) ?_
      refine lv_iload_n hx hb dX11_soonest_28 rfl (lv_at hl 0 rfl) ?_
      obtain ⟨h5, hf⟩ := ck_some hf
      refine m_icmp_lt X h5 dX11_soonest_29 (tgt := 35) (by decide) (fun (hc_ : x1 < o3) => ?_) (fun (hc_ : ¬ (x1 < o3)) => ?_)
      · rw [if_pos hc_] at hf
        refine lv_iload_n hx hb dX11_soonest_35 rfl (lv_at hl 3 rfl) ?_
        refine m_iconst X dX11_soonest_36 ?_
        obtain ⟨o6, hj6, hr6⟩ := bd_some hf
        have J6 : ∀ (o_ : Int), o6 = o_ → ∀ (H : Heap) (locs : List Loc) (ls : Array Slot), lv_has ls 4 [] → va_P D vwCl [(a_t, .inr (11, [.ref a_t_reader_text, .ref a_t_reader, .ref a_t_sheet, .ref a_t_history, .ref a_t_images, .ref a_t_kept, .ref a_t_walk, .ref a_t_machine, .ref a_t_outlook, .ref a_t_means, .ref a_t_singles])), (a_t_sheet, .inr (7, [.ref a_t_sheet_plan, .ref a_t_sheet_rows])), (a_t_sheet_rows, .inr (6, [.int (z4 t_sheet_rows_size), .ref a_t_sheet_rows_times, .ref a_t_sheet_rows_signs])), (a_t_walk, .inr (10, [.ref a_t_walk_met, .ref a_t_walk_past, .ref a_t_walk_up, .ref a_t_walk_down, .ref a_t_walk_signals])), (a_t_walk_past, .inl (E 0, 40, .inl (A4 t_walk_past))), (a_t_machine, .inr (1, [.ref a_t_machine_plan, .int (z4 o2.2.1), .ref a_t_machine_leads, .ref a_t_machine_part, .ref a_t_machine_finer, .ref a_t_machine_keys, .ref a_t_machine_stateOfPart, .ref a_t_machine_pastOfState, .int (z4 o2.2.2.1), .ref a_t_machine_steps, .ref a_t_machine_away])), (a_t_machine_plan, .inr (4, [.int (z4 o2.2.2.2.1), .ref a_t_machine_plan_least, .ref a_t_machine_plan_of, .ref a_t_machine_plan_set, .ref a_t_machine_plan_chances, .int (z4 o2.2.2.2.2.1), .int (z4 o2.2.2.2.2.2.1)])), (a_t_sheet_plan, .inr (4, [.int (z4 t_sheet_plan_rules), .ref a_t_sheet_plan_least, .ref a_t_sheet_plan_of, .ref a_t_sheet_plan_set, .ref a_t_sheet_plan_chances, .int (z4 t_sheet_plan_slack), .int (z4 t_sheet_plan_limit)])), (a_t_machine_plan_least, .inl (E 0, 3, .inl (A4 o2.2.2.2.2.2.2.1))), (a_t_sheet_plan_least, .inl (E 0, 3, .inl (A4 t_sheet_plan_least))), (a_t_machine_plan_of, .inl (E 0, 3, .inl (A4 o2.2.2.2.2.2.2.2.1))), (a_t_sheet_plan_of, .inl (E 0, 3, .inl (A4 t_sheet_plan_of))), (a_t_machine_plan_set, .inl (E 0, 3, .inl (A4 o2.2.2.2.2.2.2.2.2.1))), (a_t_sheet_plan_set, .inl (E 0, 3, .inl (A4 t_sheet_plan_set))), (a_t_sheet_plan_chances, .inl (E 0, 5, .inl (A4 t_sheet_plan_chances))), (a_t_machine_plan_chances, .inl (E 0, 5, .inl (A4 o2.2.2.2.2.2.2.2.2.2.1))), (a_t_machine_leads, .inl (E 0, 320, .inl (A4 o2.2.2.2.2.2.2.2.2.2.2.1))), (a_t_machine_part, .inl (E 0, 64, .inl (A4 o2.2.2.2.2.2.2.2.2.2.2.2.1))), (a_t_machine_keys, .inl (E 0, 64, .inl (A4 o2.2.2.2.2.2.2.2.2.2.2.2.2.1))), (a_t_machine_finer, .inl (E 0, 64, .inl (A4 o2.2.2.2.2.2.2.2.2.2.2.2.2.2.1))), (a_t_machine_stateOfPart, .inl (E 0, 64, .inl (A4 o2.2.2.2.2.2.2.2.2.2.2.2.2.2.2.1))), (a_t_machine_pastOfState, .inl (E 0, 64, .inl (A4 o2.2.2.2.2.2.2.2.2.2.2.2.2.2.2.2.1))), (a_t_machine_steps, .inl (E 0, 320, .inl (A4 o2.2.2.2.2.2.2.2.2.2.2.2.2.2.2.2.2.1))), (a_t_machine_away, .inl (E 0, 64, .inl (A4 o2.2.2.2.2.2.2.2.2.2.2.2.2.2.2.2.2.2)))] H → va_D A [(a_t, .inr (11, [.ref a_t_reader_text, .ref a_t_reader, .ref a_t_sheet, .ref a_t_history, .ref a_t_images, .ref a_t_kept, .ref a_t_walk, .ref a_t_machine, .ref a_t_outlook, .ref a_t_means, .ref a_t_singles])), (a_t_sheet, .inr (7, [.ref a_t_sheet_plan, .ref a_t_sheet_rows])), (a_t_sheet_rows, .inr (6, [.int (z4 t_sheet_rows_size), .ref a_t_sheet_rows_times, .ref a_t_sheet_rows_signs])), (a_t_walk, .inr (10, [.ref a_t_walk_met, .ref a_t_walk_past, .ref a_t_walk_up, .ref a_t_walk_down, .ref a_t_walk_signals])), (a_t_walk_past, .inl (E 0, 40, .inl (A4 t_walk_past))), (a_t_machine, .inr (1, [.ref a_t_machine_plan, .int (z4 o2.2.1), .ref a_t_machine_leads, .ref a_t_machine_part, .ref a_t_machine_finer, .ref a_t_machine_keys, .ref a_t_machine_stateOfPart, .ref a_t_machine_pastOfState, .int (z4 o2.2.2.1), .ref a_t_machine_steps, .ref a_t_machine_away])), (a_t_machine_plan, .inr (4, [.int (z4 o2.2.2.2.1), .ref a_t_machine_plan_least, .ref a_t_machine_plan_of, .ref a_t_machine_plan_set, .ref a_t_machine_plan_chances, .int (z4 o2.2.2.2.2.1), .int (z4 o2.2.2.2.2.2.1)])), (a_t_sheet_plan, .inr (4, [.int (z4 t_sheet_plan_rules), .ref a_t_sheet_plan_least, .ref a_t_sheet_plan_of, .ref a_t_sheet_plan_set, .ref a_t_sheet_plan_chances, .int (z4 t_sheet_plan_slack), .int (z4 t_sheet_plan_limit)])), (a_t_machine_plan_least, .inl (E 0, 3, .inl (A4 o2.2.2.2.2.2.2.1))), (a_t_sheet_plan_least, .inl (E 0, 3, .inl (A4 t_sheet_plan_least))), (a_t_machine_plan_of, .inl (E 0, 3, .inl (A4 o2.2.2.2.2.2.2.2.1))), (a_t_sheet_plan_of, .inl (E 0, 3, .inl (A4 t_sheet_plan_of))), (a_t_machine_plan_set, .inl (E 0, 3, .inl (A4 o2.2.2.2.2.2.2.2.2.1))), (a_t_sheet_plan_set, .inl (E 0, 3, .inl (A4 t_sheet_plan_set))), (a_t_sheet_plan_chances, .inl (E 0, 5, .inl (A4 t_sheet_plan_chances))), (a_t_machine_plan_chances, .inl (E 0, 5, .inl (A4 o2.2.2.2.2.2.2.2.2.2.1))), (a_t_machine_leads, .inl (E 0, 320, .inl (A4 o2.2.2.2.2.2.2.2.2.2.2.1))), (a_t_machine_part, .inl (E 0, 64, .inl (A4 o2.2.2.2.2.2.2.2.2.2.2.2.1))), (a_t_machine_keys, .inl (E 0, 64, .inl (A4 o2.2.2.2.2.2.2.2.2.2.2.2.2.1))), (a_t_machine_finer, .inl (E 0, 64, .inl (A4 o2.2.2.2.2.2.2.2.2.2.2.2.2.2.1))), (a_t_machine_stateOfPart, .inl (E 0, 64, .inl (A4 o2.2.2.2.2.2.2.2.2.2.2.2.2.2.2.1))), (a_t_machine_pastOfState, .inl (E 0, 64, .inl (A4 o2.2.2.2.2.2.2.2.2.2.2.2.2.2.2.2.1))), (a_t_machine_steps, .inl (E 0, 320, .inl (A4 o2.2.2.2.2.2.2.2.2.2.2.2.2.2.2.2.2.1))), (a_t_machine_away, .inl (E 0, 64, .inl (A4 o2.2.2.2.2.2.2.2.2.2.2.2.2.2.2.2.2.2)))] → va_S A s.heap H locs → W p l e rm_X11_soonest s m args below meth c H locs 0 0 Q (F0 m 53 ls [.int (z4 o_)]) := by
          intro o_ ho_ H locs ls hl hP hD hS
          subst ho_
          obtain rfl := Option.some.inj hr6
          exact ret _ _ _ _ hP hD hS dX11_soonest_53
        obtain ⟨h7, hj6⟩ := ck_some hj6
        refine m_icmp_ne X ⟨h7, ⟨by decide, by decide⟩⟩ dX11_soonest_37 (tgt := 44) (by decide) (fun (hc_ : ¬ (x1 = (-1))) => ?_) (fun (hc_ : x1 = (-1)) => ?_)
        · rw [if_neg hc_] at hj6
          refine lv_aload_n hx hb dX11_soonest_44 rfl (lv_at hl 2 rfl) ?_
          refine m_get X hK hP cl_X11 iT_X11 7 (by decide) fl_X11_53 0 rfl rfl dX11_soonest_45 ?_
          refine lv_iload_n hx hb dX11_soonest_48 rfl (lv_at hl 1 rfl) ?_
          refine lv_iload_n hx hb dX11_soonest_49 rfl (lv_at hl 3 rfl) ?_
          obtain ⟨o8, ho, hj6⟩ := bd_some hj6
          refine m_cVR X hK (k_X1_signTowardsAlarm n a_t_machine a_t_machine_plan a_t_machine_leads a_t_machine_part a_t_machine_finer a_t_machine_keys a_t_machine_stateOfPart a_t_machine_pastOfState a_t_machine_steps a_t_machine_away o2.2.1 o2.2.2.1 o2.2.2.2.2.2.2.2.2.2.2.2.2.2.2.2.2.2 o2.2.2.2.2.2.2.2.2.2.2.2.2.2.2.2.2.1 o2.1 x1 o8 ho) (hP.sub [5, 23, 22] rfl) rfl cl_X1 lk_X11_199 co_X1_signTowardsAlarm dy_X1_signTowardsAlarm rfl rfl ⟨Nat.le_of_ble_eq_true rfl, Nat.le_of_ble_eq_true rfl⟩ hl.1 rfl (Nat.le_of_ble_eq_true rfl) dX11_soonest_50 (Nat.zero_le _) (Nat.zero_le _) ?_
          exact J6 _ (Option.some.inj hj6).symm _ _ _ (lv_sub hl [] rfl) hP hD hS
        · rw [if_pos hc_] at hj6
          refine lv_iload_n hx hb dX11_soonest_40 rfl (lv_at hl 0 rfl) ?_
          refine lv_goto (tgt := 53) hx hb dX11_soonest_41 (by decide) ?_
          exact J6 _ (Option.some.inj hj6).symm _ _ _ (lv_sub hl [] rfl) hP hD hS
      · rw [if_neg hc_] at hf
        refine m_bipush X dX11_soonest_32 (by decide) ?_
        obtain rfl := Option.some.inj hf
        exact ret _ _ _ _ hP hD hS dX11_soonest_34
  · rw [if_pos hc_] at hf
    refine m_iconst X dX11_soonest_5 ?_
    obtain rfl := Option.some.inj hf
    exact ret _ _ _ _ hP hD hS dX11_soonest_6
def F_X11_odds (n : Nat)  (t_sheet_rows_size : Int) (t_walk_past : Nat → Int) (t_machine_pasts : Int) (t_machine_states : Int) (t_machine_plan_rules : Int) (t_machine_plan_slack : Int) (t_machine_plan_limit : Int) (t_sheet_plan_rules : Int) (t_sheet_plan_slack : Int) (t_sheet_plan_limit : Int) (t_machine_plan_least : Nat → Int) (t_sheet_plan_least : Nat → Int) (t_machine_plan_of : Nat → Int) (t_sheet_plan_of : Nat → Int) (t_machine_plan_set : Nat → Int) (t_sheet_plan_set : Nat → Int) (t_sheet_plan_chances : Nat → Int) (t_machine_plan_chances : Nat → Int) (t_machine_leads : Nat → Int) (t_machine_part : Nat → Int) (t_machine_keys : Nat → Int) (t_machine_finer : Nat → Int) (t_machine_stateOfPart : Nat → Int) (t_machine_pastOfState : Nat → Int) (t_machine_steps : Nat → Int) (t_machine_away : Nat → Int) (t_outlook_upper : Int) (t_outlook_lower : Int) (a_t_outlook_weights : Nat) (t_outlook_weights : Nat → Int) (a_t_outlook_next : Nat) (t_outlook_next : Nat → Int) (x1 : Int) (x2 : Int) : Option (Int × Int × Int × Int × Int × Int × (Nat → Int) × (Nat → Int) × (Nat → Int) × (Nat → Int) × (Nat → Int) × (Nat → Int) × (Nat → Int) × (Nat → Int) × (Nat → Int) × (Nat → Int) × (Nat → Int) × (Nat → Int) × Int × Int × Nat × (Nat → Int) × Nat × (Nat → Int)) :=
  ck (r4 x1) <|
  if x1 < 0 then
    some ((-1), t_machine_pasts, t_machine_states, t_machine_plan_rules, t_machine_plan_slack, t_machine_plan_limit, t_machine_plan_least, t_machine_plan_of, t_machine_plan_set, t_machine_plan_chances, t_machine_leads, t_machine_part, t_machine_keys, t_machine_finer, t_machine_stateOfPart, t_machine_pastOfState, t_machine_steps, t_machine_away, t_outlook_upper, t_outlook_lower, a_t_outlook_weights, t_outlook_weights, a_t_outlook_next, t_outlook_next)
  else
    ck (r4 x1) <|
    if 8 < x1 then
      some ((-1), t_machine_pasts, t_machine_states, t_machine_plan_rules, t_machine_plan_slack, t_machine_plan_limit, t_machine_plan_least, t_machine_plan_of, t_machine_plan_set, t_machine_plan_chances, t_machine_leads, t_machine_part, t_machine_keys, t_machine_finer, t_machine_stateOfPart, t_machine_pastOfState, t_machine_steps, t_machine_away, t_outlook_upper, t_outlook_lower, a_t_outlook_weights, t_outlook_weights, a_t_outlook_next, t_outlook_next)
    else
      ck (r4 x2) <|
      if x2 < 0 then
        some ((-1), t_machine_pasts, t_machine_states, t_machine_plan_rules, t_machine_plan_slack, t_machine_plan_limit, t_machine_plan_least, t_machine_plan_of, t_machine_plan_set, t_machine_plan_chances, t_machine_leads, t_machine_part, t_machine_keys, t_machine_finer, t_machine_stateOfPart, t_machine_pastOfState, t_machine_steps, t_machine_away, t_outlook_upper, t_outlook_lower, a_t_outlook_weights, t_outlook_weights, a_t_outlook_next, t_outlook_next)
      else
        ck (r4 x2) <|
        if 1 < x2 then
          some ((-1), t_machine_pasts, t_machine_states, t_machine_plan_rules, t_machine_plan_slack, t_machine_plan_limit, t_machine_plan_least, t_machine_plan_of, t_machine_plan_set, t_machine_plan_chances, t_machine_leads, t_machine_part, t_machine_keys, t_machine_finer, t_machine_stateOfPart, t_machine_pastOfState, t_machine_steps, t_machine_away, t_outlook_upper, t_outlook_lower, a_t_outlook_weights, t_outlook_weights, a_t_outlook_next, t_outlook_next)
        else
          (F_X11_stateNow n t_sheet_rows_size t_walk_past t_machine_pasts t_machine_states t_machine_plan_rules t_machine_plan_slack t_machine_plan_limit t_sheet_plan_rules t_sheet_plan_slack t_sheet_plan_limit t_machine_plan_least t_sheet_plan_least t_machine_plan_of t_sheet_plan_of t_machine_plan_set t_sheet_plan_set t_sheet_plan_chances t_machine_plan_chances t_machine_leads t_machine_part t_machine_keys t_machine_finer t_machine_stateOfPart t_machine_pastOfState t_machine_steps t_machine_away).bind fun o5 =>
          (F_X3_reckon n a_t_outlook_weights t_outlook_weights a_t_outlook_next t_outlook_next o5.2.2.1 t_sheet_plan_chances o5.2.2.2.2.2.2.2.2.2.2.2.2.2.2.2.2.1 o5.1 x1).bind fun o6 =>
          Option.bind (α := Int) (
            ck (r4 x2) <|
            if x2 = 0 then
              some o6.1
            else
              some o6.2.1) fun o7 =>
          some (o7, o5.2.1, o5.2.2.1, o5.2.2.2.1, o5.2.2.2.2.1, o5.2.2.2.2.2.1, o5.2.2.2.2.2.2.1, o5.2.2.2.2.2.2.2.1, o5.2.2.2.2.2.2.2.2.1, o5.2.2.2.2.2.2.2.2.2.1, o5.2.2.2.2.2.2.2.2.2.2.1, o5.2.2.2.2.2.2.2.2.2.2.2.1, o5.2.2.2.2.2.2.2.2.2.2.2.2.1, o5.2.2.2.2.2.2.2.2.2.2.2.2.2.1, o5.2.2.2.2.2.2.2.2.2.2.2.2.2.2.1, o5.2.2.2.2.2.2.2.2.2.2.2.2.2.2.2.1, o5.2.2.2.2.2.2.2.2.2.2.2.2.2.2.2.2.1, o5.2.2.2.2.2.2.2.2.2.2.2.2.2.2.2.2.2, o6.1, o6.2.1, o6.2.2.1, o6.2.2.2.1, o6.2.2.2.2.1, o6.2.2.2.2.2)
def rm_X11_odds : Room := { frames := 6, cells := 0, slots := 0, locals := 139 }
set_option maxHeartbeats 4000000 in
set_option maxRecDepth 100000 in
theorem k_X11_odds {l : Launch} {D : va_G} {E : Nat → ClassId} (n : Nat) (a_t a_t_reader_text a_t_reader a_t_sheet a_t_history a_t_images a_t_kept a_t_walk a_t_machine a_t_outlook a_t_means a_t_singles a_t_sheet_plan a_t_sheet_rows a_t_sheet_rows_times a_t_sheet_rows_signs a_t_walk_met a_t_walk_past a_t_walk_up a_t_walk_down a_t_walk_signals a_t_machine_plan a_t_machine_leads a_t_machine_part a_t_machine_finer a_t_machine_keys a_t_machine_stateOfPart a_t_machine_pastOfState a_t_machine_steps a_t_machine_away a_t_machine_plan_least a_t_machine_plan_of a_t_machine_plan_set a_t_machine_plan_chances a_t_sheet_plan_least a_t_sheet_plan_of a_t_sheet_plan_set a_t_sheet_plan_chances a_t_outlook_weights a_t_outlook_next : Nat) (t_sheet_rows_size : Int) (t_walk_past : Nat → Int) (t_machine_pasts : Int) (t_machine_states : Int) (t_machine_plan_rules : Int) (t_machine_plan_slack : Int) (t_machine_plan_limit : Int) (t_sheet_plan_rules : Int) (t_sheet_plan_slack : Int) (t_sheet_plan_limit : Int) (t_machine_plan_least : Nat → Int) (t_sheet_plan_least : Nat → Int) (t_machine_plan_of : Nat → Int) (t_sheet_plan_of : Nat → Int) (t_machine_plan_set : Nat → Int) (t_sheet_plan_set : Nat → Int) (t_sheet_plan_chances : Nat → Int) (t_machine_plan_chances : Nat → Int) (t_machine_leads : Nat → Int) (t_machine_part : Nat → Int) (t_machine_keys : Nat → Int) (t_machine_finer : Nat → Int) (t_machine_stateOfPart : Nat → Int) (t_machine_pastOfState : Nat → Int) (t_machine_steps : Nat → Int) (t_machine_away : Nat → Int) (t_outlook_upper : Int) (t_outlook_lower : Int) (t_outlook_weights : Nat → Int) (t_outlook_next : Nat → Int) (x1 : Int) (x2 : Int) (res : Int × Int × Int × Int × Int × Int × (Nat → Int) × (Nat → Int) × (Nat → Int) × (Nat → Int) × (Nat → Int) × (Nat → Int) × (Nat → Int) × (Nat → Int) × (Nat → Int) × (Nat → Int) × (Nat → Int) × (Nat → Int) × Int × Int × Nat × (Nat → Int) × Nat × (Nat → Int)) (hf : F_X11_odds n t_sheet_rows_size t_walk_past t_machine_pasts t_machine_states t_machine_plan_rules t_machine_plan_slack t_machine_plan_limit t_sheet_plan_rules t_sheet_plan_slack t_sheet_plan_limit t_machine_plan_least t_sheet_plan_least t_machine_plan_of t_sheet_plan_of t_machine_plan_set t_sheet_plan_set t_sheet_plan_chances t_machine_plan_chances t_machine_leads t_machine_part t_machine_keys t_machine_finer t_machine_stateOfPart t_machine_pastOfState t_machine_steps t_machine_away t_outlook_upper t_outlook_lower a_t_outlook_weights t_outlook_weights a_t_outlook_next t_outlook_next x1 x2 = some res) : MW l yX11_odds (.code yX11_odds cX11_odds 3 (some .int)) rm_X11_odds D E [.ref a_t, .int (z4 x1), .int (z4 x2)] [(a_t, .inr (11, [.ref a_t_reader_text, .ref a_t_reader, .ref a_t_sheet, .ref a_t_history, .ref a_t_images, .ref a_t_kept, .ref a_t_walk, .ref a_t_machine, .ref a_t_outlook, .ref a_t_means, .ref a_t_singles])), (a_t_sheet, .inr (7, [.ref a_t_sheet_plan, .ref a_t_sheet_rows])), (a_t_sheet_rows, .inr (6, [.int (z4 t_sheet_rows_size), .ref a_t_sheet_rows_times, .ref a_t_sheet_rows_signs])), (a_t_walk, .inr (10, [.ref a_t_walk_met, .ref a_t_walk_past, .ref a_t_walk_up, .ref a_t_walk_down, .ref a_t_walk_signals])), (a_t_walk_past, .inl (E 0, 40, .inl (A4 t_walk_past))), (a_t_machine, .inr (1, [.ref a_t_machine_plan, .int (z4 t_machine_pasts), .ref a_t_machine_leads, .ref a_t_machine_part, .ref a_t_machine_finer, .ref a_t_machine_keys, .ref a_t_machine_stateOfPart, .ref a_t_machine_pastOfState, .int (z4 t_machine_states), .ref a_t_machine_steps, .ref a_t_machine_away])), (a_t_machine_plan, .inr (4, [.int (z4 t_machine_plan_rules), .ref a_t_machine_plan_least, .ref a_t_machine_plan_of, .ref a_t_machine_plan_set, .ref a_t_machine_plan_chances, .int (z4 t_machine_plan_slack), .int (z4 t_machine_plan_limit)])), (a_t_sheet_plan, .inr (4, [.int (z4 t_sheet_plan_rules), .ref a_t_sheet_plan_least, .ref a_t_sheet_plan_of, .ref a_t_sheet_plan_set, .ref a_t_sheet_plan_chances, .int (z4 t_sheet_plan_slack), .int (z4 t_sheet_plan_limit)])), (a_t_machine_plan_least, .inl (E 0, 3, .inl (A4 t_machine_plan_least))), (a_t_sheet_plan_least, .inl (E 0, 3, .inl (A4 t_sheet_plan_least))), (a_t_machine_plan_of, .inl (E 0, 3, .inl (A4 t_machine_plan_of))), (a_t_sheet_plan_of, .inl (E 0, 3, .inl (A4 t_sheet_plan_of))), (a_t_machine_plan_set, .inl (E 0, 3, .inl (A4 t_machine_plan_set))), (a_t_sheet_plan_set, .inl (E 0, 3, .inl (A4 t_sheet_plan_set))), (a_t_sheet_plan_chances, .inl (E 0, 5, .inl (A4 t_sheet_plan_chances))), (a_t_machine_plan_chances, .inl (E 0, 5, .inl (A4 t_machine_plan_chances))), (a_t_machine_leads, .inl (E 0, 320, .inl (A4 t_machine_leads))), (a_t_machine_part, .inl (E 0, 64, .inl (A4 t_machine_part))), (a_t_machine_keys, .inl (E 0, 64, .inl (A4 t_machine_keys))), (a_t_machine_finer, .inl (E 0, 64, .inl (A4 t_machine_finer))), (a_t_machine_stateOfPart, .inl (E 0, 64, .inl (A4 t_machine_stateOfPart))), (a_t_machine_pastOfState, .inl (E 0, 64, .inl (A4 t_machine_pastOfState))), (a_t_machine_steps, .inl (E 0, 320, .inl (A4 t_machine_steps))), (a_t_machine_away, .inl (E 0, 64, .inl (A4 t_machine_away))), (a_t_outlook, .inr (3, [.ref a_t_outlook_weights, .ref a_t_outlook_next, .int (z4 t_outlook_upper), .int (z4 t_outlook_lower)])), (a_t_outlook_weights, .inl (E 0, 64, .inl (A4 t_outlook_weights))), (a_t_outlook_next, .inl (E 0, 64, .inl (A4 t_outlook_next)))] (some (.int (z4 res.1))) [(a_t, .inr (11, [.ref a_t_reader_text, .ref a_t_reader, .ref a_t_sheet, .ref a_t_history, .ref a_t_images, .ref a_t_kept, .ref a_t_walk, .ref a_t_machine, .ref a_t_outlook, .ref a_t_means, .ref a_t_singles])), (a_t_sheet, .inr (7, [.ref a_t_sheet_plan, .ref a_t_sheet_rows])), (a_t_sheet_rows, .inr (6, [.int (z4 t_sheet_rows_size), .ref a_t_sheet_rows_times, .ref a_t_sheet_rows_signs])), (a_t_walk, .inr (10, [.ref a_t_walk_met, .ref a_t_walk_past, .ref a_t_walk_up, .ref a_t_walk_down, .ref a_t_walk_signals])), (a_t_walk_past, .inl (E 0, 40, .inl (A4 t_walk_past))), (a_t_machine, .inr (1, [.ref a_t_machine_plan, .int (z4 res.2.1), .ref a_t_machine_leads, .ref a_t_machine_part, .ref a_t_machine_finer, .ref a_t_machine_keys, .ref a_t_machine_stateOfPart, .ref a_t_machine_pastOfState, .int (z4 res.2.2.1), .ref a_t_machine_steps, .ref a_t_machine_away])), (a_t_machine_plan, .inr (4, [.int (z4 res.2.2.2.1), .ref a_t_machine_plan_least, .ref a_t_machine_plan_of, .ref a_t_machine_plan_set, .ref a_t_machine_plan_chances, .int (z4 res.2.2.2.2.1), .int (z4 res.2.2.2.2.2.1)])), (a_t_sheet_plan, .inr (4, [.int (z4 t_sheet_plan_rules), .ref a_t_sheet_plan_least, .ref a_t_sheet_plan_of, .ref a_t_sheet_plan_set, .ref a_t_sheet_plan_chances, .int (z4 t_sheet_plan_slack), .int (z4 t_sheet_plan_limit)])), (a_t_machine_plan_least, .inl (E 0, 3, .inl (A4 res.2.2.2.2.2.2.1))), (a_t_sheet_plan_least, .inl (E 0, 3, .inl (A4 t_sheet_plan_least))), (a_t_machine_plan_of, .inl (E 0, 3, .inl (A4 res.2.2.2.2.2.2.2.1))), (a_t_sheet_plan_of, .inl (E 0, 3, .inl (A4 t_sheet_plan_of))), (a_t_machine_plan_set, .inl (E 0, 3, .inl (A4 res.2.2.2.2.2.2.2.2.1))), (a_t_sheet_plan_set, .inl (E 0, 3, .inl (A4 t_sheet_plan_set))), (a_t_sheet_plan_chances, .inl (E 0, 5, .inl (A4 t_sheet_plan_chances))), (a_t_machine_plan_chances, .inl (E 0, 5, .inl (A4 res.2.2.2.2.2.2.2.2.2.1))), (a_t_machine_leads, .inl (E 0, 320, .inl (A4 res.2.2.2.2.2.2.2.2.2.2.1))), (a_t_machine_part, .inl (E 0, 64, .inl (A4 res.2.2.2.2.2.2.2.2.2.2.2.1))), (a_t_machine_keys, .inl (E 0, 64, .inl (A4 res.2.2.2.2.2.2.2.2.2.2.2.2.1))), (a_t_machine_finer, .inl (E 0, 64, .inl (A4 res.2.2.2.2.2.2.2.2.2.2.2.2.2.1))), (a_t_machine_stateOfPart, .inl (E 0, 64, .inl (A4 res.2.2.2.2.2.2.2.2.2.2.2.2.2.2.1))), (a_t_machine_pastOfState, .inl (E 0, 64, .inl (A4 res.2.2.2.2.2.2.2.2.2.2.2.2.2.2.2.1))), (a_t_machine_steps, .inl (E 0, 320, .inl (A4 res.2.2.2.2.2.2.2.2.2.2.2.2.2.2.2.2.1))), (a_t_machine_away, .inl (E 0, 64, .inl (A4 res.2.2.2.2.2.2.2.2.2.2.2.2.2.2.2.2.2.1))), (a_t_outlook, .inr (3, [.ref res.2.2.2.2.2.2.2.2.2.2.2.2.2.2.2.2.2.2.2.2.1, .ref res.2.2.2.2.2.2.2.2.2.2.2.2.2.2.2.2.2.2.2.2.2.2.1, .int (z4 res.2.2.2.2.2.2.2.2.2.2.2.2.2.2.2.2.2.2.1), .int (z4 res.2.2.2.2.2.2.2.2.2.2.2.2.2.2.2.2.2.2.2.1)])), (res.2.2.2.2.2.2.2.2.2.2.2.2.2.2.2.2.2.2.2.2.1, .inl (E 0, 64, .inl (A4 res.2.2.2.2.2.2.2.2.2.2.2.2.2.2.2.2.2.2.2.2.2.1))), (res.2.2.2.2.2.2.2.2.2.2.2.2.2.2.2.2.2.2.2.2.2.2.1, .inl (E 0, 64, .inl (A4 res.2.2.2.2.2.2.2.2.2.2.2.2.2.2.2.2.2.2.2.2.2.2.2)))] := by
  refine MWi (by decide) (Nat.le_of_ble_eq_true rfl) ?_
  intro p e s m args below meth c A Q X hK hP hD hA ret ls hl
  have hS : va_S A s.heap s.heap [] := va_S.rf
  have hx := X.1
  have hb := X.2.1
  have hl : lv_has ls 3 [(0, .ref a_t), (1, .int (z4 x1)), (2, .int (z4 x2))] := hl
  unfold F_X11_odds at hf
  refine lv_iload_n hx hb dX11_odds_0 rfl (lv_at hl 1 rfl) ?_
  obtain ⟨h1, hf⟩ := ck_some hf
  refine m_if_lt X h1 dX11_odds_1 (tgt := 19) (by decide) (fun (hc_ : x1 < 0) => ?_) (fun (hc_ : ¬ (x1 < 0)) => ?_)
  · rw [if_pos hc_] at hf
    refine m_iconst X dX11_odds_19 ?_
    obtain rfl := Option.some.inj hf
    exact ret _ _ _ _ hP hD hS dX11_odds_20
  · rw [if_neg hc_] at hf
    refine lv_iload_n hx hb dX11_odds_4 rfl (lv_at hl 1 rfl) ?_
    refine m_bipush X dX11_odds_5 (by decide) ?_
    obtain ⟨h2, hf⟩ := ck_some hf
    refine m_icmp_gt X ⟨h2, ⟨by decide, by decide⟩⟩ dX11_odds_7 (tgt := 19) (by decide) (fun (hc_ : 8 < x1) => ?_) (fun (hc_ : ¬ (8 < x1)) => ?_)
    · rw [if_pos hc_] at hf
      refine m_iconst X dX11_odds_19 ?_
      obtain rfl := Option.some.inj hf
      exact ret _ _ _ _ hP hD hS dX11_odds_20
    · rw [if_neg hc_] at hf
      refine lv_iload_n hx hb dX11_odds_10 rfl (lv_at hl 2 rfl) ?_
      obtain ⟨h3, hf⟩ := ck_some hf
      refine m_if_lt X h3 dX11_odds_11 (tgt := 19) (by decide) (fun (hc_ : x2 < 0) => ?_) (fun (hc_ : ¬ (x2 < 0)) => ?_)
      · rw [if_pos hc_] at hf
        refine m_iconst X dX11_odds_19 ?_
        obtain rfl := Option.some.inj hf
        exact ret _ _ _ _ hP hD hS dX11_odds_20
      · rw [if_neg hc_] at hf
        refine lv_iload_n hx hb dX11_odds_14 rfl (lv_at hl 2 rfl) ?_
        refine m_iconst X dX11_odds_15 ?_
        obtain ⟨h4, hf⟩ := ck_some hf
        refine m_icmp_le X ⟨h4, ⟨by decide, by decide⟩⟩ dX11_odds_16 (tgt := 21) (by decide) (fun (hc_ : ¬ (1 < x2)) => ?_) (fun (hc_ : 1 < x2) => ?_)
        · rw [if_neg hc_] at hf
          refine lv_aload_n hx hb dX11_odds_21 rfl (lv_at hl 0 rfl) ?_
          refine m_get X hK hP cl_X11 iT_X11 8 (by decide) fl_X11_60 0 rfl rfl dX11_odds_22 ?_
          refine lv_aload_n hx hb dX11_odds_25 rfl (lv_at hl 0 rfl) ?_
          refine m_get X hK hP cl_X11 iT_X11 7 (by decide) fl_X11_53 0 rfl rfl dX11_odds_26 ?_
          refine lv_aload_n hx hb dX11_odds_29 rfl (lv_at hl 0 rfl) ?_
          obtain ⟨o5, ho, hf⟩ := bd_some hf
          refine m_cVW X hK hP hD hS hA (wr := [(a_t_outlook, .inr (3, [.ref a_t_outlook_weights, .ref a_t_outlook_next, .int (z4 t_outlook_upper), .int (z4 t_outlook_lower)])), (a_t_outlook_weights, .inl (E 0, 64, .inl (A4 t_outlook_weights))), (a_t_outlook_next, .inl (E 0, 64, .inl (A4 t_outlook_next)))]) (k_X11_stateNow n a_t a_t_reader_text a_t_reader a_t_sheet a_t_history a_t_images a_t_kept a_t_walk a_t_machine a_t_outlook a_t_means a_t_singles a_t_sheet_plan a_t_sheet_rows a_t_sheet_rows_times a_t_sheet_rows_signs a_t_walk_met a_t_walk_past a_t_walk_up a_t_walk_down a_t_walk_signals a_t_machine_plan a_t_machine_leads a_t_machine_part a_t_machine_finer a_t_machine_keys a_t_machine_stateOfPart a_t_machine_pastOfState a_t_machine_steps a_t_machine_away a_t_machine_plan_least a_t_machine_plan_of a_t_machine_plan_set a_t_machine_plan_chances a_t_sheet_plan_least a_t_sheet_plan_of a_t_sheet_plan_set a_t_sheet_plan_chances t_sheet_rows_size t_walk_past t_machine_pasts t_machine_states t_machine_plan_rules t_machine_plan_slack t_machine_plan_limit t_sheet_plan_rules t_sheet_plan_slack t_sheet_plan_limit t_machine_plan_least t_sheet_plan_least t_machine_plan_of t_sheet_plan_of t_machine_plan_set t_sheet_plan_set t_sheet_plan_chances t_machine_plan_chances t_machine_leads t_machine_part t_machine_keys t_machine_finer t_machine_stateOfPart t_machine_pastOfState t_machine_steps t_machine_away o5 ho) [0, 1, 2, 3, 4, 5, 6, 7, 8, 9, 10, 11, 12, 13, 14, 15, 16, 17, 18, 19, 20, 21, 22, 23] [24, 25, 26] [3, 4, 5, 6, 7, 8, 9, 10, 11, 12, 13, 14, 15, 16, 17, 18, 19, 20, 21, 22, 23, 24, 25, 26, 0, 1, 2] [(a_t, .inr (11, [.ref a_t_reader_text, .ref a_t_reader, .ref a_t_sheet, .ref a_t_history, .ref a_t_images, .ref a_t_kept, .ref a_t_walk, .ref a_t_machine, .ref a_t_outlook, .ref a_t_means, .ref a_t_singles])), (a_t_sheet, .inr (7, [.ref a_t_sheet_plan, .ref a_t_sheet_rows])), (a_t_sheet_rows, .inr (6, [.int (z4 t_sheet_rows_size), .ref a_t_sheet_rows_times, .ref a_t_sheet_rows_signs])), (a_t_walk, .inr (10, [.ref a_t_walk_met, .ref a_t_walk_past, .ref a_t_walk_up, .ref a_t_walk_down, .ref a_t_walk_signals])), (a_t_walk_past, .inl (E 0, 40, .inl (A4 t_walk_past))), (a_t_machine, .inr (1, [.ref a_t_machine_plan, .int (z4 o5.2.1), .ref a_t_machine_leads, .ref a_t_machine_part, .ref a_t_machine_finer, .ref a_t_machine_keys, .ref a_t_machine_stateOfPart, .ref a_t_machine_pastOfState, .int (z4 o5.2.2.1), .ref a_t_machine_steps, .ref a_t_machine_away])), (a_t_machine_plan, .inr (4, [.int (z4 o5.2.2.2.1), .ref a_t_machine_plan_least, .ref a_t_machine_plan_of, .ref a_t_machine_plan_set, .ref a_t_machine_plan_chances, .int (z4 o5.2.2.2.2.1), .int (z4 o5.2.2.2.2.2.1)])), (a_t_sheet_plan, .inr (4, [.int (z4 t_sheet_plan_rules), .ref a_t_sheet_plan_least, .ref a_t_sheet_plan_of, .ref a_t_sheet_plan_set, .ref a_t_sheet_plan_chances, .int (z4 t_sheet_plan_slack), .int (z4 t_sheet_plan_limit)])), (a_t_machine_plan_least, .inl (E 0, 3, .inl (A4 o5.2.2.2.2.2.2.1))), (a_t_sheet_plan_least, .inl (E 0, 3, .inl (A4 t_sheet_plan_least))), (a_t_machine_plan_of, .inl (E 0, 3, .inl (A4 o5.2.2.2.2.2.2.2.1))), (a_t_sheet_plan_of, .inl (E 0, 3, .inl (A4 t_sheet_plan_of))), (a_t_machine_plan_set, .inl (E 0, 3, .inl (A4 o5.2.2.2.2.2.2.2.2.1))), (a_t_sheet_plan_set, .inl (E 0, 3, .inl (A4 t_sheet_plan_set))), (a_t_sheet_plan_chances, .inl (E 0, 5, .inl (A4 t_sheet_plan_chances))), (a_t_machine_plan_chances, .inl (E 0, 5, .inl (A4 o5.2.2.2.2.2.2.2.2.2.1))), (a_t_machine_leads, .inl (E 0, 320, .inl (A4 o5.2.2.2.2.2.2.2.2.2.2.1))), (a_t_machine_part, .inl (E 0, 64, .inl (A4 o5.2.2.2.2.2.2.2.2.2.2.2.1))), (a_t_machine_keys, .inl (E 0, 64, .inl (A4 o5.2.2.2.2.2.2.2.2.2.2.2.2.1))), (a_t_machine_finer, .inl (E 0, 64, .inl (A4 o5.2.2.2.2.2.2.2.2.2.2.2.2.2.1))), (a_t_machine_stateOfPart, .inl (E 0, 64, .inl (A4 o5.2.2.2.2.2.2.2.2.2.2.2.2.2.2.1))), (a_t_machine_pastOfState, .inl (E 0, 64, .inl (A4 o5.2.2.2.2.2.2.2.2.2.2.2.2.2.2.2.1))), (a_t_machine_steps, .inl (E 0, 320, .inl (A4 o5.2.2.2.2.2.2.2.2.2.2.2.2.2.2.2.2.1))), (a_t_machine_away, .inl (E 0, 64, .inl (A4 o5.2.2.2.2.2.2.2.2.2.2.2.2.2.2.2.2.2))), (a_t_outlook, .inr (3, [.ref a_t_outlook_weights, .ref a_t_outlook_next, .int (z4 t_outlook_upper), .int (z4 t_outlook_lower)])), (a_t_outlook_weights, .inl (E 0, 64, .inl (A4 t_outlook_weights))), (a_t_outlook_next, .inl (E 0, 64, .inl (A4 t_outlook_next)))] rfl rfl rfl rfl (by decide) rfl rfl rfl cl_X11 lk_X11_193 co_X11_stateNow dy_X11_stateNow rfl rfl ⟨Nat.le_of_ble_eq_true rfl, Nat.le_of_ble_eq_true rfl⟩ hl.1 rfl (Nat.le_of_ble_eq_true rfl) dX11_odds_30 (Nat.zero_le _) (Nat.zero_le _) (fun H locs hP hD hS => ?_)
          refine lv_aload_n hx hb dX11_odds_33 rfl (lv_at hl 0 rfl) ?_
          refine m_get X hK hP cl_X11 iT_X11 2 (by decide) fl_X11_24 0 rfl rfl dX11_odds_34 ?_
          refine m_get X hK hP cl_X7 iT_X7 0 (by decide) fl_X11_96 1 rfl rfl dX11_odds_37 ?_
          refine m_get X hK hP cl_X4 iT_X4 4 (by decide) fl_X11_158 7 rfl rfl dX11_odds_40 ?_
          refine lv_iload_n hx hb dX11_odds_43 rfl (lv_at hl 1 rfl) ?_
          obtain ⟨o6, ho, hf⟩ := bd_some hf
          refine m_cVW X hK hP hD hS hA (wr := [(a_t, .inr (11, [.ref a_t_reader_text, .ref a_t_reader, .ref a_t_sheet, .ref a_t_history, .ref a_t_images, .ref a_t_kept, .ref a_t_walk, .ref a_t_machine, .ref a_t_outlook, .ref a_t_means, .ref a_t_singles])), (a_t_sheet, .inr (7, [.ref a_t_sheet_plan, .ref a_t_sheet_rows])), (a_t_sheet_rows, .inr (6, [.int (z4 t_sheet_rows_size), .ref a_t_sheet_rows_times, .ref a_t_sheet_rows_signs])), (a_t_walk, .inr (10, [.ref a_t_walk_met, .ref a_t_walk_past, .ref a_t_walk_up, .ref a_t_walk_down, .ref a_t_walk_signals])), (a_t_walk_past, .inl (E 0, 40, .inl (A4 t_walk_past))), (a_t_machine_plan, .inr (4, [.int (z4 o5.2.2.2.1), .ref a_t_machine_plan_least, .ref a_t_machine_plan_of, .ref a_t_machine_plan_set, .ref a_t_machine_plan_chances, .int (z4 o5.2.2.2.2.1), .int (z4 o5.2.2.2.2.2.1)])), (a_t_sheet_plan, .inr (4, [.int (z4 t_sheet_plan_rules), .ref a_t_sheet_plan_least, .ref a_t_sheet_plan_of, .ref a_t_sheet_plan_set, .ref a_t_sheet_plan_chances, .int (z4 t_sheet_plan_slack), .int (z4 t_sheet_plan_limit)])), (a_t_machine_plan_least, .inl (E 0, 3, .inl (A4 o5.2.2.2.2.2.2.1))), (a_t_sheet_plan_least, .inl (E 0, 3, .inl (A4 t_sheet_plan_least))), (a_t_machine_plan_of, .inl (E 0, 3, .inl (A4 o5.2.2.2.2.2.2.2.1))), (a_t_sheet_plan_of, .inl (E 0, 3, .inl (A4 t_sheet_plan_of))), (a_t_machine_plan_set, .inl (E 0, 3, .inl (A4 o5.2.2.2.2.2.2.2.2.1))), (a_t_sheet_plan_set, .inl (E 0, 3, .inl (A4 t_sheet_plan_set))), (a_t_machine_plan_chances, .inl (E 0, 5, .inl (A4 o5.2.2.2.2.2.2.2.2.2.1))), (a_t_machine_leads, .inl (E 0, 320, .inl (A4 o5.2.2.2.2.2.2.2.2.2.2.1))), (a_t_machine_part, .inl (E 0, 64, .inl (A4 o5.2.2.2.2.2.2.2.2.2.2.2.1))), (a_t_machine_keys, .inl (E 0, 64, .inl (A4 o5.2.2.2.2.2.2.2.2.2.2.2.2.1))), (a_t_machine_finer, .inl (E 0, 64, .inl (A4 o5.2.2.2.2.2.2.2.2.2.2.2.2.2.1))), (a_t_machine_stateOfPart, .inl (E 0, 64, .inl (A4 o5.2.2.2.2.2.2.2.2.2.2.2.2.2.2.1))), (a_t_machine_pastOfState, .inl (E 0, 64, .inl (A4 o5.2.2.2.2.2.2.2.2.2.2.2.2.2.2.2.1))), (a_t_machine_away, .inl (E 0, 64, .inl (A4 o5.2.2.2.2.2.2.2.2.2.2.2.2.2.2.2.2.2)))]) (k_X3_reckon n a_t_outlook a_t_outlook_weights a_t_outlook_next a_t_machine a_t_machine_plan a_t_machine_leads a_t_machine_part a_t_machine_finer a_t_machine_keys a_t_machine_stateOfPart a_t_machine_pastOfState a_t_machine_steps a_t_machine_away a_t_sheet_plan_chances t_outlook_upper t_outlook_lower t_outlook_weights t_outlook_next o5.2.1 o5.2.2.1 t_sheet_plan_chances o5.2.2.2.2.2.2.2.2.2.2.2.2.2.2.2.2.1 o5.1 x1 o6 ho) [24, 25, 26, 5, 14, 22] [0, 1, 2, 3, 4, 6, 7, 8, 9, 10, 11, 12, 13, 15, 16, 17, 18, 19, 20, 21, 23] [0, 1, 2, 3, 4, 24, 5, 6, 7, 8, 9, 10, 11, 12, 25, 13, 14, 15, 16, 17, 18, 19, 26, 20, 21, 22, 23] [(a_t, .inr (11, [.ref a_t_reader_text, .ref a_t_reader, .ref a_t_sheet, .ref a_t_history, .ref a_t_images, .ref a_t_kept, .ref a_t_walk, .ref a_t_machine, .ref a_t_outlook, .ref a_t_means, .ref a_t_singles])), (a_t_sheet, .inr (7, [.ref a_t_sheet_plan, .ref a_t_sheet_rows])), (a_t_sheet_rows, .inr (6, [.int (z4 t_sheet_rows_size), .ref a_t_sheet_rows_times, .ref a_t_sheet_rows_signs])), (a_t_walk, .inr (10, [.ref a_t_walk_met, .ref a_t_walk_past, .ref a_t_walk_up, .ref a_t_walk_down, .ref a_t_walk_signals])), (a_t_walk_past, .inl (E 0, 40, .inl (A4 t_walk_past))), (a_t_machine, .inr (1, [.ref a_t_machine_plan, .int (z4 o5.2.1), .ref a_t_machine_leads, .ref a_t_machine_part, .ref a_t_machine_finer, .ref a_t_machine_keys, .ref a_t_machine_stateOfPart, .ref a_t_machine_pastOfState, .int (z4 o5.2.2.1), .ref a_t_machine_steps, .ref a_t_machine_away])), (a_t_machine_plan, .inr (4, [.int (z4 o5.2.2.2.1), .ref a_t_machine_plan_least, .ref a_t_machine_plan_of, .ref a_t_machine_plan_set, .ref a_t_machine_plan_chances, .int (z4 o5.2.2.2.2.1), .int (z4 o5.2.2.2.2.2.1)])), (a_t_sheet_plan, .inr (4, [.int (z4 t_sheet_plan_rules), .ref a_t_sheet_plan_least, .ref a_t_sheet_plan_of, .ref a_t_sheet_plan_set, .ref a_t_sheet_plan_chances, .int (z4 t_sheet_plan_slack), .int (z4 t_sheet_plan_limit)])), (a_t_machine_plan_least, .inl (E 0, 3, .inl (A4 o5.2.2.2.2.2.2.1))), (a_t_sheet_plan_least, .inl (E 0, 3, .inl (A4 t_sheet_plan_least))), (a_t_machine_plan_of, .inl (E 0, 3, .inl (A4 o5.2.2.2.2.2.2.2.1))), (a_t_sheet_plan_of, .inl (E 0, 3, .inl (A4 t_sheet_plan_of))), (a_t_machine_plan_set, .inl (E 0, 3, .inl (A4 o5.2.2.2.2.2.2.2.2.1))), (a_t_sheet_plan_set, .inl (E 0, 3, .inl (A4 t_sheet_plan_set))), (a_t_sheet_plan_chances, .inl (E 0, 5, .inl (A4 t_sheet_plan_chances))), (a_t_machine_plan_chances, .inl (E 0, 5, .inl (A4 o5.2.2.2.2.2.2.2.2.2.1))), (a_t_machine_leads, .inl (E 0, 320, .inl (A4 o5.2.2.2.2.2.2.2.2.2.2.1))), (a_t_machine_part, .inl (E 0, 64, .inl (A4 o5.2.2.2.2.2.2.2.2.2.2.2.1))), (a_t_machine_keys, .inl (E 0, 64, .inl (A4 o5.2.2.2.2.2.2.2.2.2.2.2.2.1))), (a_t_machine_finer, .inl (E 0, 64, .inl (A4 o5.2.2.2.2.2.2.2.2.2.2.2.2.2.1))), (a_t_machine_stateOfPart, .inl (E 0, 64, .inl (A4 o5.2.2.2.2.2.2.2.2.2.2.2.2.2.2.1))), (a_t_machine_pastOfState, .inl (E 0, 64, .inl (A4 o5.2.2.2.2.2.2.2.2.2.2.2.2.2.2.2.1))), (a_t_machine_steps, .inl (E 0, 320, .inl (A4 o5.2.2.2.2.2.2.2.2.2.2.2.2.2.2.2.2.1))), (a_t_machine_away, .inl (E 0, 64, .inl (A4 o5.2.2.2.2.2.2.2.2.2.2.2.2.2.2.2.2.2))), (a_t_outlook, .inr (3, [.ref o6.2.2.1, .ref o6.2.2.2.2.1, .int (z4 o6.1), .int (z4 o6.2.1)])), (o6.2.2.1, .inl (E 0, 64, .inl (A4 o6.2.2.2.1))), (o6.2.2.2.2.1, .inl (E 0, 64, .inl (A4 o6.2.2.2.2.2)))] rfl rfl rfl rfl (by decide) rfl rfl rfl cl_X3 lk_X11_203 co_X3_reckon dy_X3_reckon rfl rfl ⟨Nat.le_of_ble_eq_true rfl, Nat.le_of_ble_eq_true rfl⟩ hl.1 rfl (Nat.le_of_ble_eq_true rfl) dX11_odds_44 (Nat.zero_le _) (Nat.zero_le _) (fun H locs hP hD hS => ?_)
          refine lv_iload_n hx hb dX11_odds_47 rfl (lv_at hl 2 rfl) ?_
          obtain ⟨o7, hj7, hr7⟩ := bd_some hf
          have J7 : ∀ (o_ : Int), o7 = o_ → ∀ (H : Heap) (locs : List Loc) (ls : Array Slot), lv_has ls 3 [] → va_P D vwCl [(a_t, .inr (11, [.ref a_t_reader_text, .ref a_t_reader, .ref a_t_sheet, .ref a_t_history, .ref a_t_images, .ref a_t_kept, .ref a_t_walk, .ref a_t_machine, .ref a_t_outlook, .ref a_t_means, .ref a_t_singles])), (a_t_sheet, .inr (7, [.ref a_t_sheet_plan, .ref a_t_sheet_rows])), (a_t_sheet_rows, .inr (6, [.int (z4 t_sheet_rows_size), .ref a_t_sheet_rows_times, .ref a_t_sheet_rows_signs])), (a_t_walk, .inr (10, [.ref a_t_walk_met, .ref a_t_walk_past, .ref a_t_walk_up, .ref a_t_walk_down, .ref a_t_walk_signals])), (a_t_walk_past, .inl (E 0, 40, .inl (A4 t_walk_past))), (a_t_machine, .inr (1, [.ref a_t_machine_plan, .int (z4 o5.2.1), .ref a_t_machine_leads, .ref a_t_machine_part, .ref a_t_machine_finer, .ref a_t_machine_keys, .ref a_t_machine_stateOfPart, .ref a_t_machine_pastOfState, .int (z4 o5.2.2.1), .ref a_t_machine_steps, .ref a_t_machine_away])), (a_t_machine_plan, .inr (4, [.int (z4 o5.2.2.2.1), .ref a_t_machine_plan_least, .ref a_t_machine_plan_of, .ref a_t_machine_plan_set, .ref a_t_machine_plan_chances, .int (z4 o5.2.2.2.2.1), .int (z4 o5.2.2.2.2.2.1)])), (a_t_sheet_plan, .inr (4, [.int (z4 t_sheet_plan_rules), .ref a_t_sheet_plan_least, .ref a_t_sheet_plan_of, .ref a_t_sheet_plan_set, .ref a_t_sheet_plan_chances, .int (z4 t_sheet_plan_slack), .int (z4 t_sheet_plan_limit)])), (a_t_machine_plan_least, .inl (E 0, 3, .inl (A4 o5.2.2.2.2.2.2.1))), (a_t_sheet_plan_least, .inl (E 0, 3, .inl (A4 t_sheet_plan_least))), (a_t_machine_plan_of, .inl (E 0, 3, .inl (A4 o5.2.2.2.2.2.2.2.1))), (a_t_sheet_plan_of, .inl (E 0, 3, .inl (A4 t_sheet_plan_of))), (a_t_machine_plan_set, .inl (E 0, 3, .inl (A4 o5.2.2.2.2.2.2.2.2.1))), (a_t_sheet_plan_set, .inl (E 0, 3, .inl (A4 t_sheet_plan_set))), (a_t_sheet_plan_chances, .inl (E 0, 5, .inl (A4 t_sheet_plan_chances))), (a_t_machine_plan_chances, .inl (E 0, 5, .inl (A4 o5.2.2.2.2.2.2.2.2.2.1))), (a_t_machine_leads, .inl (E 0, 320, .inl (A4 o5.2.2.2.2.2.2.2.2.2.2.1))), (a_t_machine_part, .inl (E 0, 64, .inl (A4 o5.2.2.2.2.2.2.2.2.2.2.2.1))), (a_t_machine_keys, .inl (E 0, 64, .inl (A4 o5.2.2.2.2.2.2.2.2.2.2.2.2.1))), (a_t_machine_finer, .inl (E 0, 64, .inl (A4 o5.2.2.2.2.2.2.2.2.2.2.2.2.2.1))), (a_t_machine_stateOfPart, .inl (E 0, 64, .inl (A4 o5.2.2.2.2.2.2.2.2.2.2.2.2.2.2.1))), (a_t_machine_pastOfState, .inl (E 0, 64, .inl (A4 o5.2.2.2.2.2.2.2.2.2.2.2.2.2.2.2.1))), (a_t_machine_steps, .inl (E 0, 320, .inl (A4 o5.2.2.2.2.2.2.2.2.2.2.2.2.2.2.2.2.1))), (a_t_machine_away, .inl (E 0, 64, .inl (A4 o5.2.2.2.2.2.2.2.2.2.2.2.2.2.2.2.2.2))), (a_t_outlook, .inr (3, [.ref o6.2.2.1, .ref o6.2.2.2.2.1, .int (z4 o6.1), .int (z4 o6.2.1)])), (o6.2.2.1, .inl (E 0, 64, .inl (A4 o6.2.2.2.1))), (o6.2.2.2.2.1, .inl (E 0, 64, .inl (A4 o6.2.2.2.2.2)))] H → va_D A [(a_t, .inr (11, [.ref a_t_reader_text, .ref a_t_reader, .ref a_t_sheet, .ref a_t_history, .ref a_t_images, .ref a_t_kept, .ref a_t_walk, .ref a_t_machine, .ref a_t_outlook, .ref a_t_means, .ref a_t_singles])), (a_t_sheet, .inr (7, [.ref a_t_sheet_plan, .ref a_t_sheet_rows])), (a_t_sheet_rows, .inr (6, [.int (z4 t_sheet_rows_size), .ref a_t_sheet_rows_times, .ref a_t_sheet_rows_signs])), (a_t_walk, .inr (10, [.ref a_t_walk_met, .ref a_t_walk_past, .ref a_t_walk_up, .ref a_t_walk_down, .ref a_t_walk_signals])), (a_t_walk_past, .inl (E 0, 40, .inl (A4 t_walk_past))), (a_t_machine, .inr (1, [.ref a_t_machine_plan, .int (z4 o5.2.1), .ref a_t_machine_leads, .ref a_t_machine_part, .ref a_t_machine_finer, .ref a_t_machine_keys, .ref a_t_machine_stateOfPart, .ref a_t_machine_pastOfState, .int (z4 o5.2.2.1), .ref a_t_machine_steps, .ref a_t_machine_away])), (a_t_machine_plan, .inr (4, [.int (z4 o5.2.2.2.1), .ref a_t_machine_plan_least, .ref a_t_machine_plan_of, .ref a_t_machine_plan_set, .ref a_t_machine_plan_chances, .int (z4 o5.2.2.2.2.1), .int (z4 o5.2.2.2.2.2.1)])), (a_t_sheet_plan, .inr (4, [.int (z4 t_sheet_plan_rules), .ref a_t_sheet_plan_least, .ref a_t_sheet_plan_of, .ref a_t_sheet_plan_set, .ref a_t_sheet_plan_chances, .int (z4 t_sheet_plan_slack), .int (z4 t_sheet_plan_limit)])), (a_t_machine_plan_least, .inl (E 0, 3, .inl (A4 o5.2.2.2.2.2.2.1))), (a_t_sheet_plan_least, .inl (E 0, 3, .inl (A4 t_sheet_plan_least))), (a_t_machine_plan_of, .inl (E 0, 3, .inl (A4 o5.2.2.2.2.2.2.2.1))), (a_t_sheet_plan_of, .inl (E 0, 3, .inl (A4 t_sheet_plan_of))), (a_t_machine_plan_set, .inl (E 0, 3, .inl (A4 o5.2.2.2.2.2.2.2.2.1))), (a_t_sheet_plan_set, .inl (E 0, 3, .inl (A4 t_sheet_plan_set))), (a_t_sheet_plan_chances, .inl (E 0, 5, .inl (A4 t_sheet_plan_chances))), (a_t_machine_plan_chances, .inl (E 0, 5, .inl (A4 o5.2.2.2.2.2.2.2.2.2.1))), (a_t_machine_leads, .inl (E 0, 320, .inl (A4 o5.2.2.2.2.2.2.2.2.2.2.1))), (a_t_machine_part, .inl (E 0, 64, .inl (A4 o5.2.2.2.2.2.2.2.2.2.2.2.1))), (a_t_machine_keys, .inl (E 0, 64, .inl (A4 o5.2.2.2.2.2.2.2.2.2.2.2.2.1))), (a_t_machine_finer, .inl (E 0, 64, .inl (A4 o5.2.2.2.2.2.2.2.2.2.2.2.2.2.1))), (a_t_machine_stateOfPart, .inl (E 0, 64, .inl (A4 o5.2.2.2.2.2.2.2.2.2.2.2.2.2.2.1))), (a_t_machine_pastOfState, .inl (E 0, 64, .inl (A4 o5.2.2.2.2.2.2.2.2.2.2.2.2.2.2.2.1))), (a_t_machine_steps, .inl (E 0, 320, .inl (A4 o5.2.2.2.2.2.2.2.2.2.2.2.2.2.2.2.2.1))), (a_t_machine_away, .inl (E 0, 64, .inl (A4 o5.2.2.2.2.2.2.2.2.2.2.2.2.2.2.2.2.2))), (a_t_outlook, .inr (3, [.ref o6.2.2.1, .ref o6.2.2.2.2.1, .int (z4 o6.1), .int (z4 o6.2.1)])), (o6.2.2.1, .inl (E 0, 64, .inl (A4 o6.2.2.2.1))), (o6.2.2.2.2.1, .inl (E 0, 64, .inl (A4 o6.2.2.2.2.2)))] → va_S A s.heap H locs → W p l e rm_X11_odds s m args below meth c H locs 0 0 Q (F0 m 68 ls [.int (z4 o_)]) := by
            intro o_ ho_ H locs ls hl hP hD hS
            subst ho_
            obtain rfl := Option.some.inj hr7
            exact ret _ _ _ _ hP hD hS dX11_odds_68
          obtain ⟨h8, hj7⟩ := ck_some hj7
          refine m_if_ne X h8 dX11_odds_48 (tgt := 61) (by decide) (fun (hc_ : ¬ (x2 = 0)) => ?_) (fun (hc_ : x2 = 0) => ?_)
          · rw [if_neg hc_] at hj7
            refine lv_aload_n hx hb dX11_odds_61 rfl (lv_at hl 0 rfl) ?_
            refine m_get X hK hP cl_X11 iT_X11 8 (by decide) fl_X11_60 0 rfl rfl dX11_odds_62 ?_
            refine m_get X hK hP cl_X3 iT_X3 3 (by decide) fl_X11_210 24 rfl rfl dX11_odds_65 ?_
            exact J7 _ (Option.some.inj hj7).symm _ _ _ (lv_sub hl [] rfl) hP hD hS
          · rw [if_pos hc_] at hj7
            refine lv_aload_n hx hb dX11_odds_51 rfl (lv_at hl 0 rfl) ?_
            refine m_get X hK hP cl_X11 iT_X11 8 (by decide) fl_X11_60 0 rfl rfl dX11_odds_52 ?_
            refine m_get X hK hP cl_X3 iT_X3 2 (by decide) fl_X11_207 24 rfl rfl dX11_odds_55 ?_
            refine lv_goto (tgt := 68) hx hb dX11_odds_58 (by decide) ?_
            exact J7 _ (Option.some.inj hj7).symm _ _ _ (lv_sub hl [] rfl) hP hD hS
        · rw [if_pos hc_] at hf
          refine m_iconst X dX11_odds_19 ?_
          obtain rfl := Option.some.inj hf
          exact ret _ _ _ _ hP hD hS dX11_odds_20
def F_X11_same (n : Nat)  (t_singles_known : Int) (t_singles_size : Int) (t_singles_first : Int) (t_singles_most : Int) (t_singles_fewest : Int) (t_sheet_rows_size : Int) (t_sheet_rows_signs : Nat → Int) (t_walk_met : Nat → Int) (x1 : Int) : Option (Int × Int × Int × Int × Int × Int) :=
  ck (r4 x1) <|
  if x1 < 0 then
    some ((-1), t_singles_known, t_singles_size, t_singles_first, t_singles_most, t_singles_fewest)
  else
    ck (r4 x1) <|
    if 1 < x1 then
      some ((-1), t_singles_known, t_singles_size, t_singles_first, t_singles_most, t_singles_fewest)
    else
      Option.bind (α := Int × Int × Int × Int × Int) (
        ck (r4 t_singles_known) <|
        if t_singles_known = 0 then
          (F_X8_search n t_singles_most t_singles_fewest t_sheet_rows_size t_sheet_rows_signs t_walk_met).bind fun o5 =>
          some (o5.1, o5.2.1, o5.2.2.1, o5.2.2.2.1, o5.2.2.2.2)
        else
          some (t_singles_known, t_singles_size, t_singles_first, t_singles_most, t_singles_fewest)) fun o3 =>
      Option.bind (α := Int) (
        ck (r4 x1) <|
        if x1 = 0 then
          some o3.2.1
        else
          some o3.2.2.1) fun o6 =>
      some (o6, o3.1, o3.2.1, o3.2.2.1, o3.2.2.2.1, o3.2.2.2.2)
def rm_X11_same : Room := { frames := 3, cells := 0, slots := 0, locals := 74 }
set_option maxHeartbeats 4000000 in
set_option maxRecDepth 100000 in
theorem k_X11_same {l : Launch} {D : va_G} {E : Nat → ClassId} (n : Nat) (a_t a_t_reader_text a_t_reader a_t_sheet a_t_history a_t_images a_t_kept a_t_walk a_t_machine a_t_outlook a_t_means a_t_singles a_t_sheet_plan a_t_sheet_rows a_t_walk_met a_t_walk_past a_t_walk_up a_t_walk_down a_t_walk_signals a_t_sheet_rows_times a_t_sheet_rows_signs : Nat) (t_singles_known : Int) (t_singles_size : Int) (t_singles_first : Int) (t_singles_most : Int) (t_singles_fewest : Int) (t_sheet_rows_size : Int) (t_sheet_rows_signs : Nat → Int) (t_walk_met : Nat → Int) (x1 : Int) (res : Int × Int × Int × Int × Int × Int) (hf : F_X11_same n t_singles_known t_singles_size t_singles_first t_singles_most t_singles_fewest t_sheet_rows_size t_sheet_rows_signs t_walk_met x1 = some res) : MW l yX11_same (.code yX11_same cX11_same 2 (some .int)) rm_X11_same D E [.ref a_t, .int (z4 x1)] [(a_t, .inr (11, [.ref a_t_reader_text, .ref a_t_reader, .ref a_t_sheet, .ref a_t_history, .ref a_t_images, .ref a_t_kept, .ref a_t_walk, .ref a_t_machine, .ref a_t_outlook, .ref a_t_means, .ref a_t_singles])), (a_t_singles, .inr (8, [.int (z4 t_singles_known), .int (z4 t_singles_size), .int (z4 t_singles_first), .int (z4 t_singles_most), .int (z4 t_singles_fewest)])), (a_t_sheet, .inr (7, [.ref a_t_sheet_plan, .ref a_t_sheet_rows])), (a_t_walk, .inr (10, [.ref a_t_walk_met, .ref a_t_walk_past, .ref a_t_walk_up, .ref a_t_walk_down, .ref a_t_walk_signals])), (a_t_sheet_rows, .inr (6, [.int (z4 t_sheet_rows_size), .ref a_t_sheet_rows_times, .ref a_t_sheet_rows_signs])), (a_t_sheet_rows_signs, .inl (E 0, 40, .inl (A4 t_sheet_rows_signs))), (a_t_walk_met, .inl (E 0, 40, .inl (A4 t_walk_met)))] (some (.int (z4 res.1))) [(a_t, .inr (11, [.ref a_t_reader_text, .ref a_t_reader, .ref a_t_sheet, .ref a_t_history, .ref a_t_images, .ref a_t_kept, .ref a_t_walk, .ref a_t_machine, .ref a_t_outlook, .ref a_t_means, .ref a_t_singles])), (a_t_singles, .inr (8, [.int (z4 res.2.1), .int (z4 res.2.2.1), .int (z4 res.2.2.2.1), .int (z4 res.2.2.2.2.1), .int (z4 res.2.2.2.2.2)])), (a_t_sheet, .inr (7, [.ref a_t_sheet_plan, .ref a_t_sheet_rows])), (a_t_walk, .inr (10, [.ref a_t_walk_met, .ref a_t_walk_past, .ref a_t_walk_up, .ref a_t_walk_down, .ref a_t_walk_signals])), (a_t_sheet_rows, .inr (6, [.int (z4 t_sheet_rows_size), .ref a_t_sheet_rows_times, .ref a_t_sheet_rows_signs])), (a_t_sheet_rows_signs, .inl (E 0, 40, .inl (A4 t_sheet_rows_signs))), (a_t_walk_met, .inl (E 0, 40, .inl (A4 t_walk_met)))] := by
  refine MWi (by decide) (Nat.le_of_ble_eq_true rfl) ?_
  intro p e s m args below meth c A Q X hK hP hD hA ret ls hl
  have hS : va_S A s.heap s.heap [] := va_S.rf
  have hx := X.1
  have hb := X.2.1
  have hl : lv_has ls 2 [(0, .ref a_t), (1, .int (z4 x1))] := hl
  unfold F_X11_same at hf
  refine lv_iload_n hx hb dX11_same_0 rfl (lv_at hl 1 rfl) ?_
  obtain ⟨h1, hf⟩ := ck_some hf
  refine m_if_lt X h1 dX11_same_1 (tgt := 9) (by decide) (fun (hc_ : x1 < 0) => ?_) (fun (hc_ : ¬ (x1 < 0)) => ?_)
  · rw [if_pos hc_] at hf
    refine m_iconst X dX11_same_9 ?_
    obtain rfl := Option.some.inj hf
    exact ret _ _ _ _ hP hD hS dX11_same_10
  · rw [if_neg hc_] at hf
    refine lv_iload_n hx hb dX11_same_4 rfl (lv_at hl 1 rfl) ?_
    refine m_iconst X dX11_same_5 ?_
    obtain ⟨h2, hf⟩ := ck_some hf
    refine m_icmp_le X ⟨h2, ⟨by decide, by decide⟩⟩ dX11_same_6 (tgt := 11) (by decide) (fun (hc_ : ¬ (1 < x1)) => ?_) (fun (hc_ : 1 < x1) => ?_)
    · rw [if_neg hc_] at hf
      refine lv_aload_n hx hb dX11_same_11 rfl (lv_at hl 0 rfl) ?_
      refine m_get X hK hP cl_X11 iT_X11 10 (by decide) fl_X11_74 0 rfl rfl dX11_same_12 ?_
      refine m_get X hK hP cl_X8 iT_X8 0 (by decide) fl_X11_227 1 rfl rfl dX11_same_15 ?_
      obtain ⟨o3, hj3, hr3⟩ := bd_some hf
      have J3 : ∀ (o_ : Int × Int × Int × Int × Int), o3 = o_ → ∀ (H : Heap) (locs : List Loc) (ls : Array Slot), lv_has ls 2 [(0, .ref a_t), (1, .int (z4 x1))] → va_P D vwCl [(a_t, .inr (11, [.ref a_t_reader_text, .ref a_t_reader, .ref a_t_sheet, .ref a_t_history, .ref a_t_images, .ref a_t_kept, .ref a_t_walk, .ref a_t_machine, .ref a_t_outlook, .ref a_t_means, .ref a_t_singles])), (a_t_singles, .inr (8, [.int (z4 o_.1), .int (z4 o_.2.1), .int (z4 o_.2.2.1), .int (z4 o_.2.2.2.1), .int (z4 o_.2.2.2.2)])), (a_t_sheet, .inr (7, [.ref a_t_sheet_plan, .ref a_t_sheet_rows])), (a_t_walk, .inr (10, [.ref a_t_walk_met, .ref a_t_walk_past, .ref a_t_walk_up, .ref a_t_walk_down, .ref a_t_walk_signals])), (a_t_sheet_rows, .inr (6, [.int (z4 t_sheet_rows_size), .ref a_t_sheet_rows_times, .ref a_t_sheet_rows_signs])), (a_t_sheet_rows_signs, .inl (E 0, 40, .inl (A4 t_sheet_rows_signs))), (a_t_walk_met, .inl (E 0, 40, .inl (A4 t_walk_met)))] H → va_D A [(a_t, .inr (11, [.ref a_t_reader_text, .ref a_t_reader, .ref a_t_sheet, .ref a_t_history, .ref a_t_images, .ref a_t_kept, .ref a_t_walk, .ref a_t_machine, .ref a_t_outlook, .ref a_t_means, .ref a_t_singles])), (a_t_singles, .inr (8, [.int (z4 o_.1), .int (z4 o_.2.1), .int (z4 o_.2.2.1), .int (z4 o_.2.2.2.1), .int (z4 o_.2.2.2.2)])), (a_t_sheet, .inr (7, [.ref a_t_sheet_plan, .ref a_t_sheet_rows])), (a_t_walk, .inr (10, [.ref a_t_walk_met, .ref a_t_walk_past, .ref a_t_walk_up, .ref a_t_walk_down, .ref a_t_walk_signals])), (a_t_sheet_rows, .inr (6, [.int (z4 t_sheet_rows_size), .ref a_t_sheet_rows_times, .ref a_t_sheet_rows_signs])), (a_t_sheet_rows_signs, .inl (E 0, 40, .inl (A4 t_sheet_rows_signs))), (a_t_walk_met, .inl (E 0, 40, .inl (A4 t_walk_met)))] → va_S A s.heap H locs → W p l e rm_X11_same s m args below meth c H locs 0 0 Q (F0 m 42 ls []) := by
        intro o_ ho_ H locs ls hl hP hD hS
        subst ho_
        refine lv_iload_n hx hb dX11_same_42 rfl (lv_at hl 1 rfl) ?_
        obtain ⟨o6, hj6, hr6⟩ := bd_some hr3
        have J6 : ∀ (o_ : Int), o6 = o_ → ∀ (H : Heap) (locs : List Loc) (ls : Array Slot), lv_has ls 2 [] → va_P D vwCl [(a_t, .inr (11, [.ref a_t_reader_text, .ref a_t_reader, .ref a_t_sheet, .ref a_t_history, .ref a_t_images, .ref a_t_kept, .ref a_t_walk, .ref a_t_machine, .ref a_t_outlook, .ref a_t_means, .ref a_t_singles])), (a_t_singles, .inr (8, [.int (z4 o3.1), .int (z4 o3.2.1), .int (z4 o3.2.2.1), .int (z4 o3.2.2.2.1), .int (z4 o3.2.2.2.2)])), (a_t_sheet, .inr (7, [.ref a_t_sheet_plan, .ref a_t_sheet_rows])), (a_t_walk, .inr (10, [.ref a_t_walk_met, .ref a_t_walk_past, .ref a_t_walk_up, .ref a_t_walk_down, .ref a_t_walk_signals])), (a_t_sheet_rows, .inr (6, [.int (z4 t_sheet_rows_size), .ref a_t_sheet_rows_times, .ref a_t_sheet_rows_signs])), (a_t_sheet_rows_signs, .inl (E 0, 40, .inl (A4 t_sheet_rows_signs))), (a_t_walk_met, .inl (E 0, 40, .inl (A4 t_walk_met)))] H → va_D A [(a_t, .inr (11, [.ref a_t_reader_text, .ref a_t_reader, .ref a_t_sheet, .ref a_t_history, .ref a_t_images, .ref a_t_kept, .ref a_t_walk, .ref a_t_machine, .ref a_t_outlook, .ref a_t_means, .ref a_t_singles])), (a_t_singles, .inr (8, [.int (z4 o3.1), .int (z4 o3.2.1), .int (z4 o3.2.2.1), .int (z4 o3.2.2.2.1), .int (z4 o3.2.2.2.2)])), (a_t_sheet, .inr (7, [.ref a_t_sheet_plan, .ref a_t_sheet_rows])), (a_t_walk, .inr (10, [.ref a_t_walk_met, .ref a_t_walk_past, .ref a_t_walk_up, .ref a_t_walk_down, .ref a_t_walk_signals])), (a_t_sheet_rows, .inr (6, [.int (z4 t_sheet_rows_size), .ref a_t_sheet_rows_times, .ref a_t_sheet_rows_signs])), (a_t_sheet_rows_signs, .inl (E 0, 40, .inl (A4 t_sheet_rows_signs))), (a_t_walk_met, .inl (E 0, 40, .inl (A4 t_walk_met)))] → va_S A s.heap H locs → W p l e rm_X11_same s m args below meth c H locs 0 0 Q (F0 m 63 ls [.int (z4 o_)]) := by
          intro o_ ho_ H locs ls hl hP hD hS
          subst ho_
          obtain rfl := Option.some.inj hr6
          exact ret _ _ _ _ hP hD hS dX11_same_63
        obtain ⟨h7, hj6⟩ := ck_some hj6
        refine m_if_ne X h7 dX11_same_43 (tgt := 56) (by decide) (fun (hc_ : ¬ (x1 = 0)) => ?_) (fun (hc_ : x1 = 0) => ?_)
        · rw [if_neg hc_] at hj6
          refine lv_aload_n hx hb dX11_same_56 rfl (lv_at hl 0 rfl) ?_
          refine m_get X hK hP cl_X11 iT_X11 10 (by decide) fl_X11_74 0 rfl rfl dX11_same_57 ?_
          refine m_get X hK hP cl_X8 iT_X8 2 (by decide) fl_X11_233 1 rfl rfl dX11_same_60 ?_
          exact J6 _ (Option.some.inj hj6).symm _ _ _ (lv_sub hl [] rfl) hP hD hS
        · rw [if_pos hc_] at hj6
          refine lv_aload_n hx hb dX11_same_46 rfl (lv_at hl 0 rfl) ?_
          refine m_get X hK hP cl_X11 iT_X11 10 (by decide) fl_X11_74 0 rfl rfl dX11_same_47 ?_
          refine m_get X hK hP cl_X8 iT_X8 1 (by decide) fl_X11_232 1 rfl rfl dX11_same_50 ?_
          refine lv_goto (tgt := 63) hx hb dX11_same_53 (by decide) ?_
          exact J6 _ (Option.some.inj hj6).symm _ _ _ (lv_sub hl [] rfl) hP hD hS
      obtain ⟨h4, hj3⟩ := ck_some hj3
      refine m_if_ne X h4 dX11_same_18 (tgt := 42) (by decide) (fun (hc_ : ¬ (t_singles_known = 0)) => ?_) (fun (hc_ : t_singles_known = 0) => ?_)
      · rw [if_neg hc_] at hj3
        exact J3 _ (Option.some.inj hj3).symm _ _ _ (lv_sub hl [0, 1] rfl) hP hD hS
      · rw [if_pos hc_] at hj3
        refine lv_aload_n hx hb dX11_same_21 rfl (lv_at hl 0 rfl) ?_
        refine m_get X hK hP cl_X11 iT_X11 10 (by decide) fl_X11_74 0 rfl rfl dX11_same_22 ?_
        refine lv_aload_n hx hb dX11_same_25 rfl (lv_at hl 0 rfl) ?_
        refine m_get X hK hP cl_X11 iT_X11 2 (by decide) fl_X11_24 0 rfl rfl dX11_same_26 ?_
        refine m_get X hK hP cl_X7 iT_X7 1 (by decide) fl_X11_114 2 rfl rfl dX11_same_29 ?_
        refine lv_aload_n hx hb dX11_same_32 rfl (lv_at hl 0 rfl) ?_
        refine m_get X hK hP cl_X11 iT_X11 6 (by decide) fl_X11_46 0 rfl rfl dX11_same_33 ?_
        refine m_get X hK hP cl_X10 iT_X10 0 (by decide) fl_X11_161 3 rfl rfl dX11_same_36 ?_
        obtain ⟨o5, ho, hj3⟩ := bd_some hj3
        refine m_cVW X hK hP hD hS hA (wr := [(a_t, .inr (11, [.ref a_t_reader_text, .ref a_t_reader, .ref a_t_sheet, .ref a_t_history, .ref a_t_images, .ref a_t_kept, .ref a_t_walk, .ref a_t_machine, .ref a_t_outlook, .ref a_t_means, .ref a_t_singles])), (a_t_sheet, .inr (7, [.ref a_t_sheet_plan, .ref a_t_sheet_rows])), (a_t_walk, .inr (10, [.ref a_t_walk_met, .ref a_t_walk_past, .ref a_t_walk_up, .ref a_t_walk_down, .ref a_t_walk_signals]))]) (k_X8_search n a_t_singles a_t_sheet_rows a_t_sheet_rows_times a_t_sheet_rows_signs a_t_walk_met t_singles_known t_singles_size t_singles_first t_singles_most t_singles_fewest t_sheet_rows_size t_sheet_rows_signs t_walk_met o5 ho) [1, 4, 5, 6] [0, 2, 3] [0, 3, 1, 2, 4, 5, 6] [(a_t, .inr (11, [.ref a_t_reader_text, .ref a_t_reader, .ref a_t_sheet, .ref a_t_history, .ref a_t_images, .ref a_t_kept, .ref a_t_walk, .ref a_t_machine, .ref a_t_outlook, .ref a_t_means, .ref a_t_singles])), (a_t_singles, .inr (8, [.int (z4 o5.1), .int (z4 o5.2.1), .int (z4 o5.2.2.1), .int (z4 o5.2.2.2.1), .int (z4 o5.2.2.2.2)])), (a_t_sheet, .inr (7, [.ref a_t_sheet_plan, .ref a_t_sheet_rows])), (a_t_walk, .inr (10, [.ref a_t_walk_met, .ref a_t_walk_past, .ref a_t_walk_up, .ref a_t_walk_down, .ref a_t_walk_signals])), (a_t_sheet_rows, .inr (6, [.int (z4 t_sheet_rows_size), .ref a_t_sheet_rows_times, .ref a_t_sheet_rows_signs])), (a_t_sheet_rows_signs, .inl (E 0, 40, .inl (A4 t_sheet_rows_signs))), (a_t_walk_met, .inl (E 0, 40, .inl (A4 t_walk_met)))] rfl rfl rfl rfl (by decide) rfl rfl rfl cl_X8 lk_X11_228 co_X8_search dy_X8_search rfl rfl ⟨Nat.le_of_ble_eq_true rfl, Nat.le_of_ble_eq_true rfl⟩ hl.1 rfl (Nat.le_of_ble_eq_true rfl) dX11_same_39 (Nat.zero_le _) (Nat.zero_le _) (fun H locs hP hD hS => ?_)
        exact J3 _ (Option.some.inj hj3).symm _ _ _ (lv_sub hl [0, 1] rfl) hP hD hS
    · rw [if_pos hc_] at hf
      refine m_iconst X dX11_same_9 ?_
      obtain rfl := Option.some.inj hf
      exact ret _ _ _ _ hP hD hS dX11_same_10
def F_X11_count (n : Nat)  (t_sheet_rows_size : Int) (t_sheet_plan_rules : Int) (t_sheet_plan_slack : Int) (t_sheet_plan_limit : Int) (t_machine_pasts : Int) (t_machine_states : Int) (t_machine_plan_rules : Int) (t_machine_plan_slack : Int) (t_machine_plan_limit : Int) (t_machine_plan_least : Nat → Int) (t_sheet_plan_least : Nat → Int) (t_machine_plan_of : Nat → Int) (t_sheet_plan_of : Nat → Int) (t_machine_plan_set : Nat → Int) (t_sheet_plan_set : Nat → Int) (t_sheet_plan_chances : Nat → Int) (t_machine_plan_chances : Nat → Int) (t_machine_leads : Nat → Int) (t_machine_part : Nat → Int) (t_machine_keys : Nat → Int) (t_machine_finer : Nat → Int) (t_machine_stateOfPart : Nat → Int) (t_machine_pastOfState : Nat → Int) (t_machine_steps : Nat → Int) (t_machine_away : Nat → Int) (t_walk_past : Nat → Int) (t_walk_up : Nat → Int) (t_walk_down : Nat → Int) (t_reader_text_size : Int) (t_history_size : Int) (x1 : Int) : Option (Int × Int × Int × Int × Int × Int × (Nat → Int) × (Nat → Int) × (Nat → Int) × (Nat → Int) × (Nat → Int) × (Nat → Int) × (Nat → Int) × (Nat → Int) × (Nat → Int) × (Nat → Int) × (Nat → Int) × (Nat → Int)) :=
  ck (r4 x1) <|
  if x1 = 0 then
    some (t_sheet_plan_rules, t_machine_pasts, t_machine_states, t_machine_plan_rules, t_machine_plan_slack, t_machine_plan_limit, t_machine_plan_least, t_machine_plan_of, t_machine_plan_set, t_machine_plan_chances, t_machine_leads, t_machine_part, t_machine_keys, t_machine_finer, t_machine_stateOfPart, t_machine_pastOfState, t_machine_steps, t_machine_away)
  else
    if x1 = 1 then
      some (t_sheet_rows_size, t_machine_pasts, t_machine_states, t_machine_plan_rules, t_machine_plan_slack, t_machine_plan_limit, t_machine_plan_least, t_machine_plan_of, t_machine_plan_set, t_machine_plan_chances, t_machine_leads, t_machine_part, t_machine_keys, t_machine_finer, t_machine_stateOfPart, t_machine_pastOfState, t_machine_steps, t_machine_away)
    else
      if x1 = 2 then
        (F_X11_fitted n t_machine_pasts t_machine_states t_machine_plan_rules t_machine_plan_slack t_machine_plan_limit t_sheet_plan_rules t_sheet_plan_slack t_sheet_plan_limit t_machine_plan_least t_sheet_plan_least t_machine_plan_of t_sheet_plan_of t_machine_plan_set t_sheet_plan_set t_sheet_plan_chances t_machine_plan_chances t_machine_leads t_machine_part t_machine_keys t_machine_finer t_machine_stateOfPart t_machine_pastOfState t_machine_steps t_machine_away).bind fun o2 =>
        some (o2.2.1, o2.1, o2.2.1, o2.2.2.1, o2.2.2.2.1, o2.2.2.2.2.1, o2.2.2.2.2.2.1, o2.2.2.2.2.2.2.1, o2.2.2.2.2.2.2.2.1, o2.2.2.2.2.2.2.2.2.1, o2.2.2.2.2.2.2.2.2.2.1, o2.2.2.2.2.2.2.2.2.2.2.1, o2.2.2.2.2.2.2.2.2.2.2.2.1, o2.2.2.2.2.2.2.2.2.2.2.2.2.1, o2.2.2.2.2.2.2.2.2.2.2.2.2.2.1, o2.2.2.2.2.2.2.2.2.2.2.2.2.2.2.1, o2.2.2.2.2.2.2.2.2.2.2.2.2.2.2.2.1, o2.2.2.2.2.2.2.2.2.2.2.2.2.2.2.2.2)
      else
        if x1 = 3 then
          (F_X11_stateNow n t_sheet_rows_size t_walk_past t_machine_pasts t_machine_states t_machine_plan_rules t_machine_plan_slack t_machine_plan_limit t_sheet_plan_rules t_sheet_plan_slack t_sheet_plan_limit t_machine_plan_least t_sheet_plan_least t_machine_plan_of t_sheet_plan_of t_machine_plan_set t_sheet_plan_set t_sheet_plan_chances t_machine_plan_chances t_machine_leads t_machine_part t_machine_keys t_machine_finer t_machine_stateOfPart t_machine_pastOfState t_machine_steps t_machine_away).bind fun o3 =>
          some (o3.1, o3.2.1, o3.2.2.1, o3.2.2.2.1, o3.2.2.2.2.1, o3.2.2.2.2.2.1, o3.2.2.2.2.2.2.1, o3.2.2.2.2.2.2.2.1, o3.2.2.2.2.2.2.2.2.1, o3.2.2.2.2.2.2.2.2.2.1, o3.2.2.2.2.2.2.2.2.2.2.1, o3.2.2.2.2.2.2.2.2.2.2.2.1, o3.2.2.2.2.2.2.2.2.2.2.2.2.1, o3.2.2.2.2.2.2.2.2.2.2.2.2.2.1, o3.2.2.2.2.2.2.2.2.2.2.2.2.2.2.1, o3.2.2.2.2.2.2.2.2.2.2.2.2.2.2.2.1, o3.2.2.2.2.2.2.2.2.2.2.2.2.2.2.2.2.1, o3.2.2.2.2.2.2.2.2.2.2.2.2.2.2.2.2.2)
        else
          if x1 = 4 then
            some (t_sheet_plan_slack, t_machine_pasts, t_machine_states, t_machine_plan_rules, t_machine_plan_slack, t_machine_plan_limit, t_machine_plan_least, t_machine_plan_of, t_machine_plan_set, t_machine_plan_chances, t_machine_leads, t_machine_part, t_machine_keys, t_machine_finer, t_machine_stateOfPart, t_machine_pastOfState, t_machine_steps, t_machine_away)
          else
            if x1 = 5 then
              some (t_sheet_plan_limit, t_machine_pasts, t_machine_states, t_machine_plan_rules, t_machine_plan_slack, t_machine_plan_limit, t_machine_plan_least, t_machine_plan_of, t_machine_plan_set, t_machine_plan_chances, t_machine_leads, t_machine_part, t_machine_keys, t_machine_finer, t_machine_stateOfPart, t_machine_pastOfState, t_machine_steps, t_machine_away)
            else
              if x1 = 6 then
                (F_X11_isRow n t_sheet_rows_size (t_sheet_rows_size - 1)).bind fun o4 =>
                Option.bind (α := Int) (
                  ck (r4 o4) <|
                  if o4 = 0 then
                    some 0
                  else
                    ck (ix_ (t_sheet_rows_size - 1) 40) <|
                    some (t_walk_up (t_sheet_rows_size - 1).toNat)) fun o5 =>
                some (o5, t_machine_pasts, t_machine_states, t_machine_plan_rules, t_machine_plan_slack, t_machine_plan_limit, t_machine_plan_least, t_machine_plan_of, t_machine_plan_set, t_machine_plan_chances, t_machine_leads, t_machine_part, t_machine_keys, t_machine_finer, t_machine_stateOfPart, t_machine_pastOfState, t_machine_steps, t_machine_away)
              else
                if x1 = 7 then
                  (F_X11_isRow n t_sheet_rows_size (t_sheet_rows_size - 1)).bind fun o8 =>
                  Option.bind (α := Int) (
                    ck (r4 o8) <|
                    if o8 = 0 then
                      some 0
                    else
                      ck (ix_ (t_sheet_rows_size - 1) 40) <|
                      some (t_walk_down (t_sheet_rows_size - 1).toNat)) fun o9 =>
                  some (o9, t_machine_pasts, t_machine_states, t_machine_plan_rules, t_machine_plan_slack, t_machine_plan_limit, t_machine_plan_least, t_machine_plan_of, t_machine_plan_set, t_machine_plan_chances, t_machine_leads, t_machine_part, t_machine_keys, t_machine_finer, t_machine_stateOfPart, t_machine_pastOfState, t_machine_steps, t_machine_away)
                else
                  if x1 = 8 then
                    some (t_reader_text_size, t_machine_pasts, t_machine_states, t_machine_plan_rules, t_machine_plan_slack, t_machine_plan_limit, t_machine_plan_least, t_machine_plan_of, t_machine_plan_set, t_machine_plan_chances, t_machine_leads, t_machine_part, t_machine_keys, t_machine_finer, t_machine_stateOfPart, t_machine_pastOfState, t_machine_steps, t_machine_away)
                  else
                    if x1 = 9 then
                      some (t_history_size, t_machine_pasts, t_machine_states, t_machine_plan_rules, t_machine_plan_slack, t_machine_plan_limit, t_machine_plan_least, t_machine_plan_of, t_machine_plan_set, t_machine_plan_chances, t_machine_leads, t_machine_part, t_machine_keys, t_machine_finer, t_machine_stateOfPart, t_machine_pastOfState, t_machine_steps, t_machine_away)
                    else
                      some ((-1), t_machine_pasts, t_machine_states, t_machine_plan_rules, t_machine_plan_slack, t_machine_plan_limit, t_machine_plan_least, t_machine_plan_of, t_machine_plan_set, t_machine_plan_chances, t_machine_leads, t_machine_part, t_machine_keys, t_machine_finer, t_machine_stateOfPart, t_machine_pastOfState, t_machine_steps, t_machine_away)
def rm_X11_count : Room := { frames := 6, cells := 0, slots := 0, locals := 139 }
set_option maxHeartbeats 4000000 in
set_option maxRecDepth 100000 in
theorem k_X11_count {l : Launch} {D : va_G} {E : Nat → ClassId} (n : Nat) (a_t a_t_reader_text a_t_reader a_t_sheet a_t_history a_t_images a_t_kept a_t_walk a_t_machine a_t_outlook a_t_means a_t_singles a_t_sheet_plan a_t_sheet_rows a_t_sheet_rows_times a_t_sheet_rows_signs a_t_sheet_plan_least a_t_sheet_plan_of a_t_sheet_plan_set a_t_sheet_plan_chances a_t_machine_plan a_t_machine_leads a_t_machine_part a_t_machine_finer a_t_machine_keys a_t_machine_stateOfPart a_t_machine_pastOfState a_t_machine_steps a_t_machine_away a_t_machine_plan_least a_t_machine_plan_of a_t_machine_plan_set a_t_machine_plan_chances a_t_walk_met a_t_walk_past a_t_walk_up a_t_walk_down a_t_walk_signals a_t_reader_text_letters a_t_reader_text_kinds a_t_reader_text_starts a_t_reader_text_values a_t_history_sheets : Nat) (t_sheet_rows_size : Int) (t_sheet_plan_rules : Int) (t_sheet_plan_slack : Int) (t_sheet_plan_limit : Int) (t_machine_pasts : Int) (t_machine_states : Int) (t_machine_plan_rules : Int) (t_machine_plan_slack : Int) (t_machine_plan_limit : Int) (t_machine_plan_least : Nat → Int) (t_sheet_plan_least : Nat → Int) (t_machine_plan_of : Nat → Int) (t_sheet_plan_of : Nat → Int) (t_machine_plan_set : Nat → Int) (t_sheet_plan_set : Nat → Int) (t_sheet_plan_chances : Nat → Int) (t_machine_plan_chances : Nat → Int) (t_machine_leads : Nat → Int) (t_machine_part : Nat → Int) (t_machine_keys : Nat → Int) (t_machine_finer : Nat → Int) (t_machine_stateOfPart : Nat → Int) (t_machine_pastOfState : Nat → Int) (t_machine_steps : Nat → Int) (t_machine_away : Nat → Int) (t_walk_past : Nat → Int) (t_walk_up : Nat → Int) (t_walk_down : Nat → Int) (t_reader_text_size : Int) (t_reader_text_place : Int) (t_reader_text_tokens : Int) (t_history_next : Int) (t_history_size : Int) (x1 : Int) (res : Int × Int × Int × Int × Int × Int × (Nat → Int) × (Nat → Int) × (Nat → Int) × (Nat → Int) × (Nat → Int) × (Nat → Int) × (Nat → Int) × (Nat → Int) × (Nat → Int) × (Nat → Int) × (Nat → Int) × (Nat → Int)) (hf : F_X11_count n t_sheet_rows_size t_sheet_plan_rules t_sheet_plan_slack t_sheet_plan_limit t_machine_pasts t_machine_states t_machine_plan_rules t_machine_plan_slack t_machine_plan_limit t_machine_plan_least t_sheet_plan_least t_machine_plan_of t_sheet_plan_of t_machine_plan_set t_sheet_plan_set t_sheet_plan_chances t_machine_plan_chances t_machine_leads t_machine_part t_machine_keys t_machine_finer t_machine_stateOfPart t_machine_pastOfState t_machine_steps t_machine_away t_walk_past t_walk_up t_walk_down t_reader_text_size t_history_size x1 = some res) : MW l yX11_count (.code yX11_count cX11_count 3 (some .int)) rm_X11_count D E [.ref a_t, .int (z4 x1)] [(a_t, .inr (11, [.ref a_t_reader_text, .ref a_t_reader, .ref a_t_sheet, .ref a_t_history, .ref a_t_images, .ref a_t_kept, .ref a_t_walk, .ref a_t_machine, .ref a_t_outlook, .ref a_t_means, .ref a_t_singles])), (a_t_sheet, .inr (7, [.ref a_t_sheet_plan, .ref a_t_sheet_rows])), (a_t_sheet_rows, .inr (6, [.int (z4 t_sheet_rows_size), .ref a_t_sheet_rows_times, .ref a_t_sheet_rows_signs])), (a_t_sheet_plan, .inr (4, [.int (z4 t_sheet_plan_rules), .ref a_t_sheet_plan_least, .ref a_t_sheet_plan_of, .ref a_t_sheet_plan_set, .ref a_t_sheet_plan_chances, .int (z4 t_sheet_plan_slack), .int (z4 t_sheet_plan_limit)])), (a_t_machine, .inr (1, [.ref a_t_machine_plan, .int (z4 t_machine_pasts), .ref a_t_machine_leads, .ref a_t_machine_part, .ref a_t_machine_finer, .ref a_t_machine_keys, .ref a_t_machine_stateOfPart, .ref a_t_machine_pastOfState, .int (z4 t_machine_states), .ref a_t_machine_steps, .ref a_t_machine_away])), (a_t_machine_plan, .inr (4, [.int (z4 t_machine_plan_rules), .ref a_t_machine_plan_least, .ref a_t_machine_plan_of, .ref a_t_machine_plan_set, .ref a_t_machine_plan_chances, .int (z4 t_machine_plan_slack), .int (z4 t_machine_plan_limit)])), (a_t_machine_plan_least, .inl (E 0, 3, .inl (A4 t_machine_plan_least))), (a_t_sheet_plan_least, .inl (E 0, 3, .inl (A4 t_sheet_plan_least))), (a_t_machine_plan_of, .inl (E 0, 3, .inl (A4 t_machine_plan_of))), (a_t_sheet_plan_of, .inl (E 0, 3, .inl (A4 t_sheet_plan_of))), (a_t_machine_plan_set, .inl (E 0, 3, .inl (A4 t_machine_plan_set))), (a_t_sheet_plan_set, .inl (E 0, 3, .inl (A4 t_sheet_plan_set))), (a_t_sheet_plan_chances, .inl (E 0, 5, .inl (A4 t_sheet_plan_chances))), (a_t_machine_plan_chances, .inl (E 0, 5, .inl (A4 t_machine_plan_chances))), (a_t_machine_leads, .inl (E 0, 320, .inl (A4 t_machine_leads))), (a_t_machine_part, .inl (E 0, 64, .inl (A4 t_machine_part))), (a_t_machine_keys, .inl (E 0, 64, .inl (A4 t_machine_keys))), (a_t_machine_finer, .inl (E 0, 64, .inl (A4 t_machine_finer))), (a_t_machine_stateOfPart, .inl (E 0, 64, .inl (A4 t_machine_stateOfPart))), (a_t_machine_pastOfState, .inl (E 0, 64, .inl (A4 t_machine_pastOfState))), (a_t_machine_steps, .inl (E 0, 320, .inl (A4 t_machine_steps))), (a_t_machine_away, .inl (E 0, 64, .inl (A4 t_machine_away))), (a_t_walk, .inr (10, [.ref a_t_walk_met, .ref a_t_walk_past, .ref a_t_walk_up, .ref a_t_walk_down, .ref a_t_walk_signals])), (a_t_walk_past, .inl (E 0, 40, .inl (A4 t_walk_past))), (a_t_walk_up, .inl (E 0, 40, .inl (A4 t_walk_up))), (a_t_walk_down, .inl (E 0, 40, .inl (A4 t_walk_down))), (a_t_reader_text, .inr (9, [.ref a_t_reader_text_letters, .int (z4 t_reader_text_size), .int (z4 t_reader_text_place), .int (z4 t_reader_text_tokens), .ref a_t_reader_text_kinds, .ref a_t_reader_text_starts, .ref a_t_reader_text_values])), (a_t_history, .inr (0, [.ref a_t_history_sheets, .int (z4 t_history_next), .int (z4 t_history_size)]))] (some (.int (z4 res.1))) [(a_t, .inr (11, [.ref a_t_reader_text, .ref a_t_reader, .ref a_t_sheet, .ref a_t_history, .ref a_t_images, .ref a_t_kept, .ref a_t_walk, .ref a_t_machine, .ref a_t_outlook, .ref a_t_means, .ref a_t_singles])), (a_t_sheet, .inr (7, [.ref a_t_sheet_plan, .ref a_t_sheet_rows])), (a_t_sheet_rows, .inr (6, [.int (z4 t_sheet_rows_size), .ref a_t_sheet_rows_times, .ref a_t_sheet_rows_signs])), (a_t_sheet_plan, .inr (4, [.int (z4 t_sheet_plan_rules), .ref a_t_sheet_plan_least, .ref a_t_sheet_plan_of, .ref a_t_sheet_plan_set, .ref a_t_sheet_plan_chances, .int (z4 t_sheet_plan_slack), .int (z4 t_sheet_plan_limit)])), (a_t_machine, .inr (1, [.ref a_t_machine_plan, .int (z4 res.2.1), .ref a_t_machine_leads, .ref a_t_machine_part, .ref a_t_machine_finer, .ref a_t_machine_keys, .ref a_t_machine_stateOfPart, .ref a_t_machine_pastOfState, .int (z4 res.2.2.1), .ref a_t_machine_steps, .ref a_t_machine_away])), (a_t_machine_plan, .inr (4, [.int (z4 res.2.2.2.1), .ref a_t_machine_plan_least, .ref a_t_machine_plan_of, .ref a_t_machine_plan_set, .ref a_t_machine_plan_chances, .int (z4 res.2.2.2.2.1), .int (z4 res.2.2.2.2.2.1)])), (a_t_machine_plan_least, .inl (E 0, 3, .inl (A4 res.2.2.2.2.2.2.1))), (a_t_sheet_plan_least, .inl (E 0, 3, .inl (A4 t_sheet_plan_least))), (a_t_machine_plan_of, .inl (E 0, 3, .inl (A4 res.2.2.2.2.2.2.2.1))), (a_t_sheet_plan_of, .inl (E 0, 3, .inl (A4 t_sheet_plan_of))), (a_t_machine_plan_set, .inl (E 0, 3, .inl (A4 res.2.2.2.2.2.2.2.2.1))), (a_t_sheet_plan_set, .inl (E 0, 3, .inl (A4 t_sheet_plan_set))), (a_t_sheet_plan_chances, .inl (E 0, 5, .inl (A4 t_sheet_plan_chances))), (a_t_machine_plan_chances, .inl (E 0, 5, .inl (A4 res.2.2.2.2.2.2.2.2.2.1))), (a_t_machine_leads, .inl (E 0, 320, .inl (A4 res.2.2.2.2.2.2.2.2.2.2.1))), (a_t_machine_part, .inl (E 0, 64, .inl (A4 res.2.2.2.2.2.2.2.2.2.2.2.1))), (a_t_machine_keys, .inl (E 0, 64, .inl (A4 res.2.2.2.2.2.2.2.2.2.2.2.2.1))), (a_t_machine_finer, .inl (E 0, 64, .inl (A4 res.2.2.2.2.2.2.2.2.2.2.2.2.2.1))), (a_t_machine_stateOfPart, .inl (E 0, 64, .inl (A4 res.2.2.2.2.2.2.2.2.2.2.2.2.2.2.1))), (a_t_machine_pastOfState, .inl (E 0, 64, .inl (A4 res.2.2.2.2.2.2.2.2.2.2.2.2.2.2.2.1))), (a_t_machine_steps, .inl (E 0, 320, .inl (A4 res.2.2.2.2.2.2.2.2.2.2.2.2.2.2.2.2.1))), (a_t_machine_away, .inl (E 0, 64, .inl (A4 res.2.2.2.2.2.2.2.2.2.2.2.2.2.2.2.2.2))), (a_t_walk, .inr (10, [.ref a_t_walk_met, .ref a_t_walk_past, .ref a_t_walk_up, .ref a_t_walk_down, .ref a_t_walk_signals])), (a_t_walk_past, .inl (E 0, 40, .inl (A4 t_walk_past))), (a_t_walk_up, .inl (E 0, 40, .inl (A4 t_walk_up))), (a_t_walk_down, .inl (E 0, 40, .inl (A4 t_walk_down))), (a_t_reader_text, .inr (9, [.ref a_t_reader_text_letters, .int (z4 t_reader_text_size), .int (z4 t_reader_text_place), .int (z4 t_reader_text_tokens), .ref a_t_reader_text_kinds, .ref a_t_reader_text_starts, .ref a_t_reader_text_values])), (a_t_history, .inr (0, [.ref a_t_history_sheets, .int (z4 t_history_next), .int (z4 t_history_size)]))] := by
  refine MWi (by decide) (Nat.le_of_ble_eq_true rfl) ?_
  intro p e s m args below meth c A Q X hK hP hD hA ret ls hl
  have hS : va_S A s.heap s.heap [] := va_S.rf
  have hx := X.1
  have hb := X.2.1
  have hl : lv_has ls 3 [(0, .ref a_t), (1, .int (z4 x1))] := hl
  unfold F_X11_count at hf
  refine lv_aload_n hx hb dX11_count_0 rfl (lv_at hl 0 rfl) ?_
  refine m_get X hK hP cl_X11 iT_X11 2 (by decide) fl_X11_24 0 rfl rfl dX11_count_1 ?_
  refine m_get X hK hP cl_X7 iT_X7 1 (by decide) fl_X11_114 1 rfl rfl dX11_count_4 ?_
  refine m_get X hK hP cl_X6 iT_X6 0 (by decide) fl_X11_131 2 rfl rfl dX11_count_7 ?_
  refine m_iconst X dX11_count_10 ?_
  refine m_isub X dX11_count_11 ?_
  refine lv_istore_n (lv' := [(2, .int (z4 (t_sheet_rows_size - 1))), (0, .ref a_t), (1, .int (z4 x1))]) hx hb dX11_count_12 rfl hl (by decide) rfl (fun ls hl => ?_)
  refine lv_iload_n hx hb dX11_count_13 rfl (lv_at hl 2 rfl) ?_
  obtain ⟨h1, hf⟩ := ck_some hf
  by_cases hc0 : x1 = 0
  · rw [if_pos hc0] at hf
    refine m_swIn X h1 0 hc0 (by decide) dX11_count_14 rfl (tgt := 68) (by decide) ?_
    refine lv_aload_n hx hb dX11_count_68 rfl (lv_at hl 1 rfl) ?_
    refine m_get X hK hP cl_X11 iT_X11 2 (by decide) fl_X11_24 0 rfl rfl dX11_count_69 ?_
    refine m_get X hK hP cl_X7 iT_X7 0 (by decide) fl_X11_96 1 rfl rfl dX11_count_72 ?_
    refine m_get X hK hP cl_X4 iT_X4 0 (by decide) fl_X11_146 3 rfl rfl dX11_count_75 ?_
    obtain rfl := Option.some.inj hf
    exact ret _ _ _ _ hP hD hS dX11_count_78
  · rw [if_neg hc0] at hf
    by_cases hc1 : x1 = 1
    · rw [if_pos hc1] at hf
      refine m_swIn X h1 1 hc1 (by decide) dX11_count_14 rfl (tgt := 79) (by decide) ?_
      refine lv_aload_n hx hb dX11_count_79 rfl (lv_at hl 1 rfl) ?_
      refine m_get X hK hP cl_X11 iT_X11 2 (by decide) fl_X11_24 0 rfl rfl dX11_count_80 ?_
      refine m_get X hK hP cl_X7 iT_X7 1 (by decide) fl_X11_114 1 rfl rfl dX11_count_83 ?_
      refine m_get X hK hP cl_X6 iT_X6 0 (by decide) fl_X11_131 2 rfl rfl dX11_count_86 ?_
      obtain rfl := Option.some.inj hf
      exact ret _ _ _ _ hP hD hS dX11_count_89
    · rw [if_neg hc1] at hf
      by_cases hc2 : x1 = 2
      · rw [if_pos hc2] at hf
        refine m_swIn X h1 2 hc2 (by decide) dX11_count_14 rfl (tgt := 90) (by decide) ?_
        refine lv_aload_n hx hb dX11_count_90 rfl (lv_at hl 1 rfl) ?_
        obtain ⟨o2, ho, hf⟩ := bd_some hf
        refine m_cVW X hK hP hD hS hA (wr := [(a_t_sheet_rows, .inr (6, [.int (z4 t_sheet_rows_size), .ref a_t_sheet_rows_times, .ref a_t_sheet_rows_signs])), (a_t_walk, .inr (10, [.ref a_t_walk_met, .ref a_t_walk_past, .ref a_t_walk_up, .ref a_t_walk_down, .ref a_t_walk_signals])), (a_t_walk_past, .inl (E 0, 40, .inl (A4 t_walk_past))), (a_t_walk_up, .inl (E 0, 40, .inl (A4 t_walk_up))), (a_t_walk_down, .inl (E 0, 40, .inl (A4 t_walk_down))), (a_t_reader_text, .inr (9, [.ref a_t_reader_text_letters, .int (z4 t_reader_text_size), .int (z4 t_reader_text_place), .int (z4 t_reader_text_tokens), .ref a_t_reader_text_kinds, .ref a_t_reader_text_starts, .ref a_t_reader_text_values])), (a_t_history, .inr (0, [.ref a_t_history_sheets, .int (z4 t_history_next), .int (z4 t_history_size)]))]) (k_X11_fitted n a_t a_t_reader_text a_t_reader a_t_sheet a_t_history a_t_images a_t_kept a_t_walk a_t_machine a_t_outlook a_t_means a_t_singles a_t_sheet_plan a_t_sheet_rows a_t_machine_plan a_t_machine_leads a_t_machine_part a_t_machine_finer a_t_machine_keys a_t_machine_stateOfPart a_t_machine_pastOfState a_t_machine_steps a_t_machine_away a_t_machine_plan_least a_t_machine_plan_of a_t_machine_plan_set a_t_machine_plan_chances a_t_sheet_plan_least a_t_sheet_plan_of a_t_sheet_plan_set a_t_sheet_plan_chances t_machine_pasts t_machine_states t_machine_plan_rules t_machine_plan_slack t_machine_plan_limit t_sheet_plan_rules t_sheet_plan_slack t_sheet_plan_limit t_machine_plan_least t_sheet_plan_least t_machine_plan_of t_sheet_plan_of t_machine_plan_set t_sheet_plan_set t_sheet_plan_chances t_machine_plan_chances t_machine_leads t_machine_part t_machine_keys t_machine_finer t_machine_stateOfPart t_machine_pastOfState t_machine_steps t_machine_away o2 ho) [0, 1, 4, 5, 3, 6, 7, 8, 9, 10, 11, 12, 13, 14, 15, 16, 17, 18, 19, 20, 21] [2, 22, 23, 24, 25, 26, 27] [7, 8, 0, 11, 9, 10, 12, 13, 14, 15, 16, 17, 18, 19, 20, 21, 22, 23, 24, 25, 26, 27, 1, 2, 3, 4, 5, 6] [(a_t, .inr (11, [.ref a_t_reader_text, .ref a_t_reader, .ref a_t_sheet, .ref a_t_history, .ref a_t_images, .ref a_t_kept, .ref a_t_walk, .ref a_t_machine, .ref a_t_outlook, .ref a_t_means, .ref a_t_singles])), (a_t_sheet, .inr (7, [.ref a_t_sheet_plan, .ref a_t_sheet_rows])), (a_t_sheet_rows, .inr (6, [.int (z4 t_sheet_rows_size), .ref a_t_sheet_rows_times, .ref a_t_sheet_rows_signs])), (a_t_sheet_plan, .inr (4, [.int (z4 t_sheet_plan_rules), .ref a_t_sheet_plan_least, .ref a_t_sheet_plan_of, .ref a_t_sheet_plan_set, .ref a_t_sheet_plan_chances, .int (z4 t_sheet_plan_slack), .int (z4 t_sheet_plan_limit)])), (a_t_machine, .inr (1, [.ref a_t_machine_plan, .int (z4 o2.1), .ref a_t_machine_leads, .ref a_t_machine_part, .ref a_t_machine_finer, .ref a_t_machine_keys, .ref a_t_machine_stateOfPart, .ref a_t_machine_pastOfState, .int (z4 o2.2.1), .ref a_t_machine_steps, .ref a_t_machine_away])), (a_t_machine_plan, .inr (4, [.int (z4 o2.2.2.1), .ref a_t_machine_plan_least, .ref a_t_machine_plan_of, .ref a_t_machine_plan_set, .ref a_t_machine_plan_chances, .int (z4 o2.2.2.2.1), .int (z4 o2.2.2.2.2.1)])), (a_t_machine_plan_least, .inl (E 0, 3, .inl (A4 o2.2.2.2.2.2.1))), (a_t_sheet_plan_least, .inl (E 0, 3, .inl (A4 t_sheet_plan_least))), (a_t_machine_plan_of, .inl (E 0, 3, .inl (A4 o2.2.2.2.2.2.2.1))), (a_t_sheet_plan_of, .inl (E 0, 3, .inl (A4 t_sheet_plan_of))), (a_t_machine_plan_set, .inl (E 0, 3, .inl (A4 o2.2.2.2.2.2.2.2.1))), (a_t_sheet_plan_set, .inl (E 0, 3, .inl (A4 t_sheet_plan_set))), (a_t_sheet_plan_chances, .inl (E 0, 5, .inl (A4 t_sheet_plan_chances))), (a_t_machine_plan_chances, .inl (E 0, 5, .inl (A4 o2.2.2.2.2.2.2.2.2.1))), (a_t_machine_leads, .inl (E 0, 320, .inl (A4 o2.2.2.2.2.2.2.2.2.2.1))), (a_t_machine_part, .inl (E 0, 64, .inl (A4 o2.2.2.2.2.2.2.2.2.2.2.1))), (a_t_machine_keys, .inl (E 0, 64, .inl (A4 o2.2.2.2.2.2.2.2.2.2.2.2.1))), (a_t_machine_finer, .inl (E 0, 64, .inl (A4 o2.2.2.2.2.2.2.2.2.2.2.2.2.1))), (a_t_machine_stateOfPart, .inl (E 0, 64, .inl (A4 o2.2.2.2.2.2.2.2.2.2.2.2.2.2.1))), (a_t_machine_pastOfState, .inl (E 0, 64, .inl (A4 o2.2.2.2.2.2.2.2.2.2.2.2.2.2.2.1))), (a_t_machine_steps, .inl (E 0, 320, .inl (A4 o2.2.2.2.2.2.2.2.2.2.2.2.2.2.2.2.1))), (a_t_machine_away, .inl (E 0, 64, .inl (A4 o2.2.2.2.2.2.2.2.2.2.2.2.2.2.2.2.2))), (a_t_walk, .inr (10, [.ref a_t_walk_met, .ref a_t_walk_past, .ref a_t_walk_up, .ref a_t_walk_down, .ref a_t_walk_signals])), (a_t_walk_past, .inl (E 0, 40, .inl (A4 t_walk_past))), (a_t_walk_up, .inl (E 0, 40, .inl (A4 t_walk_up))), (a_t_walk_down, .inl (E 0, 40, .inl (A4 t_walk_down))), (a_t_reader_text, .inr (9, [.ref a_t_reader_text_letters, .int (z4 t_reader_text_size), .int (z4 t_reader_text_place), .int (z4 t_reader_text_tokens), .ref a_t_reader_text_kinds, .ref a_t_reader_text_starts, .ref a_t_reader_text_values])), (a_t_history, .inr (0, [.ref a_t_history_sheets, .int (z4 t_history_next), .int (z4 t_history_size)]))] rfl rfl rfl rfl (by decide) rfl rfl rfl cl_X11 lk_X11_164 co_X11_fitted dy_X11_fitted rfl rfl ⟨Nat.le_of_ble_eq_true rfl, Nat.le_of_ble_eq_true rfl⟩ hl.1 rfl (Nat.le_of_ble_eq_true rfl) dX11_count_91 (Nat.zero_le _) (Nat.zero_le _) (fun H locs hP hD hS => ?_)
        refine m_get X hK hP cl_X1 iT_X1 8 (by decide) fl_X11_187 4 rfl rfl dX11_count_94 ?_
        obtain rfl := Option.some.inj hf
        exact ret _ _ _ _ hP hD hS dX11_count_97
      · rw [if_neg hc2] at hf
        by_cases hc3 : x1 = 3
        · rw [if_pos hc3] at hf
          refine m_swIn X h1 3 hc3 (by decide) dX11_count_14 rfl (tgt := 98) (by decide) ?_
          refine lv_aload_n hx hb dX11_count_98 rfl (lv_at hl 1 rfl) ?_
          obtain ⟨o3, ho, hf⟩ := bd_some hf
          refine m_cVW X hK hP hD hS hA (wr := [(a_t_walk_up, .inl (E 0, 40, .inl (A4 t_walk_up))), (a_t_walk_down, .inl (E 0, 40, .inl (A4 t_walk_down))), (a_t_reader_text, .inr (9, [.ref a_t_reader_text_letters, .int (z4 t_reader_text_size), .int (z4 t_reader_text_place), .int (z4 t_reader_text_tokens), .ref a_t_reader_text_kinds, .ref a_t_reader_text_starts, .ref a_t_reader_text_values])), (a_t_history, .inr (0, [.ref a_t_history_sheets, .int (z4 t_history_next), .int (z4 t_history_size)]))]) (k_X11_stateNow n a_t a_t_reader_text a_t_reader a_t_sheet a_t_history a_t_images a_t_kept a_t_walk a_t_machine a_t_outlook a_t_means a_t_singles a_t_sheet_plan a_t_sheet_rows a_t_sheet_rows_times a_t_sheet_rows_signs a_t_walk_met a_t_walk_past a_t_walk_up a_t_walk_down a_t_walk_signals a_t_machine_plan a_t_machine_leads a_t_machine_part a_t_machine_finer a_t_machine_keys a_t_machine_stateOfPart a_t_machine_pastOfState a_t_machine_steps a_t_machine_away a_t_machine_plan_least a_t_machine_plan_of a_t_machine_plan_set a_t_machine_plan_chances a_t_sheet_plan_least a_t_sheet_plan_of a_t_sheet_plan_set a_t_sheet_plan_chances t_sheet_rows_size t_walk_past t_machine_pasts t_machine_states t_machine_plan_rules t_machine_plan_slack t_machine_plan_limit t_sheet_plan_rules t_sheet_plan_slack t_sheet_plan_limit t_machine_plan_least t_sheet_plan_least t_machine_plan_of t_sheet_plan_of t_machine_plan_set t_sheet_plan_set t_sheet_plan_chances t_machine_plan_chances t_machine_leads t_machine_part t_machine_keys t_machine_finer t_machine_stateOfPart t_machine_pastOfState t_machine_steps t_machine_away o3 ho) [0, 1, 2, 22, 23, 4, 5, 3, 6, 7, 8, 9, 10, 11, 12, 13, 14, 15, 16, 17, 18, 19, 20, 21] [24, 25, 26, 27] [4, 5, 6, 11, 9, 10, 12, 13, 14, 15, 16, 17, 18, 19, 20, 21, 22, 23, 24, 25, 26, 27, 7, 8, 0, 1, 2, 3] [(a_t, .inr (11, [.ref a_t_reader_text, .ref a_t_reader, .ref a_t_sheet, .ref a_t_history, .ref a_t_images, .ref a_t_kept, .ref a_t_walk, .ref a_t_machine, .ref a_t_outlook, .ref a_t_means, .ref a_t_singles])), (a_t_sheet, .inr (7, [.ref a_t_sheet_plan, .ref a_t_sheet_rows])), (a_t_sheet_rows, .inr (6, [.int (z4 t_sheet_rows_size), .ref a_t_sheet_rows_times, .ref a_t_sheet_rows_signs])), (a_t_sheet_plan, .inr (4, [.int (z4 t_sheet_plan_rules), .ref a_t_sheet_plan_least, .ref a_t_sheet_plan_of, .ref a_t_sheet_plan_set, .ref a_t_sheet_plan_chances, .int (z4 t_sheet_plan_slack), .int (z4 t_sheet_plan_limit)])), (a_t_machine, .inr (1, [.ref a_t_machine_plan, .int (z4 o3.2.1), .ref a_t_machine_leads, .ref a_t_machine_part, .ref a_t_machine_finer, .ref a_t_machine_keys, .ref a_t_machine_stateOfPart, .ref a_t_machine_pastOfState, .int (z4 o3.2.2.1), .ref a_t_machine_steps, .ref a_t_machine_away])), (a_t_machine_plan, .inr (4, [.int (z4 o3.2.2.2.1), .ref a_t_machine_plan_least, .ref a_t_machine_plan_of, .ref a_t_machine_plan_set, .ref a_t_machine_plan_chances, .int (z4 o3.2.2.2.2.1), .int (z4 o3.2.2.2.2.2.1)])), (a_t_machine_plan_least, .inl (E 0, 3, .inl (A4 o3.2.2.2.2.2.2.1))), (a_t_sheet_plan_least, .inl (E 0, 3, .inl (A4 t_sheet_plan_least))), (a_t_machine_plan_of, .inl (E 0, 3, .inl (A4 o3.2.2.2.2.2.2.2.1))), (a_t_sheet_plan_of, .inl (E 0, 3, .inl (A4 t_sheet_plan_of))), (a_t_machine_plan_set, .inl (E 0, 3, .inl (A4 o3.2.2.2.2.2.2.2.2.1))), (a_t_sheet_plan_set, .inl (E 0, 3, .inl (A4 t_sheet_plan_set))), (a_t_sheet_plan_chances, .inl (E 0, 5, .inl (A4 t_sheet_plan_chances))), (a_t_machine_plan_chances, .inl (E 0, 5, .inl (A4 o3.2.2.2.2.2.2.2.2.2.1))), (a_t_machine_leads, .inl (E 0, 320, .inl (A4 o3.2.2.2.2.2.2.2.2.2.2.1))), (a_t_machine_part, .inl (E 0, 64, .inl (A4 o3.2.2.2.2.2.2.2.2.2.2.2.1))), (a_t_machine_keys, .inl (E 0, 64, .inl (A4 o3.2.2.2.2.2.2.2.2.2.2.2.2.1))), (a_t_machine_finer, .inl (E 0, 64, .inl (A4 o3.2.2.2.2.2.2.2.2.2.2.2.2.2.1))), (a_t_machine_stateOfPart, .inl (E 0, 64, .inl (A4 o3.2.2.2.2.2.2.2.2.2.2.2.2.2.2.1))), (a_t_machine_pastOfState, .inl (E 0, 64, .inl (A4 o3.2.2.2.2.2.2.2.2.2.2.2.2.2.2.2.1))), (a_t_machine_steps, .inl (E 0, 320, .inl (A4 o3.2.2.2.2.2.2.2.2.2.2.2.2.2.2.2.2.1))), (a_t_machine_away, .inl (E 0, 64, .inl (A4 o3.2.2.2.2.2.2.2.2.2.2.2.2.2.2.2.2.2))), (a_t_walk, .inr (10, [.ref a_t_walk_met, .ref a_t_walk_past, .ref a_t_walk_up, .ref a_t_walk_down, .ref a_t_walk_signals])), (a_t_walk_past, .inl (E 0, 40, .inl (A4 t_walk_past))), (a_t_walk_up, .inl (E 0, 40, .inl (A4 t_walk_up))), (a_t_walk_down, .inl (E 0, 40, .inl (A4 t_walk_down))), (a_t_reader_text, .inr (9, [.ref a_t_reader_text_letters, .int (z4 t_reader_text_size), .int (z4 t_reader_text_place), .int (z4 t_reader_text_tokens), .ref a_t_reader_text_kinds, .ref a_t_reader_text_starts, .ref a_t_reader_text_values])), (a_t_history, .inr (0, [.ref a_t_history_sheets, .int (z4 t_history_next), .int (z4 t_history_size)]))] rfl rfl rfl rfl (by decide) rfl rfl rfl cl_X11 lk_X11_193 co_X11_stateNow dy_X11_stateNow rfl rfl ⟨Nat.le_of_ble_eq_true rfl, Nat.le_of_ble_eq_true rfl⟩ hl.1 rfl (Nat.le_of_ble_eq_true rfl) dX11_count_99 (Nat.zero_le _) (Nat.zero_le _) (fun H locs hP hD hS => ?_)
          obtain rfl := Option.some.inj hf
          exact ret _ _ _ _ hP hD hS dX11_count_102
        · rw [if_neg hc3] at hf
          by_cases hc4 : x1 = 4
          · rw [if_pos hc4] at hf
            refine m_swIn X h1 4 hc4 (by decide) dX11_count_14 rfl (tgt := 103) (by decide) ?_
            refine lv_aload_n hx hb dX11_count_103 rfl (lv_at hl 1 rfl) ?_
            refine m_get X hK hP cl_X11 iT_X11 2 (by decide) fl_X11_24 0 rfl rfl dX11_count_104 ?_
            refine m_get X hK hP cl_X7 iT_X7 0 (by decide) fl_X11_96 1 rfl rfl dX11_count_107 ?_
            refine m_get X hK hP cl_X4 iT_X4 5 (by decide) fl_X11_241 3 rfl rfl dX11_count_110 ?_
            obtain rfl := Option.some.inj hf
            exact ret _ _ _ _ hP hD hS dX11_count_113
          · rw [if_neg hc4] at hf
            by_cases hc5 : x1 = 5
            · rw [if_pos hc5] at hf
              refine m_swIn X h1 5 hc5 (by decide) dX11_count_14 rfl (tgt := 114) (by decide) ?_
              refine lv_aload_n hx hb dX11_count_114 rfl (lv_at hl 1 rfl) ?_
              refine m_get X hK hP cl_X11 iT_X11 2 (by decide) fl_X11_24 0 rfl rfl dX11_count_115 ?_
              refine m_get X hK hP cl_X7 iT_X7 0 (by decide) fl_X11_96 1 rfl rfl dX11_count_118 ?_
              refine m_get X hK hP cl_X4 iT_X4 6 (by decide) fl_X11_244 3 rfl rfl dX11_count_121 ?_
              obtain rfl := Option.some.inj hf
              exact ret _ _ _ _ hP hD hS dX11_count_124
            · rw [if_neg hc5] at hf
              by_cases hc6 : x1 = 6
              · rw [if_pos hc6] at hf
                refine m_swIn X h1 6 hc6 (by decide) dX11_count_14 rfl (tgt := 125) (by decide) ?_
                refine lv_aload_n hx hb dX11_count_125 rfl (lv_at hl 1 rfl) ?_
                refine lv_iload_n hx hb dX11_count_126 rfl (lv_at hl 0 rfl) ?_
                obtain ⟨o4, ho, hf⟩ := bd_some hf
                refine m_cVR X hK (k_X11_isRow n a_t a_t_reader_text a_t_reader a_t_sheet a_t_history a_t_images a_t_kept a_t_walk a_t_machine a_t_outlook a_t_means a_t_singles a_t_sheet_plan a_t_sheet_rows a_t_sheet_rows_times a_t_sheet_rows_signs t_sheet_rows_size (t_sheet_rows_size - 1) o4 ho) (hP.sub [0, 1, 2] rfl) rfl cl_X11 lk_X11_124 co_X11_isRow dy_X11_isRow rfl rfl ⟨Nat.le_of_ble_eq_true rfl, Nat.le_of_ble_eq_true rfl⟩ hl.1 rfl (Nat.le_of_ble_eq_true rfl) dX11_count_127 (Nat.zero_le _) (Nat.zero_le _) ?_
                obtain ⟨o5, hj5, hr5⟩ := bd_some hf
                have J5 : ∀ (o_ : Int), o5 = o_ → ∀ (H : Heap) (locs : List Loc) (ls : Array Slot), lv_has ls 3 [] → va_P D vwCl [(a_t, .inr (11, [.ref a_t_reader_text, .ref a_t_reader, .ref a_t_sheet, .ref a_t_history, .ref a_t_images, .ref a_t_kept, .ref a_t_walk, .ref a_t_machine, .ref a_t_outlook, .ref a_t_means, .ref a_t_singles])), (a_t_sheet, .inr (7, [.ref a_t_sheet_plan, .ref a_t_sheet_rows])), (a_t_sheet_rows, .inr (6, [.int (z4 t_sheet_rows_size), .ref a_t_sheet_rows_times, .ref a_t_sheet_rows_signs])), (a_t_sheet_plan, .inr (4, [.int (z4 t_sheet_plan_rules), .ref a_t_sheet_plan_least, .ref a_t_sheet_plan_of, .ref a_t_sheet_plan_set, .ref a_t_sheet_plan_chances, .int (z4 t_sheet_plan_slack), .int (z4 t_sheet_plan_limit)])), (a_t_machine, .inr (1, [.ref a_t_machine_plan, .int (z4 t_machine_pasts), .ref a_t_machine_leads, .ref a_t_machine_part, .ref a_t_machine_finer, .ref a_t_machine_keys, .ref a_t_machine_stateOfPart, .ref a_t_machine_pastOfState, .int (z4 t_machine_states), .ref a_t_machine_steps, .ref a_t_machine_away])), (a_t_machine_plan, .inr (4, [.int (z4 t_machine_plan_rules), .ref a_t_machine_plan_least, .ref a_t_machine_plan_of, .ref a_t_machine_plan_set, .ref a_t_machine_plan_chances, .int (z4 t_machine_plan_slack), .int (z4 t_machine_plan_limit)])), (a_t_machine_plan_least, .inl (E 0, 3, .inl (A4 t_machine_plan_least))), (a_t_sheet_plan_least, .inl (E 0, 3, .inl (A4 t_sheet_plan_least))), (a_t_machine_plan_of, .inl (E 0, 3, .inl (A4 t_machine_plan_of))), (a_t_sheet_plan_of, .inl (E 0, 3, .inl (A4 t_sheet_plan_of))), (a_t_machine_plan_set, .inl (E 0, 3, .inl (A4 t_machine_plan_set))), (a_t_sheet_plan_set, .inl (E 0, 3, .inl (A4 t_sheet_plan_set))), (a_t_sheet_plan_chances, .inl (E 0, 5, .inl (A4 t_sheet_plan_chances))), (a_t_machine_plan_chances, .inl (E 0, 5, .inl (A4 t_machine_plan_chances))), (a_t_machine_leads, .inl (E 0, 320, .inl (A4 t_machine_leads))), (a_t_machine_part, .inl (E 0, 64, .inl (A4 t_machine_part))), (a_t_machine_keys, .inl (E 0, 64, .inl (A4 t_machine_keys))), (a_t_machine_finer, .inl (E 0, 64, .inl (A4 t_machine_finer))), (a_t_machine_stateOfPart, .inl (E 0, 64, .inl (A4 t_machine_stateOfPart))), (a_t_machine_pastOfState, .inl (E 0, 64, .inl (A4 t_machine_pastOfState))), (a_t_machine_steps, .inl (E 0, 320, .inl (A4 t_machine_steps))), (a_t_machine_away, .inl (E 0, 64, .inl (A4 t_machine_away))), (a_t_walk, .inr (10, [.ref a_t_walk_met, .ref a_t_walk_past, .ref a_t_walk_up, .ref a_t_walk_down, .ref a_t_walk_signals])), (a_t_walk_past, .inl (E 0, 40, .inl (A4 t_walk_past))), (a_t_walk_up, .inl (E 0, 40, .inl (A4 t_walk_up))), (a_t_walk_down, .inl (E 0, 40, .inl (A4 t_walk_down))), (a_t_reader_text, .inr (9, [.ref a_t_reader_text_letters, .int (z4 t_reader_text_size), .int (z4 t_reader_text_place), .int (z4 t_reader_text_tokens), .ref a_t_reader_text_kinds, .ref a_t_reader_text_starts, .ref a_t_reader_text_values])), (a_t_history, .inr (0, [.ref a_t_history_sheets, .int (z4 t_history_next), .int (z4 t_history_size)]))] H → va_D A [(a_t, .inr (11, [.ref a_t_reader_text, .ref a_t_reader, .ref a_t_sheet, .ref a_t_history, .ref a_t_images, .ref a_t_kept, .ref a_t_walk, .ref a_t_machine, .ref a_t_outlook, .ref a_t_means, .ref a_t_singles])), (a_t_sheet, .inr (7, [.ref a_t_sheet_plan, .ref a_t_sheet_rows])), (a_t_sheet_rows, .inr (6, [.int (z4 t_sheet_rows_size), .ref a_t_sheet_rows_times, .ref a_t_sheet_rows_signs])), (a_t_sheet_plan, .inr (4, [.int (z4 t_sheet_plan_rules), .ref a_t_sheet_plan_least, .ref a_t_sheet_plan_of, .ref a_t_sheet_plan_set, .ref a_t_sheet_plan_chances, .int (z4 t_sheet_plan_slack), .int (z4 t_sheet_plan_limit)])), (a_t_machine, .inr (1, [.ref a_t_machine_plan, .int (z4 t_machine_pasts), .ref a_t_machine_leads, .ref a_t_machine_part, .ref a_t_machine_finer, .ref a_t_machine_keys, .ref a_t_machine_stateOfPart, .ref a_t_machine_pastOfState, .int (z4 t_machine_states), .ref a_t_machine_steps, .ref a_t_machine_away])), (a_t_machine_plan, .inr (4, [.int (z4 t_machine_plan_rules), .ref a_t_machine_plan_least, .ref a_t_machine_plan_of, .ref a_t_machine_plan_set, .ref a_t_machine_plan_chances, .int (z4 t_machine_plan_slack), .int (z4 t_machine_plan_limit)])), (a_t_machine_plan_least, .inl (E 0, 3, .inl (A4 t_machine_plan_least))), (a_t_sheet_plan_least, .inl (E 0, 3, .inl (A4 t_sheet_plan_least))), (a_t_machine_plan_of, .inl (E 0, 3, .inl (A4 t_machine_plan_of))), (a_t_sheet_plan_of, .inl (E 0, 3, .inl (A4 t_sheet_plan_of))), (a_t_machine_plan_set, .inl (E 0, 3, .inl (A4 t_machine_plan_set))), (a_t_sheet_plan_set, .inl (E 0, 3, .inl (A4 t_sheet_plan_set))), (a_t_sheet_plan_chances, .inl (E 0, 5, .inl (A4 t_sheet_plan_chances))), (a_t_machine_plan_chances, .inl (E 0, 5, .inl (A4 t_machine_plan_chances))), (a_t_machine_leads, .inl (E 0, 320, .inl (A4 t_machine_leads))), (a_t_machine_part, .inl (E 0, 64, .inl (A4 t_machine_part))), (a_t_machine_keys, .inl (E 0, 64, .inl (A4 t_machine_keys))), (a_t_machine_finer, .inl (E 0, 64, .inl (A4 t_machine_finer))), (a_t_machine_stateOfPart, .inl (E 0, 64, .inl (A4 t_machine_stateOfPart))), (a_t_machine_pastOfState, .inl (E 0, 64, .inl (A4 t_machine_pastOfState))), (a_t_machine_steps, .inl (E 0, 320, .inl (A4 t_machine_steps))), (a_t_machine_away, .inl (E 0, 64, .inl (A4 t_machine_away))), (a_t_walk, .inr (10, [.ref a_t_walk_met, .ref a_t_walk_past, .ref a_t_walk_up, .ref a_t_walk_down, .ref a_t_walk_signals])), (a_t_walk_past, .inl (E 0, 40, .inl (A4 t_walk_past))), (a_t_walk_up, .inl (E 0, 40, .inl (A4 t_walk_up))), (a_t_walk_down, .inl (E 0, 40, .inl (A4 t_walk_down))), (a_t_reader_text, .inr (9, [.ref a_t_reader_text_letters, .int (z4 t_reader_text_size), .int (z4 t_reader_text_place), .int (z4 t_reader_text_tokens), .ref a_t_reader_text_kinds, .ref a_t_reader_text_starts, .ref a_t_reader_text_values])), (a_t_history, .inr (0, [.ref a_t_history_sheets, .int (z4 t_history_next), .int (z4 t_history_size)]))] → va_S A s.heap H locs → W p l e rm_X11_count s m args below meth c H locs 0 0 Q (F0 m 146 ls [.int (z4 o_)]) := by
                  intro o_ ho_ H locs ls hl hP hD hS
                  subst ho_
                  obtain rfl := Option.some.inj hr5
                  exact ret _ _ _ _ hP hD hS dX11_count_146
                obtain ⟨h6, hj5⟩ := ck_some hj5
                refine m_if_eq X h6 dX11_count_130 (tgt := 145) (by decide) (fun (hc_ : o4 = 0) => ?_) (fun (hc_ : ¬ (o4 = 0)) => ?_)
                · rw [if_pos hc_] at hj5
                  refine m_iconst X dX11_count_145 ?_
                  exact J5 _ (Option.some.inj hj5).symm _ _ _ (lv_sub hl [] rfl) hP hD hS
                · rw [if_neg hc_] at hj5
                  refine lv_aload_n hx hb dX11_count_133 rfl (lv_at hl 1 rfl) ?_
                  refine m_get X hK hP cl_X11 iT_X11 6 (by decide) fl_X11_46 0 rfl rfl dX11_count_134 ?_
                  refine m_get X hK hP cl_X10 iT_X10 2 (by decide) fl_X11_174 22 rfl rfl dX11_count_137 ?_
                  refine lv_iload_n hx hb dX11_count_140 rfl (lv_at hl 0 rfl) ?_
                  obtain ⟨h7, hj5⟩ := ck_some hj5
                  refine m_iald X hK hP 24 rfl (by decide) h7 dX11_count_141 ?_
                  refine lv_goto (tgt := 146) hx hb dX11_count_142 (by decide) ?_
                  exact J5 _ (Option.some.inj hj5).symm _ _ _ (lv_sub hl [] rfl) hP hD hS
              · rw [if_neg hc6] at hf
                by_cases hc7 : x1 = 7
                · rw [if_pos hc7] at hf
                  refine m_swIn X h1 7 hc7 (by decide) dX11_count_14 rfl (tgt := 147) (by decide) ?_
                  refine lv_aload_n hx hb dX11_count_147 rfl (lv_at hl 1 rfl) ?_
                  refine lv_iload_n hx hb dX11_count_148 rfl (lv_at hl 0 rfl) ?_
                  obtain ⟨o8, ho, hf⟩ := bd_some hf
                  refine m_cVR X hK (k_X11_isRow n a_t a_t_reader_text a_t_reader a_t_sheet a_t_history a_t_images a_t_kept a_t_walk a_t_machine a_t_outlook a_t_means a_t_singles a_t_sheet_plan a_t_sheet_rows a_t_sheet_rows_times a_t_sheet_rows_signs t_sheet_rows_size (t_sheet_rows_size - 1) o8 ho) (hP.sub [0, 1, 2] rfl) rfl cl_X11 lk_X11_124 co_X11_isRow dy_X11_isRow rfl rfl ⟨Nat.le_of_ble_eq_true rfl, Nat.le_of_ble_eq_true rfl⟩ hl.1 rfl (Nat.le_of_ble_eq_true rfl) dX11_count_149 (Nat.zero_le _) (Nat.zero_le _) ?_
                  obtain ⟨o9, hj9, hr9⟩ := bd_some hf
                  have J9 : ∀ (o_ : Int), o9 = o_ → ∀ (H : Heap) (locs : List Loc) (ls : Array Slot), lv_has ls 3 [] → va_P D vwCl [(a_t, .inr (11, [.ref a_t_reader_text, .ref a_t_reader, .ref a_t_sheet, .ref a_t_history, .ref a_t_images, .ref a_t_kept, .ref a_t_walk, .ref a_t_machine, .ref a_t_outlook, .ref a_t_means, .ref a_t_singles])), (a_t_sheet, .inr (7, [.ref a_t_sheet_plan, .ref a_t_sheet_rows])), (a_t_sheet_rows, .inr (6, [.int (z4 t_sheet_rows_size), .ref a_t_sheet_rows_times, .ref a_t_sheet_rows_signs])), (a_t_sheet_plan, .inr (4, [.int (z4 t_sheet_plan_rules), .ref a_t_sheet_plan_least, .ref a_t_sheet_plan_of, .ref a_t_sheet_plan_set, .ref a_t_sheet_plan_chances, .int (z4 t_sheet_plan_slack), .int (z4 t_sheet_plan_limit)])), (a_t_machine, .inr (1, [.ref a_t_machine_plan, .int (z4 t_machine_pasts), .ref a_t_machine_leads, .ref a_t_machine_part, .ref a_t_machine_finer, .ref a_t_machine_keys, .ref a_t_machine_stateOfPart, .ref a_t_machine_pastOfState, .int (z4 t_machine_states), .ref a_t_machine_steps, .ref a_t_machine_away])), (a_t_machine_plan, .inr (4, [.int (z4 t_machine_plan_rules), .ref a_t_machine_plan_least, .ref a_t_machine_plan_of, .ref a_t_machine_plan_set, .ref a_t_machine_plan_chances, .int (z4 t_machine_plan_slack), .int (z4 t_machine_plan_limit)])), (a_t_machine_plan_least, .inl (E 0, 3, .inl (A4 t_machine_plan_least))), (a_t_sheet_plan_least, .inl (E 0, 3, .inl (A4 t_sheet_plan_least))), (a_t_machine_plan_of, .inl (E 0, 3, .inl (A4 t_machine_plan_of))), (a_t_sheet_plan_of, .inl (E 0, 3, .inl (A4 t_sheet_plan_of))), (a_t_machine_plan_set, .inl (E 0, 3, .inl (A4 t_machine_plan_set))), (a_t_sheet_plan_set, .inl (E 0, 3, .inl (A4 t_sheet_plan_set))), (a_t_sheet_plan_chances, .inl (E 0, 5, .inl (A4 t_sheet_plan_chances))), (a_t_machine_plan_chances, .inl (E 0, 5, .inl (A4 t_machine_plan_chances))), (a_t_machine_leads, .inl (E 0, 320, .inl (A4 t_machine_leads))), (a_t_machine_part, .inl (E 0, 64, .inl (A4 t_machine_part))), (a_t_machine_keys, .inl (E 0, 64, .inl (A4 t_machine_keys))), (a_t_machine_finer, .inl (E 0, 64, .inl (A4 t_machine_finer))), (a_t_machine_stateOfPart, .inl (E 0, 64, .inl (A4 t_machine_stateOfPart))), (a_t_machine_pastOfState, .inl (E 0, 64, .inl (A4 t_machine_pastOfState))), (a_t_machine_steps, .inl (E 0, 320, .inl (A4 t_machine_steps))), (a_t_machine_away, .inl (E 0, 64, .inl (A4 t_machine_away))), (a_t_walk, .inr (10, [.ref a_t_walk_met, .ref a_t_walk_past, .ref a_t_walk_up, .ref a_t_walk_down, .ref a_t_walk_signals])), (a_t_walk_past, .inl (E 0, 40, .inl (A4 t_walk_past))), (a_t_walk_up, .inl (E 0, 40, .inl (A4 t_walk_up))), (a_t_walk_down, .inl (E 0, 40, .inl (A4 t_walk_down))), (a_t_reader_text, .inr (9, [.ref a_t_reader_text_letters, .int (z4 t_reader_text_size), .int (z4 t_reader_text_place), .int (z4 t_reader_text_tokens), .ref a_t_reader_text_kinds, .ref a_t_reader_text_starts, .ref a_t_reader_text_values])), (a_t_history, .inr (0, [.ref a_t_history_sheets, .int (z4 t_history_next), .int (z4 t_history_size)]))] H → va_D A [(a_t, .inr (11, [.ref a_t_reader_text, .ref a_t_reader, .ref a_t_sheet, .ref a_t_history, .ref a_t_images, .ref a_t_kept, .ref a_t_walk, .ref a_t_machine, .ref a_t_outlook, .ref a_t_means, .ref a_t_singles])), (a_t_sheet, .inr (7, [.ref a_t_sheet_plan, .ref a_t_sheet_rows])), (a_t_sheet_rows, .inr (6, [.int (z4 t_sheet_rows_size), .ref a_t_sheet_rows_times, .ref a_t_sheet_rows_signs])), (a_t_sheet_plan, .inr (4, [.int (z4 t_sheet_plan_rules), .ref a_t_sheet_plan_least, .ref a_t_sheet_plan_of, .ref a_t_sheet_plan_set, .ref a_t_sheet_plan_chances, .int (z4 t_sheet_plan_slack), .int (z4 t_sheet_plan_limit)])), (a_t_machine, .inr (1, [.ref a_t_machine_plan, .int (z4 t_machine_pasts), .ref a_t_machine_leads, .ref a_t_machine_part, .ref a_t_machine_finer, .ref a_t_machine_keys, .ref a_t_machine_stateOfPart, .ref a_t_machine_pastOfState, .int (z4 t_machine_states), .ref a_t_machine_steps, .ref a_t_machine_away])), (a_t_machine_plan, .inr (4, [.int (z4 t_machine_plan_rules), .ref a_t_machine_plan_least, .ref a_t_machine_plan_of, .ref a_t_machine_plan_set, .ref a_t_machine_plan_chances, .int (z4 t_machine_plan_slack), .int (z4 t_machine_plan_limit)])), (a_t_machine_plan_least, .inl (E 0, 3, .inl (A4 t_machine_plan_least))), (a_t_sheet_plan_least, .inl (E 0, 3, .inl (A4 t_sheet_plan_least))), (a_t_machine_plan_of, .inl (E 0, 3, .inl (A4 t_machine_plan_of))), (a_t_sheet_plan_of, .inl (E 0, 3, .inl (A4 t_sheet_plan_of))), (a_t_machine_plan_set, .inl (E 0, 3, .inl (A4 t_machine_plan_set))), (a_t_sheet_plan_set, .inl (E 0, 3, .inl (A4 t_sheet_plan_set))), (a_t_sheet_plan_chances, .inl (E 0, 5, .inl (A4 t_sheet_plan_chances))), (a_t_machine_plan_chances, .inl (E 0, 5, .inl (A4 t_machine_plan_chances))), (a_t_machine_leads, .inl (E 0, 320, .inl (A4 t_machine_leads))), (a_t_machine_part, .inl (E 0, 64, .inl (A4 t_machine_part))), (a_t_machine_keys, .inl (E 0, 64, .inl (A4 t_machine_keys))), (a_t_machine_finer, .inl (E 0, 64, .inl (A4 t_machine_finer))), (a_t_machine_stateOfPart, .inl (E 0, 64, .inl (A4 t_machine_stateOfPart))), (a_t_machine_pastOfState, .inl (E 0, 64, .inl (A4 t_machine_pastOfState))), (a_t_machine_steps, .inl (E 0, 320, .inl (A4 t_machine_steps))), (a_t_machine_away, .inl (E 0, 64, .inl (A4 t_machine_away))), (a_t_walk, .inr (10, [.ref a_t_walk_met, .ref a_t_walk_past, .ref a_t_walk_up, .ref a_t_walk_down, .ref a_t_walk_signals])), (a_t_walk_past, .inl (E 0, 40, .inl (A4 t_walk_past))), (a_t_walk_up, .inl (E 0, 40, .inl (A4 t_walk_up))), (a_t_walk_down, .inl (E 0, 40, .inl (A4 t_walk_down))), (a_t_reader_text, .inr (9, [.ref a_t_reader_text_letters, .int (z4 t_reader_text_size), .int (z4 t_reader_text_place), .int (z4 t_reader_text_tokens), .ref a_t_reader_text_kinds, .ref a_t_reader_text_starts, .ref a_t_reader_text_values])), (a_t_history, .inr (0, [.ref a_t_history_sheets, .int (z4 t_history_next), .int (z4 t_history_size)]))] → va_S A s.heap H locs → W p l e rm_X11_count s m args below meth c H locs 0 0 Q (F0 m 168 ls [.int (z4 o_)]) := by
                    intro o_ ho_ H locs ls hl hP hD hS
                    subst ho_
                    obtain rfl := Option.some.inj hr9
                    exact ret _ _ _ _ hP hD hS dX11_count_168
                  obtain ⟨h10, hj9⟩ := ck_some hj9
                  refine m_if_eq X h10 dX11_count_152 (tgt := 167) (by decide) (fun (hc_ : o8 = 0) => ?_) (fun (hc_ : ¬ (o8 = 0)) => ?_)
                  · rw [if_pos hc_] at hj9
                    refine m_iconst X dX11_count_167 ?_
                    exact J9 _ (Option.some.inj hj9).symm _ _ _ (lv_sub hl [] rfl) hP hD hS
                  · rw [if_neg hc_] at hj9
                    refine lv_aload_n hx hb dX11_count_155 rfl (lv_at hl 1 rfl) ?_
                    refine m_get X hK hP cl_X11 iT_X11 6 (by decide) fl_X11_46 0 rfl rfl dX11_count_156 ?_
                    refine m_get X hK hP cl_X10 iT_X10 3 (by decide) fl_X11_177 22 rfl rfl dX11_count_159 ?_
                    refine lv_iload_n hx hb dX11_count_162 rfl (lv_at hl 0 rfl) ?_
                    obtain ⟨h11, hj9⟩ := ck_some hj9
                    refine m_iald X hK hP 25 rfl (by decide) h11 dX11_count_163 ?_
                    refine lv_goto (tgt := 168) hx hb dX11_count_164 (by decide) ?_
                    exact J9 _ (Option.some.inj hj9).symm _ _ _ (lv_sub hl [] rfl) hP hD hS
                · rw [if_neg hc7] at hf
                  by_cases hc8 : x1 = 8
                  · rw [if_pos hc8] at hf
                    refine m_swIn X h1 8 hc8 (by decide) dX11_count_14 rfl (tgt := 169) (by decide) ?_
                    refine lv_aload_n hx hb dX11_count_169 rfl (lv_at hl 1 rfl) ?_
                    refine m_get X hK hP cl_X11 iT_X11 0 (by decide) fl_X11_20 0 rfl rfl dX11_count_170 ?_
                    refine m_get X hK hP cl_X9 iT_X9 1 (by decide) fl_X11_78 26 rfl rfl dX11_count_173 ?_
                    obtain rfl := Option.some.inj hf
                    exact ret _ _ _ _ hP hD hS dX11_count_176
                  · rw [if_neg hc8] at hf
                    by_cases hc9 : x1 = 9
                    · rw [if_pos hc9] at hf
                      refine m_swIn X h1 9 hc9 (by decide) dX11_count_14 rfl (tgt := 177) (by decide) ?_
                      refine lv_aload_n hx hb dX11_count_177 rfl (lv_at hl 1 rfl) ?_
                      refine m_get X hK hP cl_X11 iT_X11 3 (by decide) fl_X11_31 0 rfl rfl dX11_count_178 ?_
                      refine m_get X hK hP cl_X0 iT_X0 2 (by decide) fl_X11_142 27 rfl rfl dX11_count_181 ?_
                      obtain rfl := Option.some.inj hf
                      exact ret _ _ _ _ hP hD hS dX11_count_184
                    · rw [if_neg hc9] at hf
                      refine m_swOut X h1 (by omega) dX11_count_14 (tgt := 185) (by decide) ?_
                      refine m_iconst X dX11_count_185 ?_
                      obtain rfl := Option.some.inj hf
                      exact ret _ _ _ _ hP hD hS dX11_count_186
