def F_X4_pastWidth_L4 (n : Nat) (t_rules : Int) (t_of : Nat → Int) (v4_1 : Int) (v4_2 : Int) : Option ((Int × Int) ⊕ (Int)) :=
  ck (r4 v4_2 ∧ r4 t_rules) <|
  if v4_2 < t_rules then
    ck (r4 v4_2) <|
    if v4_2 < 3 then
      ck (ix_ v4_2 3) <|
      some (.inl (v4_1 + ((t_of (v4_2).toNat) - 1), v4_2 + 1))
    else
      some (.inr v4_1)
  else
    some (.inr v4_1)
def F_X4_pastWidth (n : Nat)  (t_rules : Int) (t_of : Nat → Int)  : Option (Int) :=
  (lp_ (fun (q : Int × Int) => F_X4_pastWidth_L4 n t_rules t_of q.1 q.2) n (0, 0)).bind fun o1 =>
  some o1
def rm_X4_pastWidth : Room := { frames := 0, cells := 0, slots := 0, locals := 0 }
set_option maxHeartbeats 4000000 in
set_option maxRecDepth 100000 in
theorem k_X4_pastWidth {l : Launch} {D : va_G} {E : Nat → ClassId} (n : Nat) (a_t a_t_least a_t_of a_t_set a_t_chances : Nat) (t_rules : Int) (t_slack : Int) (t_limit : Int) (t_of : Nat → Int) (res : Int) (hf : F_X4_pastWidth n t_rules t_of = some res) : MR l yX4_pastWidth (.code yX4_pastWidth cX4_pastWidth 3 (some .int)) rm_X4_pastWidth D E [.ref a_t] [(a_t, .inr (4, [.int (z4 t_rules), .ref a_t_least, .ref a_t_of, .ref a_t_set, .ref a_t_chances, .int (z4 t_slack), .int (z4 t_limit)])), (a_t_of, .inl (E 0, 3, .inl (A4 t_of)))] (some (.int (z4 res))) := by
  refine MRi (by decide) (Nat.le_of_ble_eq_true rfl) ?_
  intro p e s m args below meth c Q X hK hP ret ls hl
  have hx := X.1
  have hb := X.2.1
  have hl : lv_has ls 3 [(0, .ref a_t)] := hl
  unfold F_X4_pastWidth at hf
  refine m_iconst X dX4_pastWidth_0 ?_
  refine lv_istore_n (lv' := [(1, .int (z4 0)), (0, .ref a_t)]) hx hb dX4_pastWidth_1 rfl hl (by decide) rfl (fun ls hl => ?_)
  refine m_iconst X dX4_pastWidth_2 ?_
  refine lv_istore_n (lv' := [(2, .int (z4 0)), (1, .int (z4 0)), (0, .ref a_t)]) hx hb dX4_pastWidth_3 rfl hl (by decide) rfl (fun ls hl => ?_)
  obtain ⟨o1, hj1, hr1⟩ := bd_some hf
  have E1_0 : ∀ (o_ : Int), o1 = o_ → ∀ (ls : Array Slot), lv_has ls 3 [(1, .int (z4 o_))] → W p l e rm_X4_pastWidth s m args below meth c s.heap [] 0 0 Q (F0 m 34 ls []) := by
    intro o_ ho_ ls hl 
    subst ho_
    refine lv_iload_n hx hb dX4_pastWidth_34 rfl (lv_at hl 0 rfl) ?_
    obtain rfl := Option.some.inj hr1
    exact ret _ _ dX4_pastWidth_35
  have L1 : ∀ (k_ : Nat) (v4_1 : Int) (v4_2 : Int), ∀ (ls : Array Slot), lv_has ls 3 [(0, .ref a_t), (1, .int (z4 v4_1)), (2, .int (z4 v4_2))] → lp_ (fun (q : Int × Int) => F_X4_pastWidth_L4 n t_rules t_of q.1 q.2) k_ (v4_1, v4_2) = some o1 → W p l e rm_X4_pastWidth s m args below meth c s.heap [] 0 0 Q (F0 m 4 ls []) := by
    intro k_
    induction k_ with
    | zero =>
      intro v4_1 v4_2 ls hl  hq_; exact (lp_zero hq_).elim
    | succ k_ ih1 =>
      intro v4_1 v4_2 ls hl  hq_
      obtain ⟨t_1, hb1, hq1⟩ := lp_some hq_
      replace hb1 : F_X4_pastWidth_L4 n t_rules t_of v4_1 v4_2 = some t_1 := hb1
      unfold F_X4_pastWidth_L4 at hb1
      refine lv_iload_n hx hb dX4_pastWidth_4 rfl (lv_at hl 2 rfl) ?_
      refine lv_aload_n hx hb dX4_pastWidth_5 rfl (lv_at hl 0 rfl) ?_
      refine m_get X hK hP cl_X4 iT_X4 0 (by decide) fl_X4_27 0 rfl rfl dX4_pastWidth_6 ?_
      obtain ⟨h2, hb1⟩ := ck_some hb1
      refine m_icmp_ge X h2 dX4_pastWidth_9 (tgt := 34) (by decide) (fun (hc_ : ¬ (v4_2 < t_rules)) => ?_) (fun (hc_ : v4_2 < t_rules) => ?_)
      · rw [if_neg hc_] at hb1
        obtain rfl := Option.some.inj hb1
        exact E1_0 _ (Option.some.inj hq1).symm _ (lv_sub hl [1] rfl) 
      · rw [if_pos hc_] at hb1
        refine lv_iload_n hx hb dX4_pastWidth_12 rfl (lv_at hl 2 rfl) ?_
        refine m_iconst X dX4_pastWidth_13 ?_
        obtain ⟨h3, hb1⟩ := ck_some hb1
        refine m_icmp_ge X ⟨h3, ⟨by decide, by decide⟩⟩ dX4_pastWidth_14 (tgt := 34) (by decide) (fun (hc_ : ¬ (v4_2 < 3)) => ?_) (fun (hc_ : v4_2 < 3) => ?_)
        · rw [if_neg hc_] at hb1
          obtain rfl := Option.some.inj hb1
          exact E1_0 _ (Option.some.inj hq1).symm _ (lv_sub hl [1] rfl) 
        · rw [if_pos hc_] at hb1
          refine lv_iload_n hx hb dX4_pastWidth_17 rfl (lv_at hl 1 rfl) ?_
          refine lv_aload_n hx hb dX4_pastWidth_18 rfl (lv_at hl 0 rfl) ?_
          refine m_get X hK hP cl_X4 iT_X4 2 (by decide) fl_X4_15 0 rfl rfl dX4_pastWidth_19 ?_
          refine lv_iload_n hx hb dX4_pastWidth_22 rfl (lv_at hl 2 rfl) ?_
          obtain ⟨h4, hb1⟩ := ck_some hb1
          refine m_iald X hK hP 1 rfl (by decide) h4 dX4_pastWidth_23 ?_
          refine m_iconst X dX4_pastWidth_24 ?_
          refine m_isub X dX4_pastWidth_25 ?_
          refine m_iadd X dX4_pastWidth_26 ?_
          refine lv_istore_n (lv' := [(1, .int (z4 (v4_1 + ((t_of (v4_2).toNat) - 1)))), (0, .ref a_t), (2, .int (z4 v4_2))]) hx hb dX4_pastWidth_27 rfl hl (by decide) rfl (fun ls hl => ?_)
          refine m_iinc X 2 [(2, .int (z4 (v4_2 + 1))), (1, .int (z4 (v4_1 + ((t_of (v4_2).toNat) - 1)))), (0, .ref a_t)] dX4_pastWidth_28 hl rfl (by decide) rfl (fun ls hl => ?_)
          refine lv_goto (tgt := 4) hx hb dX4_pastWidth_31 (by decide) ?_
          obtain rfl := Option.some.inj hb1
          exact ih1 _ _ _ (lv_sub hl [2, 1, 0] rfl)  hq1
  exact L1 n _ _ _ (lv_sub hl [2, 1, 0] rfl)  hj1
def F_X4_addRule (n : Nat)  (t_rules : Int) (t_least : Nat → Int) (t_of : Nat → Int) (t_set : Nat → Int) (x1 : Int) (x2 : Int) (x3 : Int) : Option (Int × (Nat → Int) × (Nat → Int) × (Nat → Int)) :=
  Option.bind (α := Int × (Nat → Int) × (Nat → Int) × (Nat → Int)) (
    ck (r4 t_rules) <|
    if t_rules < 3 then
      ck (ix_ t_rules 3) <|
      ck (ix_ t_rules 3) <|
      ck (ix_ t_rules 3) <|
      some (t_rules + 1, up_ t_least (t_rules).toNat x1, up_ t_of (t_rules).toNat x2, up_ t_set (t_rules).toNat x3)
    else
      some (t_rules, t_least, t_of, t_set)) fun o1 =>
  some (o1.1, o1.2.1, o1.2.2.1, o1.2.2.2)
def rm_X4_addRule : Room := { frames := 0, cells := 0, slots := 0, locals := 0 }
set_option maxHeartbeats 4000000 in
set_option maxRecDepth 100000 in
theorem k_X4_addRule {l : Launch} {D : va_G} {E : Nat → ClassId} (n : Nat) (a_t a_t_least a_t_of a_t_set a_t_chances : Nat) (t_rules : Int) (t_slack : Int) (t_limit : Int) (t_least : Nat → Int) (t_of : Nat → Int) (t_set : Nat → Int) (x1 : Int) (x2 : Int) (x3 : Int) (res : Int × (Nat → Int) × (Nat → Int) × (Nat → Int)) (hf : F_X4_addRule n t_rules t_least t_of t_set x1 x2 x3 = some res) : MW l yX4_addRule (.code yX4_addRule cX4_addRule 4 none) rm_X4_addRule D E [.ref a_t, .int (z4 x1), .int (z4 x2), .int (z4 x3)] [(a_t, .inr (4, [.int (z4 t_rules), .ref a_t_least, .ref a_t_of, .ref a_t_set, .ref a_t_chances, .int (z4 t_slack), .int (z4 t_limit)])), (a_t_least, .inl (E 0, 3, .inl (A4 t_least))), (a_t_of, .inl (E 0, 3, .inl (A4 t_of))), (a_t_set, .inl (E 0, 3, .inl (A4 t_set)))] none [(a_t, .inr (4, [.int (z4 res.1), .ref a_t_least, .ref a_t_of, .ref a_t_set, .ref a_t_chances, .int (z4 t_slack), .int (z4 t_limit)])), (a_t_least, .inl (E 0, 3, .inl (A4 res.2.1))), (a_t_of, .inl (E 0, 3, .inl (A4 res.2.2.1))), (a_t_set, .inl (E 0, 3, .inl (A4 res.2.2.2)))] := by
  refine MWv (by decide) (Nat.le_of_ble_eq_true rfl) ?_
  intro p e s m args below meth c A Q X hK hP hD hA ret ls hl
  have hS : va_S A s.heap s.heap [] := va_S.rf
  have hx := X.1
  have hb := X.2.1
  have hl : lv_has ls 4 [(0, .ref a_t), (1, .int (z4 x1)), (2, .int (z4 x2)), (3, .int (z4 x3))] := hl
  unfold F_X4_addRule at hf
  refine lv_aload_n hx hb dX4_addRule_0 rfl (lv_at hl 0 rfl) ?_
  refine m_get X hK hP cl_X4 iT_X4 0 (by decide) fl_X4_27 0 rfl rfl dX4_addRule_1 ?_
  refine m_iconst X dX4_addRule_4 ?_
  obtain ⟨o1, hj1, hr1⟩ := bd_some hf
  have J1 : ∀ (o_ : Int × (Nat → Int) × (Nat → Int) × (Nat → Int)), o1 = o_ → ∀ (H : Heap) (locs : List Loc) (ls : Array Slot), lv_has ls 4 [] → va_P D vwCl [(a_t, .inr (4, [.int (z4 o_.1), .ref a_t_least, .ref a_t_of, .ref a_t_set, .ref a_t_chances, .int (z4 t_slack), .int (z4 t_limit)])), (a_t_least, .inl (E 0, 3, .inl (A4 o_.2.1))), (a_t_of, .inl (E 0, 3, .inl (A4 o_.2.2.1))), (a_t_set, .inl (E 0, 3, .inl (A4 o_.2.2.2)))] H → va_D A [(a_t, .inr (4, [.int (z4 o_.1), .ref a_t_least, .ref a_t_of, .ref a_t_set, .ref a_t_chances, .int (z4 t_slack), .int (z4 t_limit)])), (a_t_least, .inl (E 0, 3, .inl (A4 o_.2.1))), (a_t_of, .inl (E 0, 3, .inl (A4 o_.2.2.1))), (a_t_set, .inl (E 0, 3, .inl (A4 o_.2.2.2)))] → va_S A s.heap H locs → W p l e rm_X4_addRule s m args below meth c H locs 0 0 Q (F0 m 48 ls []) := by
    intro o_ ho_ H locs ls hl hP hD hS
    subst ho_
    obtain rfl := Option.some.inj hr1
    exact ret _ _ _ _ hP hD hS dX4_addRule_48
  obtain ⟨h2, hj1⟩ := ck_some hj1
  refine m_icmp_ge X ⟨h2, ⟨by decide, by decide⟩⟩ dX4_addRule_5 (tgt := 48) (by decide) (fun (hc_ : ¬ (t_rules < 3)) => ?_) (fun (hc_ : t_rules < 3) => ?_)
  · rw [if_neg hc_] at hj1
    exact J1 _ (Option.some.inj hj1).symm _ _ _ (lv_sub hl [] rfl) hP hD hS
  · rw [if_pos hc_] at hj1
    refine lv_aload_n hx hb dX4_addRule_8 rfl (lv_at hl 0 rfl) ?_
    refine m_get X hK hP cl_X4 iT_X4 1 (by decide) fl_X4_9 0 rfl rfl dX4_addRule_9 ?_
    refine lv_aload_n hx hb dX4_addRule_12 rfl (lv_at hl 0 rfl) ?_
    refine m_get X hK hP cl_X4 iT_X4 0 (by decide) fl_X4_27 0 rfl rfl dX4_addRule_13 ?_
    refine lv_iload_n hx hb dX4_addRule_16 rfl (lv_at hl 1 rfl) ?_
    obtain ⟨h3, hj1⟩ := ck_some hj1
    refine m_iast X hK hP hD hS 1 rfl (by decide) h3 [(a_t, .inr (4, [.int (z4 t_rules), .ref a_t_least, .ref a_t_of, .ref a_t_set, .ref a_t_chances, .int (z4 t_slack), .int (z4 t_limit)])), (a_t_least, .inl (E 0, 3, .inl (A4 (up_ t_least (t_rules).toNat x1)))), (a_t_of, .inl (E 0, 3, .inl (A4 t_of))), (a_t_set, .inl (E 0, 3, .inl (A4 t_set)))] rfl dX4_addRule_17 (fun H locs hP hD hS => ?_)
    refine lv_aload_n hx hb dX4_addRule_18 rfl (lv_at hl 0 rfl) ?_
    refine m_get X hK hP cl_X4 iT_X4 2 (by decide) fl_X4_15 0 rfl rfl dX4_addRule_19 ?_
    refine lv_aload_n hx hb dX4_addRule_22 rfl (lv_at hl 0 rfl) ?_
    refine m_get X hK hP cl_X4 iT_X4 0 (by decide) fl_X4_27 0 rfl rfl dX4_addRule_23 ?_
    refine lv_iload_n hx hb dX4_addRule_26 rfl (lv_at hl 2 rfl) ?_
    obtain ⟨h4, hj1⟩ := ck_some hj1
    refine m_iast X hK hP hD hS 2 rfl (by decide) h4 [(a_t, .inr (4, [.int (z4 t_rules), .ref a_t_least, .ref a_t_of, .ref a_t_set, .ref a_t_chances, .int (z4 t_slack), .int (z4 t_limit)])), (a_t_least, .inl (E 0, 3, .inl (A4 (up_ t_least (t_rules).toNat x1)))), (a_t_of, .inl (E 0, 3, .inl (A4 (up_ t_of (t_rules).toNat x2)))), (a_t_set, .inl (E 0, 3, .inl (A4 t_set)))] rfl dX4_addRule_27 (fun H locs hP hD hS => ?_)
    refine lv_aload_n hx hb dX4_addRule_28 rfl (lv_at hl 0 rfl) ?_
    refine m_get X hK hP cl_X4 iT_X4 3 (by decide) fl_X4_18 0 rfl rfl dX4_addRule_29 ?_
    refine lv_aload_n hx hb dX4_addRule_32 rfl (lv_at hl 0 rfl) ?_
    refine m_get X hK hP cl_X4 iT_X4 0 (by decide) fl_X4_27 0 rfl rfl dX4_addRule_33 ?_
    refine lv_iload_n hx hb dX4_addRule_36 rfl (lv_at hl 3 rfl) ?_
    obtain ⟨h5, hj1⟩ := ck_some hj1
    refine m_iast X hK hP hD hS 3 rfl (by decide) h5 [(a_t, .inr (4, [.int (z4 t_rules), .ref a_t_least, .ref a_t_of, .ref a_t_set, .ref a_t_chances, .int (z4 t_slack), .int (z4 t_limit)])), (a_t_least, .inl (E 0, 3, .inl (A4 (up_ t_least (t_rules).toNat x1)))), (a_t_of, .inl (E 0, 3, .inl (A4 (up_ t_of (t_rules).toNat x2)))), (a_t_set, .inl (E 0, 3, .inl (A4 (up_ t_set (t_rules).toNat x3))))] rfl dX4_addRule_37 (fun H locs hP hD hS => ?_)
    refine lv_aload_n hx hb dX4_addRule_38 rfl (lv_at hl 0 rfl) ?_
    refine lv_dup hx hb dX4_addRule_39 rfl ?_
    refine m_get X hK hP cl_X4 iT_X4 0 (by decide) fl_X4_27 0 rfl rfl dX4_addRule_40 ?_
    refine m_iconst X dX4_addRule_43 ?_
    refine m_iadd X dX4_addRule_44 ?_
    refine m_put X hK hP hD hS cl_X4 iT_X4 tyX4 tyX4_ok nmX4 0 (by decide) fl_X4_27 rfl 0 rfl rfl rfl (Nat.le_of_ble_eq_true rfl) [(a_t, .inr (4, [.int (z4 (t_rules + 1)), .ref a_t_least, .ref a_t_of, .ref a_t_set, .ref a_t_chances, .int (z4 t_slack), .int (z4 t_limit)])), (a_t_least, .inl (E 0, 3, .inl (A4 (up_ t_least (t_rules).toNat x1)))), (a_t_of, .inl (E 0, 3, .inl (A4 (up_ t_of (t_rules).toNat x2)))), (a_t_set, .inl (E 0, 3, .inl (A4 (up_ t_set (t_rules).toNat x3))))] rfl dX4_addRule_45 (fun H locs hP hD hS => ?_)
    exact J1 _ (Option.some.inj hj1).symm _ _ _ (lv_sub hl [] rfl) hP hD hS
def F_X4_hasRulesOf_L15 (n : Nat) (t_rules : Int) (t_least : Nat → Int) (p1_least : Nat → Int) (t_of : Nat → Int) (p1_of : Nat → Int) (t_set : Nat → Int) (p1_set : Nat → Int) (v15_2 : Int) : Option ((Int) ⊕ ((Unit) ⊕ (Unit))) :=
  ck (r4 v15_2 ∧ r4 t_rules) <|
  if v15_2 < t_rules then
    ck (r4 v15_2) <|
    if v15_2 < 3 then
      ck (ix_ v15_2 3) <|
      ck (ix_ v15_2 3) <|
      ck (r4 (t_least (v15_2).toNat) ∧ r4 (p1_least (v15_2).toNat)) <|
      if t_least (v15_2).toNat = p1_least (v15_2).toNat then
        ck (ix_ v15_2 3) <|
        ck (ix_ v15_2 3) <|
        ck (r4 (t_of (v15_2).toNat) ∧ r4 (p1_of (v15_2).toNat)) <|
        if t_of (v15_2).toNat = p1_of (v15_2).toNat then
          ck (ix_ v15_2 3) <|
          ck (ix_ v15_2 3) <|
          ck (r4 (t_set (v15_2).toNat) ∧ r4 (p1_set (v15_2).toNat)) <|
          if t_set (v15_2).toNat = p1_set (v15_2).toNat then
            some (.inl (v15_2 + 1))
          else
            some (.inr (.inr ()))
        else
          some (.inr (.inr ()))
      else
        some (.inr (.inr ()))
    else
      some (.inr (.inl ()))
  else
    some (.inr (.inl ()))
def F_X4_hasRulesOf (n : Nat)  (t_rules : Int) (p1_rules : Int) (t_least : Nat → Int) (p1_least : Nat → Int) (t_of : Nat → Int) (p1_of : Nat → Int) (t_set : Nat → Int) (p1_set : Nat → Int)  : Option (Int) :=
  ck (r4 t_rules ∧ r4 p1_rules) <|
  if t_rules = p1_rules then
    (lp_ (fun (q : Int) => F_X4_hasRulesOf_L15 n t_rules t_least p1_least t_of p1_of t_set p1_set q) n 0).bind fun o2 => match o2 with
    | .inl o2_0 =>
      some 1
    | .inr o2_1 =>
      some 0
  else
    some 0
def rm_X4_hasRulesOf : Room := { frames := 0, cells := 0, slots := 0, locals := 0 }
set_option maxHeartbeats 4000000 in
set_option maxRecDepth 100000 in
theorem k_X4_hasRulesOf {l : Launch} {D : va_G} {E : Nat → ClassId} (n : Nat) (a_t a_t_least a_t_of a_t_set a_t_chances a_p1 a_p1_least a_p1_of a_p1_set a_p1_chances : Nat) (t_rules : Int) (t_slack : Int) (t_limit : Int) (p1_rules : Int) (p1_slack : Int) (p1_limit : Int) (t_least : Nat → Int) (p1_least : Nat → Int) (t_of : Nat → Int) (p1_of : Nat → Int) (t_set : Nat → Int) (p1_set : Nat → Int) (res : Int) (hf : F_X4_hasRulesOf n t_rules p1_rules t_least p1_least t_of p1_of t_set p1_set = some res) : MR l yX4_hasRulesOf (.code yX4_hasRulesOf cX4_hasRulesOf 3 (some .boolean)) rm_X4_hasRulesOf D E [.ref a_t, .ref a_p1] [(a_t, .inr (4, [.int (z4 t_rules), .ref a_t_least, .ref a_t_of, .ref a_t_set, .ref a_t_chances, .int (z4 t_slack), .int (z4 t_limit)])), (a_p1, .inr (4, [.int (z4 p1_rules), .ref a_p1_least, .ref a_p1_of, .ref a_p1_set, .ref a_p1_chances, .int (z4 p1_slack), .int (z4 p1_limit)])), (a_t_least, .inl (E 0, 3, .inl (A4 t_least))), (a_p1_least, .inl (E 0, 3, .inl (A4 p1_least))), (a_t_of, .inl (E 0, 3, .inl (A4 t_of))), (a_p1_of, .inl (E 0, 3, .inl (A4 p1_of))), (a_t_set, .inl (E 0, 3, .inl (A4 t_set))), (a_p1_set, .inl (E 0, 3, .inl (A4 p1_set)))] (some (.int (z4 res))) := by
  refine MRz (by decide) (Nat.le_of_ble_eq_true rfl) ?_
  intro p e s m args below meth c Q X hK hP ret ls hl
  have hx := X.1
  have hb := X.2.1
  have hl : lv_has ls 3 [(0, .ref a_t), (1, .ref a_p1)] := hl
  unfold F_X4_hasRulesOf at hf
  refine lv_aload_n hx hb dX4_hasRulesOf_0 rfl (lv_at hl 0 rfl) ?_
  refine m_get X hK hP cl_X4 iT_X4 0 (by decide) fl_X4_27 0 rfl rfl dX4_hasRulesOf_1 ?_
  refine lv_aload_n hx hb dX4_hasRulesOf_4 rfl (lv_at hl 1 rfl) ?_
  refine m_get X hK hP cl_X4 iT_X4 0 (by decide) fl_X4_27 1 rfl rfl dX4_hasRulesOf_5 ?_
  obtain ⟨h1, hf⟩ := ck_some hf
  refine m_icmp_eq X h1 dX4_hasRulesOf_8 (tgt := 13) (by decide) (fun (hc_ : t_rules = p1_rules) => ?_) (fun (hc_ : ¬ (t_rules = p1_rules)) => ?_)
  · rw [if_pos hc_] at hf
    refine m_iconst X dX4_hasRulesOf_13 ?_
    refine lv_istore_n (lv' := [(2, .int (z4 0)), (0, .ref a_t), (1, .ref a_p1)]) hx hb dX4_hasRulesOf_14 rfl hl (by decide) rfl (fun ls hl => ?_)
    obtain ⟨o2, hj2, hr2⟩ := bd_some hf
    have E2_0 : ∀ (o_ : Unit), o2 = (.inl o_) → ∀ (ls : Array Slot), lv_has ls 3 [] → W p l e rm_X4_hasRulesOf s m args below meth c s.heap [] 0 0 Q (F0 m 81 ls []) := by
      intro o2_0 ho_ ls hl 
      subst ho_
      refine m_iconst X dX4_hasRulesOf_81 ?_
      obtain rfl := Option.some.inj hr2
      exact ret _ _ (Or.inr rfl) dX4_hasRulesOf_82
    have E2_1 : ∀ (o_ : Unit), o2 = (.inr o_) → ∀ (ls : Array Slot), lv_has ls 3 [] → W p l e rm_X4_hasRulesOf s m args below meth c s.heap [] 0 0 Q (F0 m 73 ls []) := by
      intro o2_1 ho_ ls hl 
      subst ho_
      refine m_iconst X dX4_hasRulesOf_73 ?_
      obtain rfl := Option.some.inj hr2
      exact ret _ _ (Or.inl rfl) dX4_hasRulesOf_74
    have L2 : ∀ (k_ : Nat) (v15_2 : Int), ∀ (ls : Array Slot), lv_has ls 3 [(0, .ref a_t), (1, .ref a_p1), (2, .int (z4 v15_2))] → lp_ (fun (q : Int) => F_X4_hasRulesOf_L15 n t_rules t_least p1_least t_of p1_of t_set p1_set q) k_ v15_2 = some o2 → W p l e rm_X4_hasRulesOf s m args below meth c s.heap [] 0 0 Q (F0 m 15 ls []) := by
      intro k_
      induction k_ with
      | zero =>
        intro v15_2 ls hl  hq_; exact (lp_zero hq_).elim
      | succ k_ ih2 =>
        intro v15_2 ls hl  hq_
        obtain ⟨t_2, hb2, hq2⟩ := lp_some hq_
        replace hb2 : F_X4_hasRulesOf_L15 n t_rules t_least p1_least t_of p1_of t_set p1_set v15_2 = some t_2 := hb2
        unfold F_X4_hasRulesOf_L15 at hb2
        refine lv_iload_n hx hb dX4_hasRulesOf_15 rfl (lv_at hl 2 rfl) ?_
        refine lv_aload_n hx hb dX4_hasRulesOf_16 rfl (lv_at hl 0 rfl) ?_
        refine m_get X hK hP cl_X4 iT_X4 0 (by decide) fl_X4_27 0 rfl rfl dX4_hasRulesOf_17 ?_
        obtain ⟨h3, hb2⟩ := ck_some hb2
        refine m_icmp_ge X h3 dX4_hasRulesOf_20 (tgt := 81) (by decide) (fun (hc_ : ¬ (v15_2 < t_rules)) => ?_) (fun (hc_ : v15_2 < t_rules) => ?_)
        · rw [if_neg hc_] at hb2
          obtain rfl := Option.some.inj hb2
          exact E2_0 _ (Option.some.inj hq2).symm _ (lv_sub hl [] rfl) 
        · rw [if_pos hc_] at hb2
          refine lv_iload_n hx hb dX4_hasRulesOf_23 rfl (lv_at hl 2 rfl) ?_
          refine m_iconst X dX4_hasRulesOf_24 ?_
          obtain ⟨h4, hb2⟩ := ck_some hb2
          refine m_icmp_ge X ⟨h4, ⟨by decide, by decide⟩⟩ dX4_hasRulesOf_25 (tgt := 81) (by decide) (fun (hc_ : ¬ (v15_2 < 3)) => ?_) (fun (hc_ : v15_2 < 3) => ?_)
          · rw [if_neg hc_] at hb2
            obtain rfl := Option.some.inj hb2
            exact E2_0 _ (Option.some.inj hq2).symm _ (lv_sub hl [] rfl) 
          · rw [if_pos hc_] at hb2
            refine lv_aload_n hx hb dX4_hasRulesOf_28 rfl (lv_at hl 0 rfl) ?_
            refine m_get X hK hP cl_X4 iT_X4 1 (by decide) fl_X4_9 0 rfl rfl dX4_hasRulesOf_29 ?_
            refine lv_iload_n hx hb dX4_hasRulesOf_32 rfl (lv_at hl 2 rfl) ?_
            obtain ⟨h5, hb2⟩ := ck_some hb2
            refine m_iald X hK hP 2 rfl (by decide) h5 dX4_hasRulesOf_33 ?_
            refine lv_aload_n hx hb dX4_hasRulesOf_34 rfl (lv_at hl 1 rfl) ?_
            refine m_get X hK hP cl_X4 iT_X4 1 (by decide) fl_X4_9 1 rfl rfl dX4_hasRulesOf_35 ?_
            refine lv_iload_n hx hb dX4_hasRulesOf_38 rfl (lv_at hl 2 rfl) ?_
            obtain ⟨h6, hb2⟩ := ck_some hb2
            refine m_iald X hK hP 3 rfl (by decide) h6 dX4_hasRulesOf_39 ?_
            obtain ⟨h7, hb2⟩ := ck_some hb2
            refine m_icmp_ne X h7 dX4_hasRulesOf_40 (tgt := 73) (by decide) (fun (hc_ : ¬ (t_least (v15_2).toNat = p1_least (v15_2).toNat)) => ?_) (fun (hc_ : t_least (v15_2).toNat = p1_least (v15_2).toNat) => ?_)
            · rw [if_neg hc_] at hb2
              obtain rfl := Option.some.inj hb2
              exact E2_1 _ (Option.some.inj hq2).symm _ (lv_sub hl [] rfl) 
            · rw [if_pos hc_] at hb2
              refine lv_aload_n hx hb dX4_hasRulesOf_43 rfl (lv_at hl 0 rfl) ?_
              refine m_get X hK hP cl_X4 iT_X4 2 (by decide) fl_X4_15 0 rfl rfl dX4_hasRulesOf_44 ?_
              refine lv_iload_n hx hb dX4_hasRulesOf_47 rfl (lv_at hl 2 rfl) ?_
              obtain ⟨h8, hb2⟩ := ck_some hb2
              refine m_iald X hK hP 4 rfl (by decide) h8 dX4_hasRulesOf_48 ?_
              refine lv_aload_n hx hb dX4_hasRulesOf_49 rfl (lv_at hl 1 rfl) ?_
              refine m_get X hK hP cl_X4 iT_X4 2 (by decide) fl_X4_15 1 rfl rfl dX4_hasRulesOf_50 ?_
              refine lv_iload_n hx hb dX4_hasRulesOf_53 rfl (lv_at hl 2 rfl) ?_
              obtain ⟨h9, hb2⟩ := ck_some hb2
              refine m_iald X hK hP 5 rfl (by decide) h9 dX4_hasRulesOf_54 ?_
              obtain ⟨h10, hb2⟩ := ck_some hb2
              refine m_icmp_ne X h10 dX4_hasRulesOf_55 (tgt := 73) (by decide) (fun (hc_ : ¬ (t_of (v15_2).toNat = p1_of (v15_2).toNat)) => ?_) (fun (hc_ : t_of (v15_2).toNat = p1_of (v15_2).toNat) => ?_)
              · rw [if_neg hc_] at hb2
                obtain rfl := Option.some.inj hb2
                exact E2_1 _ (Option.some.inj hq2).symm _ (lv_sub hl [] rfl) 
              · rw [if_pos hc_] at hb2
                refine lv_aload_n hx hb dX4_hasRulesOf_58 rfl (lv_at hl 0 rfl) ?_
                refine m_get X hK hP cl_X4 iT_X4 3 (by decide) fl_X4_18 0 rfl rfl dX4_hasRulesOf_59 ?_
                refine lv_iload_n hx hb dX4_hasRulesOf_62 rfl (lv_at hl 2 rfl) ?_
                obtain ⟨h11, hb2⟩ := ck_some hb2
                refine m_iald X hK hP 6 rfl (by decide) h11 dX4_hasRulesOf_63 ?_
                refine lv_aload_n hx hb dX4_hasRulesOf_64 rfl (lv_at hl 1 rfl) ?_
                refine m_get X hK hP cl_X4 iT_X4 3 (by decide) fl_X4_18 1 rfl rfl dX4_hasRulesOf_65 ?_
                refine lv_iload_n hx hb dX4_hasRulesOf_68 rfl (lv_at hl 2 rfl) ?_
                obtain ⟨h12, hb2⟩ := ck_some hb2
                refine m_iald X hK hP 7 rfl (by decide) h12 dX4_hasRulesOf_69 ?_
                obtain ⟨h13, hb2⟩ := ck_some hb2
                refine m_icmp_eq X h13 dX4_hasRulesOf_70 (tgt := 75) (by decide) (fun (hc_ : t_set (v15_2).toNat = p1_set (v15_2).toNat) => ?_) (fun (hc_ : ¬ (t_set (v15_2).toNat = p1_set (v15_2).toNat)) => ?_)
                · rw [if_pos hc_] at hb2
                  refine m_iinc X 2 [(2, .int (z4 (v15_2 + 1))), (0, .ref a_t), (1, .ref a_p1)] dX4_hasRulesOf_75 hl rfl (by decide) rfl (fun ls hl => ?_)
                  refine lv_goto (tgt := 15) hx hb dX4_hasRulesOf_78 (by decide) ?_
                  obtain rfl := Option.some.inj hb2
                  exact ih2 _ _ (lv_sub hl [1, 2, 0] rfl)  hq2
                · rw [if_neg hc_] at hb2
                  obtain rfl := Option.some.inj hb2
                  exact E2_1 _ (Option.some.inj hq2).symm _ (lv_sub hl [] rfl) 
    exact L2 n _ _ (lv_sub hl [1, 2, 0] rfl)  hj2
  · rw [if_neg hc_] at hf
    refine m_iconst X dX4_hasRulesOf_11 ?_
    obtain rfl := Option.some.inj hf
    exact ret _ _ (Or.inl rfl) dX4_hasRulesOf_12
def F_X4_hasChancesOf_L2 (n : Nat) (t_chances : Nat → Int) (p1_chances : Nat → Int) (v2_2 : Int) : Option ((Int) ⊕ ((Unit) ⊕ (Unit))) :=
  ck (r4 v2_2) <|
  if v2_2 < 5 then
    ck (ix_ v2_2 5) <|
    ck (ix_ v2_2 5) <|
    ck (r4 (t_chances (v2_2).toNat) ∧ r4 (p1_chances (v2_2).toNat)) <|
    if t_chances (v2_2).toNat = p1_chances (v2_2).toNat then
      some (.inl (v2_2 + 1))
    else
      some (.inr (.inr ()))
  else
    some (.inr (.inl ()))
def F_X4_hasChancesOf (n : Nat)  (t_chances : Nat → Int) (p1_chances : Nat → Int)  : Option (Int) :=
  (lp_ (fun (q : Int) => F_X4_hasChancesOf_L2 n t_chances p1_chances q) n 0).bind fun o1 => match o1 with
  | .inl o1_0 =>
    some 1
  | .inr o1_1 =>
    some 0
def rm_X4_hasChancesOf : Room := { frames := 0, cells := 0, slots := 0, locals := 0 }
set_option maxHeartbeats 4000000 in
set_option maxRecDepth 100000 in
theorem k_X4_hasChancesOf {l : Launch} {D : va_G} {E : Nat → ClassId} (n : Nat) (a_t a_t_least a_t_of a_t_set a_t_chances a_p1 a_p1_least a_p1_of a_p1_set a_p1_chances : Nat) (t_rules : Int) (t_slack : Int) (t_limit : Int) (t_chances : Nat → Int) (p1_rules : Int) (p1_slack : Int) (p1_limit : Int) (p1_chances : Nat → Int) (res : Int) (hf : F_X4_hasChancesOf n t_chances p1_chances = some res) : MR l yX4_hasChancesOf (.code yX4_hasChancesOf cX4_hasChancesOf 3 (some .boolean)) rm_X4_hasChancesOf D E [.ref a_t, .ref a_p1] [(a_t, .inr (4, [.int (z4 t_rules), .ref a_t_least, .ref a_t_of, .ref a_t_set, .ref a_t_chances, .int (z4 t_slack), .int (z4 t_limit)])), (a_t_chances, .inl (E 0, 5, .inl (A4 t_chances))), (a_p1, .inr (4, [.int (z4 p1_rules), .ref a_p1_least, .ref a_p1_of, .ref a_p1_set, .ref a_p1_chances, .int (z4 p1_slack), .int (z4 p1_limit)])), (a_p1_chances, .inl (E 0, 5, .inl (A4 p1_chances)))] (some (.int (z4 res))) := by
  refine MRz (by decide) (Nat.le_of_ble_eq_true rfl) ?_
  intro p e s m args below meth c Q X hK hP ret ls hl
  have hx := X.1
  have hb := X.2.1
  have hl : lv_has ls 3 [(0, .ref a_t), (1, .ref a_p1)] := hl
  unfold F_X4_hasChancesOf at hf
  refine m_iconst X dX4_hasChancesOf_0 ?_
  refine lv_istore_n (lv' := [(2, .int (z4 0)), (0, .ref a_t), (1, .ref a_p1)]) hx hb dX4_hasChancesOf_1 rfl hl (by decide) rfl (fun ls hl => ?_)
  obtain ⟨o1, hj1, hr1⟩ := bd_some hf
  have E1_0 : ∀ (o_ : Unit), o1 = (.inl o_) → ∀ (ls : Array Slot), lv_has ls 3 [] → W p l e rm_X4_hasChancesOf s m args below meth c s.heap [] 0 0 Q (F0 m 30 ls []) := by
    intro o1_0 ho_ ls hl 
    subst ho_
    refine m_iconst X dX4_hasChancesOf_30 ?_
    obtain rfl := Option.some.inj hr1
    exact ret _ _ (Or.inr rfl) dX4_hasChancesOf_31
  have E1_1 : ∀ (o_ : Unit), o1 = (.inr o_) → ∀ (ls : Array Slot), lv_has ls 3 [] → W p l e rm_X4_hasChancesOf s m args below meth c s.heap [] 0 0 Q (F0 m 22 ls []) := by
    intro o1_1 ho_ ls hl 
    subst ho_
    refine m_iconst X dX4_hasChancesOf_22 ?_
    obtain rfl := Option.some.inj hr1
    exact ret _ _ (Or.inl rfl) dX4_hasChancesOf_23
  have L1 : ∀ (k_ : Nat) (v2_2 : Int), ∀ (ls : Array Slot), lv_has ls 3 [(0, .ref a_t), (1, .ref a_p1), (2, .int (z4 v2_2))] → lp_ (fun (q : Int) => F_X4_hasChancesOf_L2 n t_chances p1_chances q) k_ v2_2 = some o1 → W p l e rm_X4_hasChancesOf s m args below meth c s.heap [] 0 0 Q (F0 m 2 ls []) := by
    intro k_
    induction k_ with
    | zero =>
      intro v2_2 ls hl  hq_; exact (lp_zero hq_).elim
    | succ k_ ih1 =>
      intro v2_2 ls hl  hq_
      obtain ⟨t_1, hb1, hq1⟩ := lp_some hq_
      replace hb1 : F_X4_hasChancesOf_L2 n t_chances p1_chances v2_2 = some t_1 := hb1
      unfold F_X4_hasChancesOf_L2 at hb1
      refine lv_iload_n hx hb dX4_hasChancesOf_2 rfl (lv_at hl 2 rfl) ?_
      refine m_iconst X dX4_hasChancesOf_3 ?_
      obtain ⟨h2, hb1⟩ := ck_some hb1
      refine m_icmp_ge X ⟨h2, ⟨by decide, by decide⟩⟩ dX4_hasChancesOf_4 (tgt := 30) (by decide) (fun (hc_ : ¬ (v2_2 < 5)) => ?_) (fun (hc_ : v2_2 < 5) => ?_)
      · rw [if_neg hc_] at hb1
        obtain rfl := Option.some.inj hb1
        exact E1_0 _ (Option.some.inj hq1).symm _ (lv_sub hl [] rfl) 
      · rw [if_pos hc_] at hb1
        refine lv_aload_n hx hb dX4_hasChancesOf_7 rfl (lv_at hl 0 rfl) ?_
        refine m_get X hK hP cl_X4 iT_X4 4 (by decide) fl_X4_21 0 rfl rfl dX4_hasChancesOf_8 ?_
        refine lv_iload_n hx hb dX4_hasChancesOf_11 rfl (lv_at hl 2 rfl) ?_
        obtain ⟨h3, hb1⟩ := ck_some hb1
        refine m_iald X hK hP 1 rfl (by decide) h3 dX4_hasChancesOf_12 ?_
        refine lv_aload_n hx hb dX4_hasChancesOf_13 rfl (lv_at hl 1 rfl) ?_
        refine m_get X hK hP cl_X4 iT_X4 4 (by decide) fl_X4_21 2 rfl rfl dX4_hasChancesOf_14 ?_
        refine lv_iload_n hx hb dX4_hasChancesOf_17 rfl (lv_at hl 2 rfl) ?_
        obtain ⟨h4, hb1⟩ := ck_some hb1
        refine m_iald X hK hP 3 rfl (by decide) h4 dX4_hasChancesOf_18 ?_
        obtain ⟨h5, hb1⟩ := ck_some hb1
        refine m_icmp_eq X h5 dX4_hasChancesOf_19 (tgt := 24) (by decide) (fun (hc_ : t_chances (v2_2).toNat = p1_chances (v2_2).toNat) => ?_) (fun (hc_ : ¬ (t_chances (v2_2).toNat = p1_chances (v2_2).toNat)) => ?_)
        · rw [if_pos hc_] at hb1
          refine m_iinc X 2 [(2, .int (z4 (v2_2 + 1))), (0, .ref a_t), (1, .ref a_p1)] dX4_hasChancesOf_24 hl rfl (by decide) rfl (fun ls hl => ?_)
          refine lv_goto (tgt := 2) hx hb dX4_hasChancesOf_27 (by decide) ?_
          obtain rfl := Option.some.inj hb1
          exact ih1 _ _ (lv_sub hl [1, 2, 0] rfl)  hq1
        · rw [if_neg hc_] at hb1
          obtain rfl := Option.some.inj hb1
          exact E1_1 _ (Option.some.inj hq1).symm _ (lv_sub hl [] rfl) 
  exact L1 n _ _ (lv_sub hl [1, 2, 0] rfl)  hj1
def F_X4_take (n : Nat)  (p1_rules : Int) (p1_slack : Int) (p1_limit : Int) (p1_least : Nat → Int) (t_least : Nat → Int) (p1_of : Nat → Int) (t_of : Nat → Int) (p1_set : Nat → Int) (t_set : Nat → Int) (p1_chances : Nat → Int) (t_chances : Nat → Int)  : Option (Int × Int × Int × (Nat → Int) × (Nat → Int) × (Nat → Int) × (Nat → Int)) :=
  some (p1_rules, p1_slack, p1_limit, cp_ p1_least t_least 0 0 3, cp_ p1_of t_of 0 0 3, cp_ p1_set t_set 0 0 3, cp_ p1_chances t_chances 0 0 5)
def rm_X4_take : Room := { frames := 1, cells := 0, slots := 0, locals := 48 }
set_option maxHeartbeats 4000000 in
set_option maxRecDepth 100000 in
theorem k_X4_take {l : Launch} {D : va_G} {E : Nat → ClassId} (n : Nat) (a_t a_t_least a_t_of a_t_set a_t_chances a_p1 a_p1_least a_p1_of a_p1_set a_p1_chances : Nat) (t_rules : Int) (t_slack : Int) (t_limit : Int) (p1_rules : Int) (p1_slack : Int) (p1_limit : Int) (p1_least : Nat → Int) (t_least : Nat → Int) (p1_of : Nat → Int) (t_of : Nat → Int) (p1_set : Nat → Int) (t_set : Nat → Int) (p1_chances : Nat → Int) (t_chances : Nat → Int) (res : Int × Int × Int × (Nat → Int) × (Nat → Int) × (Nat → Int) × (Nat → Int)) (hf : F_X4_take n p1_rules p1_slack p1_limit p1_least t_least p1_of t_of p1_set t_set p1_chances t_chances = some res) : MW l yX4_take (.code yX4_take cX4_take 2 none) rm_X4_take D E [.ref a_t, .ref a_p1] [(a_t, .inr (4, [.int (z4 t_rules), .ref a_t_least, .ref a_t_of, .ref a_t_set, .ref a_t_chances, .int (z4 t_slack), .int (z4 t_limit)])), (a_p1, .inr (4, [.int (z4 p1_rules), .ref a_p1_least, .ref a_p1_of, .ref a_p1_set, .ref a_p1_chances, .int (z4 p1_slack), .int (z4 p1_limit)])), (a_p1_least, .inl (E 0, 3, .inl (A4 p1_least))), (a_t_least, .inl (E 0, 3, .inl (A4 t_least))), (a_p1_of, .inl (E 0, 3, .inl (A4 p1_of))), (a_t_of, .inl (E 0, 3, .inl (A4 t_of))), (a_p1_set, .inl (E 0, 3, .inl (A4 p1_set))), (a_t_set, .inl (E 0, 3, .inl (A4 t_set))), (a_p1_chances, .inl (E 0, 5, .inl (A4 p1_chances))), (a_t_chances, .inl (E 0, 5, .inl (A4 t_chances)))] none [(a_t, .inr (4, [.int (z4 res.1), .ref a_t_least, .ref a_t_of, .ref a_t_set, .ref a_t_chances, .int (z4 res.2.1), .int (z4 res.2.2.1)])), (a_p1, .inr (4, [.int (z4 p1_rules), .ref a_p1_least, .ref a_p1_of, .ref a_p1_set, .ref a_p1_chances, .int (z4 p1_slack), .int (z4 p1_limit)])), (a_p1_least, .inl (E 0, 3, .inl (A4 p1_least))), (a_t_least, .inl (E 0, 3, .inl (A4 res.2.2.2.1))), (a_p1_of, .inl (E 0, 3, .inl (A4 p1_of))), (a_t_of, .inl (E 0, 3, .inl (A4 res.2.2.2.2.1))), (a_p1_set, .inl (E 0, 3, .inl (A4 p1_set))), (a_t_set, .inl (E 0, 3, .inl (A4 res.2.2.2.2.2.1))), (a_p1_chances, .inl (E 0, 5, .inl (A4 p1_chances))), (a_t_chances, .inl (E 0, 5, .inl (A4 res.2.2.2.2.2.2)))] := by
  refine MWv (by decide) (Nat.le_of_ble_eq_true rfl) ?_
  intro p e s m args below meth c A Q X hK hP hD hA ret ls hl
  have hS : va_S A s.heap s.heap [] := va_S.rf
  have hx := X.1
  have hb := X.2.1
  have hl : lv_has ls 2 [(0, .ref a_t), (1, .ref a_p1)] := hl
  unfold F_X4_take at hf
  refine lv_aload_n hx hb dX4_take_0 rfl (lv_at hl 0 rfl) ?_
  refine lv_aload_n hx hb dX4_take_1 rfl (lv_at hl 1 rfl) ?_
  refine m_get X hK hP cl_X4 iT_X4 0 (by decide) fl_X4_27 1 rfl rfl dX4_take_2 ?_
  refine m_put X hK hP hD hS cl_X4 iT_X4 tyX4 tyX4_ok nmX4 0 (by decide) fl_X4_27 rfl 0 rfl rfl rfl (Nat.le_of_ble_eq_true rfl) [(a_t, .inr (4, [.int (z4 p1_rules), .ref a_t_least, .ref a_t_of, .ref a_t_set, .ref a_t_chances, .int (z4 t_slack), .int (z4 t_limit)])), (a_p1, .inr (4, [.int (z4 p1_rules), .ref a_p1_least, .ref a_p1_of, .ref a_p1_set, .ref a_p1_chances, .int (z4 p1_slack), .int (z4 p1_limit)])), (a_p1_least, .inl (E 0, 3, .inl (A4 p1_least))), (a_t_least, .inl (E 0, 3, .inl (A4 t_least))), (a_p1_of, .inl (E 0, 3, .inl (A4 p1_of))), (a_t_of, .inl (E 0, 3, .inl (A4 t_of))), (a_p1_set, .inl (E 0, 3, .inl (A4 p1_set))), (a_t_set, .inl (E 0, 3, .inl (A4 t_set))), (a_p1_chances, .inl (E 0, 5, .inl (A4 p1_chances))), (a_t_chances, .inl (E 0, 5, .inl (A4 t_chances)))] rfl dX4_take_5 (fun H locs hP hD hS => ?_)
  refine lv_aload_n hx hb dX4_take_8 rfl (lv_at hl 1 rfl) ?_
  refine m_get X hK hP cl_X4 iT_X4 1 (by decide) fl_X4_9 1 rfl rfl dX4_take_9 ?_
  refine m_iconst X dX4_take_12 ?_
  refine lv_aload_n hx hb dX4_take_13 rfl (lv_at hl 0 rfl) ?_
  refine m_get X hK hP cl_X4 iT_X4 1 (by decide) fl_X4_9 0 rfl rfl dX4_take_14 ?_
  refine m_iconst X dX4_take_17 ?_
  refine m_iconst X dX4_take_18 ?_
  refine m_copy X ml_X4_34 nv_arraycopy st_arraycopy in_System hl.1 hK hP hD hS 2 3 rfl rfl (by decide) (by decide) (by decide) (Nat.le_of_ble_eq_true rfl) (by decide +kernel) [(a_t, .inr (4, [.int (z4 p1_rules), .ref a_t_least, .ref a_t_of, .ref a_t_set, .ref a_t_chances, .int (z4 t_slack), .int (z4 t_limit)])), (a_p1, .inr (4, [.int (z4 p1_rules), .ref a_p1_least, .ref a_p1_of, .ref a_p1_set, .ref a_p1_chances, .int (z4 p1_slack), .int (z4 p1_limit)])), (a_p1_least, .inl (E 0, 3, .inl (A4 p1_least))), (a_t_least, .inl (E 0, 3, .inl (A4 (cp_ p1_least t_least 0 0 3)))), (a_p1_of, .inl (E 0, 3, .inl (A4 p1_of))), (a_t_of, .inl (E 0, 3, .inl (A4 t_of))), (a_p1_set, .inl (E 0, 3, .inl (A4 p1_set))), (a_t_set, .inl (E 0, 3, .inl (A4 t_set))), (a_p1_chances, .inl (E 0, 5, .inl (A4 p1_chances))), (a_t_chances, .inl (E 0, 5, .inl (A4 t_chances)))] rfl dX4_take_19 (fun H locs hP hD hS => ?_)
  refine lv_aload_n hx hb dX4_take_22 rfl (lv_at hl 1 rfl) ?_
  refine m_get X hK hP cl_X4 iT_X4 2 (by decide) fl_X4_15 1 rfl rfl dX4_take_23 ?_
  refine m_iconst X dX4_take_26 ?_
  refine lv_aload_n hx hb dX4_take_27 rfl (lv_at hl 0 rfl) ?_
  refine m_get X hK hP cl_X4 iT_X4 2 (by decide) fl_X4_15 0 rfl rfl dX4_take_28 ?_
  refine m_iconst X dX4_take_31 ?_
  refine m_iconst X dX4_take_32 ?_
  refine m_copy X ml_X4_34 nv_arraycopy st_arraycopy in_System hl.1 hK hP hD hS 4 5 rfl rfl (by decide) (by decide) (by decide) (Nat.le_of_ble_eq_true rfl) (by decide +kernel) [(a_t, .inr (4, [.int (z4 p1_rules), .ref a_t_least, .ref a_t_of, .ref a_t_set, .ref a_t_chances, .int (z4 t_slack), .int (z4 t_limit)])), (a_p1, .inr (4, [.int (z4 p1_rules), .ref a_p1_least, .ref a_p1_of, .ref a_p1_set, .ref a_p1_chances, .int (z4 p1_slack), .int (z4 p1_limit)])), (a_p1_least, .inl (E 0, 3, .inl (A4 p1_least))), (a_t_least, .inl (E 0, 3, .inl (A4 (cp_ p1_least t_least 0 0 3)))), (a_p1_of, .inl (E 0, 3, .inl (A4 p1_of))), (a_t_of, .inl (E 0, 3, .inl (A4 (cp_ p1_of t_of 0 0 3)))), (a_p1_set, .inl (E 0, 3, .inl (A4 p1_set))), (a_t_set, .inl (E 0, 3, .inl (A4 t_set))), (a_p1_chances, .inl (E 0, 5, .inl (A4 p1_chances))), (a_t_chances, .inl (E 0, 5, .inl (A4 t_chances)))] rfl dX4_take_33 (fun H locs hP hD hS => ?_)
  refine lv_aload_n hx hb dX4_take_36 rfl (lv_at hl 1 rfl) ?_
  refine m_get X hK hP cl_X4 iT_X4 3 (by decide) fl_X4_18 1 rfl rfl dX4_take_37 ?_
  refine m_iconst X dX4_take_40 ?_
  refine lv_aload_n hx hb dX4_take_41 rfl (lv_at hl 0 rfl) ?_
  refine m_get X hK hP cl_X4 iT_X4 3 (by decide) fl_X4_18 0 rfl rfl dX4_take_42 ?_
  refine m_iconst X dX4_take_45 ?_
  refine m_iconst X dX4_take_46 ?_
  refine m_copy X ml_X4_34 nv_arraycopy st_arraycopy in_System hl.1 hK hP hD hS 6 7 rfl rfl (by decide) (by decide) (by decide) (Nat.le_of_ble_eq_true rfl) (by decide +kernel) [(a_t, .inr (4, [.int (z4 p1_rules), .ref a_t_least, .ref a_t_of, .ref a_t_set, .ref a_t_chances, .int (z4 t_slack), .int (z4 t_limit)])), (a_p1, .inr (4, [.int (z4 p1_rules), .ref a_p1_least, .ref a_p1_of, .ref a_p1_set, .ref a_p1_chances, .int (z4 p1_slack), .int (z4 p1_limit)])), (a_p1_least, .inl (E 0, 3, .inl (A4 p1_least))), (a_t_least, .inl (E 0, 3, .inl (A4 (cp_ p1_least t_least 0 0 3)))), (a_p1_of, .inl (E 0, 3, .inl (A4 p1_of))), (a_t_of, .inl (E 0, 3, .inl (A4 (cp_ p1_of t_of 0 0 3)))), (a_p1_set, .inl (E 0, 3, .inl (A4 p1_set))), (a_t_set, .inl (E 0, 3, .inl (A4 (cp_ p1_set t_set 0 0 3)))), (a_p1_chances, .inl (E 0, 5, .inl (A4 p1_chances))), (a_t_chances, .inl (E 0, 5, .inl (A4 t_chances)))] rfl dX4_take_47 (fun H locs hP hD hS => ?_)
  refine lv_aload_n hx hb dX4_take_50 rfl (lv_at hl 1 rfl) ?_
  refine m_get X hK hP cl_X4 iT_X4 4 (by decide) fl_X4_21 1 rfl rfl dX4_take_51 ?_
  refine m_iconst X dX4_take_54 ?_
  refine lv_aload_n hx hb dX4_take_55 rfl (lv_at hl 0 rfl) ?_
  refine m_get X hK hP cl_X4 iT_X4 4 (by decide) fl_X4_21 0 rfl rfl dX4_take_56 ?_
  refine m_iconst X dX4_take_59 ?_
  refine m_iconst X dX4_take_60 ?_
  refine m_copy X ml_X4_34 nv_arraycopy st_arraycopy in_System hl.1 hK hP hD hS 8 9 rfl rfl (by decide) (by decide) (by decide) (Nat.le_of_ble_eq_true rfl) (by decide +kernel) [(a_t, .inr (4, [.int (z4 p1_rules), .ref a_t_least, .ref a_t_of, .ref a_t_set, .ref a_t_chances, .int (z4 t_slack), .int (z4 t_limit)])), (a_p1, .inr (4, [.int (z4 p1_rules), .ref a_p1_least, .ref a_p1_of, .ref a_p1_set, .ref a_p1_chances, .int (z4 p1_slack), .int (z4 p1_limit)])), (a_p1_least, .inl (E 0, 3, .inl (A4 p1_least))), (a_t_least, .inl (E 0, 3, .inl (A4 (cp_ p1_least t_least 0 0 3)))), (a_p1_of, .inl (E 0, 3, .inl (A4 p1_of))), (a_t_of, .inl (E 0, 3, .inl (A4 (cp_ p1_of t_of 0 0 3)))), (a_p1_set, .inl (E 0, 3, .inl (A4 p1_set))), (a_t_set, .inl (E 0, 3, .inl (A4 (cp_ p1_set t_set 0 0 3)))), (a_p1_chances, .inl (E 0, 5, .inl (A4 p1_chances))), (a_t_chances, .inl (E 0, 5, .inl (A4 (cp_ p1_chances t_chances 0 0 5))))] rfl dX4_take_61 (fun H locs hP hD hS => ?_)
  refine lv_aload_n hx hb dX4_take_64 rfl (lv_at hl 0 rfl) ?_
  refine lv_aload_n hx hb dX4_take_65 rfl (lv_at hl 1 rfl) ?_
  refine m_get X hK hP cl_X4 iT_X4 5 (by decide) fl_X4_40 1 rfl rfl dX4_take_66 ?_
  refine m_put X hK hP hD hS cl_X4 iT_X4 tyX4 tyX4_ok nmX4 5 (by decide) fl_X4_40 rfl 0 rfl rfl rfl (Nat.le_of_ble_eq_true rfl) [(a_t, .inr (4, [.int (z4 p1_rules), .ref a_t_least, .ref a_t_of, .ref a_t_set, .ref a_t_chances, .int (z4 p1_slack), .int (z4 t_limit)])), (a_p1, .inr (4, [.int (z4 p1_rules), .ref a_p1_least, .ref a_p1_of, .ref a_p1_set, .ref a_p1_chances, .int (z4 p1_slack), .int (z4 p1_limit)])), (a_p1_least, .inl (E 0, 3, .inl (A4 p1_least))), (a_t_least, .inl (E 0, 3, .inl (A4 (cp_ p1_least t_least 0 0 3)))), (a_p1_of, .inl (E 0, 3, .inl (A4 p1_of))), (a_t_of, .inl (E 0, 3, .inl (A4 (cp_ p1_of t_of 0 0 3)))), (a_p1_set, .inl (E 0, 3, .inl (A4 p1_set))), (a_t_set, .inl (E 0, 3, .inl (A4 (cp_ p1_set t_set 0 0 3)))), (a_p1_chances, .inl (E 0, 5, .inl (A4 p1_chances))), (a_t_chances, .inl (E 0, 5, .inl (A4 (cp_ p1_chances t_chances 0 0 5))))] rfl dX4_take_69 (fun H locs hP hD hS => ?_)
  refine lv_aload_n hx hb dX4_take_72 rfl (lv_at hl 0 rfl) ?_
  refine lv_aload_n hx hb dX4_take_73 rfl (lv_at hl 1 rfl) ?_
  refine m_get X hK hP cl_X4 iT_X4 6 (by decide) fl_X4_43 1 rfl rfl dX4_take_74 ?_
  refine m_put X hK hP hD hS cl_X4 iT_X4 tyX4 tyX4_ok nmX4 6 (by decide) fl_X4_43 rfl 0 rfl rfl rfl (Nat.le_of_ble_eq_true rfl) [(a_t, .inr (4, [.int (z4 p1_rules), .ref a_t_least, .ref a_t_of, .ref a_t_set, .ref a_t_chances, .int (z4 p1_slack), .int (z4 p1_limit)])), (a_p1, .inr (4, [.int (z4 p1_rules), .ref a_p1_least, .ref a_p1_of, .ref a_p1_set, .ref a_p1_chances, .int (z4 p1_slack), .int (z4 p1_limit)])), (a_p1_least, .inl (E 0, 3, .inl (A4 p1_least))), (a_t_least, .inl (E 0, 3, .inl (A4 (cp_ p1_least t_least 0 0 3)))), (a_p1_of, .inl (E 0, 3, .inl (A4 p1_of))), (a_t_of, .inl (E 0, 3, .inl (A4 (cp_ p1_of t_of 0 0 3)))), (a_p1_set, .inl (E 0, 3, .inl (A4 p1_set))), (a_t_set, .inl (E 0, 3, .inl (A4 (cp_ p1_set t_set 0 0 3)))), (a_p1_chances, .inl (E 0, 5, .inl (A4 p1_chances))), (a_t_chances, .inl (E 0, 5, .inl (A4 (cp_ p1_chances t_chances 0 0 5))))] rfl dX4_take_77 (fun H locs hP hD hS => ?_)
  obtain rfl := Option.some.inj hf
  exact ret _ _ _ _ hP hD hS dX4_take_80
def F_X4_pass_L11 (n : Nat) (t_rules : Int) (t_of : Nat → Int) (x1 : Int) (t_set : Nat → Int) (x2 : Int) (t_least : Nat → Int) (v11_3 : Int) (v11_4 : Int) (v11_5 : Int) (v11_6 : Int) : Option ((Int × Int × Int × Int) ⊕ (Int × Int)) :=
  ck (r4 v11_6 ∧ r4 t_rules) <|
  if v11_6 < t_rules then
    ck (r4 v11_6) <|
    if v11_6 < 3 then
      ck (ix_ v11_6 3) <|
      ck (hS_ 1 ((t_of (v11_6).toNat) - 1)) <|
      ck (hR_ x1 v11_5) <|
      ck (nn (sr_ x1 v11_5) ∧ nn ((sl_ 1 ((t_of (v11_6).toNat) - 1)) - 1)) <|
      ck (hS_ (an_ (sr_ x1 v11_5) ((sl_ 1 ((t_of (v11_6).toNat) - 1)) - 1)) 1) <|
      ck (ix_ v11_6 3) <|
      ck (hR_ (t_set (v11_6).toNat) x2) <|
      ck (nn (sr_ (t_set (v11_6).toNat) x2) ∧ nn 1) <|
      ck (nn (sl_ (an_ (sr_ x1 v11_5) ((sl_ 1 ((t_of (v11_6).toNat) - 1)) - 1)) 1) ∧ nn (an_ (sr_ (t_set (v11_6).toNat) x2) 1)) <|
      (F_J6_bitCount_0f7a4 n (or_ (sl_ (an_ (sr_ x1 v11_5) ((sl_ 1 ((t_of (v11_6).toNat) - 1)) - 1)) 1) (an_ (sr_ (t_set (v11_6).toNat) x2) 1))).bind fun o13 =>
      ck (ix_ v11_6 3) <|
      Option.bind (α := Int) (
        ck (r4 o13 ∧ r4 (t_least (v11_6).toNat)) <|
        if o13 < t_least (v11_6).toNat then
          some v11_3
        else
          ck (hS_ 1 v11_6) <|
          ck (nn v11_3 ∧ nn (sl_ 1 v11_6)) <|
          some (or_ v11_3 (sl_ 1 v11_6))) fun o15 =>
      ck (nn (or_ (sl_ (an_ (sr_ x1 v11_5) ((sl_ 1 ((t_of (v11_6).toNat) - 1)) - 1)) 1) (an_ (sr_ (t_set (v11_6).toNat) x2) 1)) ∧ nn ((sl_ 1 ((t_of (v11_6).toNat) - 1)) - 1)) <|
      ck (hS_ (an_ (or_ (sl_ (an_ (sr_ x1 v11_5) ((sl_ 1 ((t_of (v11_6).toNat) - 1)) - 1)) 1) (an_ (sr_ (t_set (v11_6).toNat) x2) 1)) ((sl_ 1 ((t_of (v11_6).toNat) - 1)) - 1)) v11_5) <|
      ck (nn v11_4 ∧ nn (sl_ (an_ (or_ (sl_ (an_ (sr_ x1 v11_5) ((sl_ 1 ((t_of (v11_6).toNat) - 1)) - 1)) 1) (an_ (sr_ (t_set (v11_6).toNat) x2) 1)) ((sl_ 1 ((t_of (v11_6).toNat) - 1)) - 1)) v11_5)) <|
      some (.inl (o15, or_ v11_4 (sl_ (an_ (or_ (sl_ (an_ (sr_ x1 v11_5) ((sl_ 1 ((t_of (v11_6).toNat) - 1)) - 1)) 1) (an_ (sr_ (t_set (v11_6).toNat) x2) 1)) ((sl_ 1 ((t_of (v11_6).toNat) - 1)) - 1)) v11_5), v11_5 + ((t_of (v11_6).toNat) - 1), v11_6 + 1))
    else
      some (.inr (v11_3, v11_4))
  else
    some (.inr (v11_3, v11_4))
def F_X4_pass (n : Nat)  (t_rules : Int) (t_of : Nat → Int) (t_set : Nat → Int) (t_least : Nat → Int) (x1 : Int) (x2 : Int) : Option (Int) :=
  (lp_ (fun (q : Int × Int × Int × Int) => F_X4_pass_L11 n t_rules t_of x1 t_set x2 t_least q.1 q.2.1 q.2.2.1 q.2.2.2) n (0, 0, 0, 0)).bind fun o1 =>
  Option.bind (α := Int) (
    ck (r4 o1.1) <|
    if o1.1 = 0 then
      ck (hS_ o1.2 3) <|
      some (sl_ o1.2 3)
    else
      some o1.1) fun o22 =>
  some o22
def rm_X4_pass : Room := { frames := 1, cells := 0, slots := 0, locals := 20 }
set_option maxHeartbeats 4000000 in
set_option maxRecDepth 100000 in
theorem k_X4_pass {l : Launch} {D : va_G} {E : Nat → ClassId} (n : Nat) (a_t a_t_least a_t_of a_t_set a_t_chances : Nat) (t_rules : Int) (t_slack : Int) (t_limit : Int) (t_of : Nat → Int) (t_set : Nat → Int) (t_least : Nat → Int) (x1 : Int) (x2 : Int) (res : Int) (hf : F_X4_pass n t_rules t_of t_set t_least x1 x2 = some res) : MR l yX4_pass (.code yX4_pass cX4_pass 10 (some .int)) rm_X4_pass D E [.ref a_t, .int (z4 x1), .int (z4 x2)] [(a_t, .inr (4, [.int (z4 t_rules), .ref a_t_least, .ref a_t_of, .ref a_t_set, .ref a_t_chances, .int (z4 t_slack), .int (z4 t_limit)])), (a_t_of, .inl (E 0, 3, .inl (A4 t_of))), (a_t_set, .inl (E 0, 3, .inl (A4 t_set))), (a_t_least, .inl (E 0, 3, .inl (A4 t_least)))] (some (.int (z4 res))) := by
  refine MRi (by decide) (Nat.le_of_ble_eq_true rfl) ?_
  intro p e s m args below meth c Q X hK hP ret ls hl
  have hx := X.1
  have hb := X.2.1
  have hl : lv_has ls 10 [(0, .ref a_t), (1, .int (z4 x1)), (2, .int (z4 x2))] := hl
  unfold F_X4_pass at hf
  refine m_iconst X dX4_pass_0 ?_
  refine lv_istore_n (lv' := [(3, .int (z4 0)), (0, .ref a_t), (1, .int (z4 x1)), (2, .int (z4 x2))]) hx hb dX4_pass_1 rfl hl (by decide) rfl (fun ls hl => ?_)
  refine m_iconst X dX4_pass_2 ?_
  refine lv_istore (lv' := [(4, .int (z4 0)), (3, .int (z4 0)), (0, .ref a_t), (1, .int (z4 x1)), (2, .int (z4 x2))]) hx hb dX4_pass_3 hl (by decide) rfl (fun ls hl => ?_)
  refine m_iconst X dX4_pass_5 ?_
  refine lv_istore (lv' := [(5, .int (z4 0)), (4, .int (z4 0)), (3, .int (z4 0)), (0, .ref a_t), (1, .int (z4 x1)), (2, .int (z4 x2))]) hx hb dX4_pass_6 hl (by decide) rfl (fun ls hl => ?_)
  refine m_iconst X dX4_pass_8 ?_
  refine lv_istore (lv' := [(6, .int (z4 0)), (5, .int (z4 0)), (4, .int (z4 0)), (3, .int (z4 0)), (0, .ref a_t), (1, .int (z4 x1)), (2, .int (z4 x2))]) hx hb dX4_pass_9 hl (by decide) rfl (fun ls hl => ?_)
  obtain ⟨o1, hj1, hr1⟩ := bd_some hf
  have E1_0 : ∀ (o_ : Int × Int), o1 = o_ → ∀ (ls : Array Slot), lv_has ls 10 [(3, .int (z4 o_.1)), (4, .int (z4 o_.2))] → W p l e rm_X4_pass s m args below meth c s.heap [] 0 0 Q (F0 m 116 ls []) := by
    intro o_ ho_ ls hl 
    subst ho_
    refine lv_iload_n hx hb dX4_pass_116 rfl (lv_at hl 0 rfl) ?_
    obtain ⟨o22, hj22, hr22⟩ := bd_some hr1
    have J22 : ∀ (o_ : Int), o22 = o_ → ∀ (ls : Array Slot), lv_has ls 10 [] → W p l e rm_X4_pass s m args below meth c s.heap [] 0 0 Q (F0 m 128 ls [.int (z4 o_)]) := by
      intro o_ ho_ ls hl 
      subst ho_
      obtain rfl := Option.some.inj hr22
      exact ret _ _ dX4_pass_128
    obtain ⟨h23, hj22⟩ := ck_some hj22
    refine m_if_eq X h23 dX4_pass_117 (tgt := 124) (by decide) (fun (hc_ : o1.1 = 0) => ?_) (fun (hc_ : ¬ (o1.1 = 0)) => ?_)
    · rw [if_pos hc_] at hj22
      refine lv_iload hx hb dX4_pass_124 (lv_at hl 1 rfl) ?_
      refine m_iconst X dX4_pass_126 ?_
      obtain ⟨h24, hj22⟩ := ck_some hj22
      refine m_ishl X h24 dX4_pass_127 ?_
      exact J22 _ (Option.some.inj hj22).symm _ (lv_sub hl [] rfl) 
    · rw [if_neg hc_] at hj22
      refine lv_iload_n hx hb dX4_pass_120 rfl (lv_at hl 0 rfl) ?_
      refine lv_goto (tgt := 128) hx hb dX4_pass_121 (by decide) ?_
      exact J22 _ (Option.some.inj hj22).symm _ (lv_sub hl [] rfl) 
  have L1 : ∀ (k_ : Nat) (v11_3 : Int) (v11_4 : Int) (v11_5 : Int) (v11_6 : Int), ∀ (ls : Array Slot), lv_has ls 10 [(0, .ref a_t), (1, .int (z4 x1)), (2, .int (z4 x2)), (3, .int (z4 v11_3)), (4, .int (z4 v11_4)), (5, .int (z4 v11_5)), (6, .int (z4 v11_6))] → lp_ (fun (q : Int × Int × Int × Int) => F_X4_pass_L11 n t_rules t_of x1 t_set x2 t_least q.1 q.2.1 q.2.2.1 q.2.2.2) k_ (v11_3, v11_4, v11_5, v11_6) = some o1 → W p l e rm_X4_pass s m args below meth c s.heap [] 0 0 Q (F0 m 11 ls []) := by
    intro k_
    induction k_ with
    | zero =>
      intro v11_3 v11_4 v11_5 v11_6 ls hl  hq_; exact (lp_zero hq_).elim
    | succ k_ ih1 =>
      intro v11_3 v11_4 v11_5 v11_6 ls hl  hq_
      obtain ⟨t_1, hb1, hq1⟩ := lp_some hq_
      replace hb1 : F_X4_pass_L11 n t_rules t_of x1 t_set x2 t_least v11_3 v11_4 v11_5 v11_6 = some t_1 := hb1
      unfold F_X4_pass_L11 at hb1
      refine lv_iload hx hb dX4_pass_11 (lv_at hl 6 rfl) ?_
      refine lv_aload_n hx hb dX4_pass_13 rfl (lv_at hl 0 rfl) ?_
      refine m_get X hK hP cl_X4 iT_X4 0 (by decide) fl_X4_27 0 rfl rfl dX4_pass_14 ?_
      obtain ⟨h2, hb1⟩ := ck_some hb1
      refine m_icmp_ge X h2 dX4_pass_17 (tgt := 116) (by decide) (fun (hc_ : ¬ (v11_6 < t_rules)) => ?_) (fun (hc_ : v11_6 < t_rules) => ?_)
      · rw [if_neg hc_] at hb1
        obtain rfl := Option.some.inj hb1
        exact E1_0 _ (Option.some.inj hq1).symm _ (lv_sub hl [3, 4] rfl) 
      · rw [if_pos hc_] at hb1
        refine lv_iload hx hb dX4_pass_20 (lv_at hl 6 rfl) ?_
        refine m_iconst X dX4_pass_22 ?_
        obtain ⟨h3, hb1⟩ := ck_some hb1
        refine m_icmp_ge X ⟨h3, ⟨by decide, by decide⟩⟩ dX4_pass_23 (tgt := 116) (by decide) (fun (hc_ : ¬ (v11_6 < 3)) => ?_) (fun (hc_ : v11_6 < 3) => ?_)
        · rw [if_neg hc_] at hb1
          obtain rfl := Option.some.inj hb1
          exact E1_0 _ (Option.some.inj hq1).symm _ (lv_sub hl [3, 4] rfl) 
        · rw [if_pos hc_] at hb1
          refine lv_aload_n hx hb dX4_pass_26 rfl (lv_at hl 0 rfl) ?_
          refine m_get X hK hP cl_X4 iT_X4 2 (by decide) fl_X4_15 0 rfl rfl dX4_pass_27 ?_
          refine lv_iload hx hb dX4_pass_30 (lv_at hl 6 rfl) ?_
          obtain ⟨h4, hb1⟩ := ck_some hb1
          refine m_iald X hK hP 1 rfl (by decide) h4 dX4_pass_32 ?_
          refine m_iconst X dX4_pass_33 ?_
          refine m_isub X dX4_pass_34 ?_
          refine lv_istore (lv' := [(7, .int (z4 ((t_of (v11_6).toNat) - 1))), (0, .ref a_t), (1, .int (z4 x1)), (2, .int (z4 x2)), (3, .int (z4 v11_3)), (4, .int (z4 v11_4)), (5, .int (z4 v11_5)), (6, .int (z4 v11_6))]) hx hb dX4_pass_35 hl (by decide) rfl (fun ls hl => ?_)
          refine m_iconst X dX4_pass_37 ?_
          refine lv_iload hx hb dX4_pass_38 (lv_at hl 0 rfl) ?_
          obtain ⟨h5, hb1⟩ := ck_some hb1
          refine m_ishl X h5 dX4_pass_40 ?_
          refine m_iconst X dX4_pass_41 ?_
          refine m_isub X dX4_pass_42 ?_
          refine lv_istore (lv' := [(8, .int (z4 ((sl_ 1 ((t_of (v11_6).toNat) - 1)) - 1))), (7, .int (z4 ((t_of (v11_6).toNat) - 1))), (0, .ref a_t), (1, .int (z4 x1)), (2, .int (z4 x2)), (3, .int (z4 v11_3)), (4, .int (z4 v11_4)), (5, .int (z4 v11_5)), (6, .int (z4 v11_6))]) hx hb dX4_pass_43 hl (by decide) rfl (fun ls hl => ?_)
          refine lv_iload_n hx hb dX4_pass_45 rfl (lv_at hl 3 rfl) ?_
          refine lv_iload hx hb dX4_pass_46 (lv_at hl 7 rfl) ?_
          obtain ⟨h6, hb1⟩ := ck_some hb1
          refine m_ishr X h6 dX4_pass_48 ?_
          refine lv_iload hx hb dX4_pass_49 (lv_at hl 0 rfl) ?_
          obtain ⟨h7, hb1⟩ := ck_some hb1
          refine m_iand X h7 dX4_pass_51 ?_
          refine m_iconst X dX4_pass_52 ?_
          obtain ⟨h8, hb1⟩ := ck_some hb1
          refine m_ishl X h8 dX4_pass_53 ?_
          refine lv_aload_n hx hb dX4_pass_54 rfl (lv_at hl 2 rfl) ?_
          refine m_get X hK hP cl_X4 iT_X4 3 (by decide) fl_X4_18 0 rfl rfl dX4_pass_55 ?_
          refine lv_iload hx hb dX4_pass_58 (lv_at hl 8 rfl) ?_
          obtain ⟨h9, hb1⟩ := ck_some hb1
          refine m_iald X hK hP 2 rfl (by decide) h9 dX4_pass_60 ?_
          refine lv_iload_n hx hb dX4_pass_61 rfl (lv_at hl 4 rfl) ?_
          obtain ⟨h10, hb1⟩ := ck_some hb1
          refine m_ishr X h10 dX4_pass_62 ?_
          refine m_iconst X dX4_pass_63 ?_
          obtain ⟨h11, hb1⟩ := ck_some hb1
          refine m_iand X h11 dX4_pass_64 ?_
          obtain ⟨h12, hb1⟩ := ck_some hb1
          refine m_ior X h12 dX4_pass_65 ?_
          refine lv_istore (lv' := [(9, .int (z4 (or_ (sl_ (an_ (sr_ x1 v11_5) ((sl_ 1 ((t_of (v11_6).toNat) - 1)) - 1)) 1) (an_ (sr_ (t_set (v11_6).toNat) x2) 1)))), (8, .int (z4 ((sl_ 1 ((t_of (v11_6).toNat) - 1)) - 1))), (7, .int (z4 ((t_of (v11_6).toNat) - 1))), (0, .ref a_t), (1, .int (z4 x1)), (2, .int (z4 x2)), (3, .int (z4 v11_3)), (4, .int (z4 v11_4)), (5, .int (z4 v11_5)), (6, .int (z4 v11_6))]) hx hb dX4_pass_66 hl (by decide) rfl (fun ls hl => ?_)
          refine lv_iload hx hb dX4_pass_68 (lv_at hl 0 rfl) ?_
          obtain ⟨o13, ho, hb1⟩ := bd_some hb1
          refine m_cSR X hK (k_J6_bitCount_0f7a4 n (or_ (sl_ (an_ (sr_ x1 v11_5) ((sl_ 1 ((t_of (v11_6).toNat) - 1)) - 1)) 1) (an_ (sr_ (t_set (v11_6).toNat) x2) 1)) o13 ho) (hP.sub (ws' := []) [] rfl) lk_X4_46 co_J6_bitCount_0f7a4 dy_J6_bitCount_0f7a4 rfl rfl ⟨Nat.le_of_ble_eq_true rfl, Nat.le_of_ble_eq_true rfl⟩ hl.1 rfl (Nat.le_of_ble_eq_true rfl) dX4_pass_70 (Nat.zero_le _) (Nat.zero_le _) ?_
          refine lv_aload_n hx hb dX4_pass_73 rfl (lv_at hl 3 rfl) ?_
          refine m_get X hK hP cl_X4 iT_X4 1 (by decide) fl_X4_9 0 rfl rfl dX4_pass_74 ?_
          refine lv_iload hx hb dX4_pass_77 (lv_at hl 9 rfl) ?_
          obtain ⟨h14, hb1⟩ := ck_some hb1
          refine m_iald X hK hP 3 rfl (by decide) h14 dX4_pass_79 ?_
          obtain ⟨o15, hj15, hr15⟩ := bd_some hb1
          have J15 : ∀ (o_ : Int), o15 = o_ → ∀ (ls : Array Slot), lv_has ls 10 [(0, .ref a_t), (1, .int (z4 x1)), (2, .int (z4 x2)), (3, .int (z4 o_)), (4, .int (z4 v11_4)), (5, .int (z4 v11_5)), (6, .int (z4 v11_6)), (7, .int (z4 ((t_of (v11_6).toNat) - 1))), (8, .int (z4 ((sl_ 1 ((t_of (v11_6).toNat) - 1)) - 1))), (9, .int (z4 (or_ (sl_ (an_ (sr_ x1 v11_5) ((sl_ 1 ((t_of (v11_6).toNat) - 1)) - 1)) 1) (an_ (sr_ (t_set (v11_6).toNat) x2) 1))))] → W p l e rm_X4_pass s m args below meth c s.heap [] 0 0 Q (F0 m 90 ls []) := by
            intro o_ ho_ ls hl 
            subst ho_
            refine lv_iload hx hb dX4_pass_90 (lv_at hl 4 rfl) ?_
            refine lv_iload hx hb dX4_pass_92 (lv_at hl 9 rfl) ?_
            refine lv_iload hx hb dX4_pass_94 (lv_at hl 8 rfl) ?_
            obtain ⟨h19, hr15⟩ := ck_some hr15
            refine m_iand X h19 dX4_pass_96 ?_
            refine lv_iload hx hb dX4_pass_97 (lv_at hl 5 rfl) ?_
            obtain ⟨h20, hr15⟩ := ck_some hr15
            refine m_ishl X h20 dX4_pass_99 ?_
            obtain ⟨h21, hr15⟩ := ck_some hr15
            refine m_ior X h21 dX4_pass_100 ?_
            refine lv_istore (lv' := [(4, .int (z4 (or_ v11_4 (sl_ (an_ (or_ (sl_ (an_ (sr_ x1 v11_5) ((sl_ 1 ((t_of (v11_6).toNat) - 1)) - 1)) 1) (an_ (sr_ (t_set (v11_6).toNat) x2) 1)) ((sl_ 1 ((t_of (v11_6).toNat) - 1)) - 1)) v11_5)))), (0, .ref a_t), (1, .int (z4 x1)), (2, .int (z4 x2)), (3, .int (z4 o15)), (5, .int (z4 v11_5)), (6, .int (z4 v11_6)), (7, .int (z4 ((t_of (v11_6).toNat) - 1))), (8, .int (z4 ((sl_ 1 ((t_of (v11_6).toNat) - 1)) - 1))), (9, .int (z4 (or_ (sl_ (an_ (sr_ x1 v11_5) ((sl_ 1 ((t_of (v11_6).toNat) - 1)) - 1)) 1) (an_ (sr_ (t_set (v11_6).toNat) x2) 1))))]) hx hb dX4_pass_101 hl (by decide) rfl (fun ls hl => ?_)
            refine lv_iload hx hb dX4_pass_103 (lv_at hl 5 rfl) ?_
            refine lv_iload hx hb dX4_pass_105 (lv_at hl 7 rfl) ?_
            refine m_iadd X dX4_pass_107 ?_
            refine lv_istore (lv' := [(5, .int (z4 (v11_5 + ((t_of (v11_6).toNat) - 1)))), (4, .int (z4 (or_ v11_4 (sl_ (an_ (or_ (sl_ (an_ (sr_ x1 v11_5) ((sl_ 1 ((t_of (v11_6).toNat) - 1)) - 1)) 1) (an_ (sr_ (t_set (v11_6).toNat) x2) 1)) ((sl_ 1 ((t_of (v11_6).toNat) - 1)) - 1)) v11_5)))), (0, .ref a_t), (1, .int (z4 x1)), (2, .int (z4 x2)), (3, .int (z4 o15)), (6, .int (z4 v11_6)), (7, .int (z4 ((t_of (v11_6).toNat) - 1))), (8, .int (z4 ((sl_ 1 ((t_of (v11_6).toNat) - 1)) - 1))), (9, .int (z4 (or_ (sl_ (an_ (sr_ x1 v11_5) ((sl_ 1 ((t_of (v11_6).toNat) - 1)) - 1)) 1) (an_ (sr_ (t_set (v11_6).toNat) x2) 1))))]) hx hb dX4_pass_108 hl (by decide) rfl (fun ls hl => ?_)
            refine m_iinc X 6 [(6, .int (z4 (v11_6 + 1))), (5, .int (z4 (v11_5 + ((t_of (v11_6).toNat) - 1)))), (4, .int (z4 (or_ v11_4 (sl_ (an_ (or_ (sl_ (an_ (sr_ x1 v11_5) ((sl_ 1 ((t_of (v11_6).toNat) - 1)) - 1)) 1) (an_ (sr_ (t_set (v11_6).toNat) x2) 1)) ((sl_ 1 ((t_of (v11_6).toNat) - 1)) - 1)) v11_5)))), (0, .ref a_t), (1, .int (z4 x1)), (2, .int (z4 x2)), (3, .int (z4 o15)), (7, .int (z4 ((t_of (v11_6).toNat) - 1))), (8, .int (z4 ((sl_ 1 ((t_of (v11_6).toNat) - 1)) - 1))), (9, .int (z4 (or_ (sl_ (an_ (sr_ x1 v11_5) ((sl_ 1 ((t_of (v11_6).toNat) - 1)) - 1)) 1) (an_ (sr_ (t_set (v11_6).toNat) x2) 1))))] dX4_pass_110 hl rfl (by decide) rfl (fun ls hl => ?_)
            refine lv_goto (tgt := 11) hx hb dX4_pass_113 (by decide) ?_
            obtain rfl := Option.some.inj hr15
            exact ih1 _ _ _ _ _ (lv_sub hl [3, 4, 5, 6, 2, 1, 0] rfl)  hq1
          obtain ⟨h16, hj15⟩ := ck_some hj15
          refine m_icmp_lt X h16 dX4_pass_80 (tgt := 90) (by decide) (fun (hc_ : o13 < t_least (v11_6).toNat) => ?_) (fun (hc_ : ¬ (o13 < t_least (v11_6).toNat)) => ?_)
          · rw [if_pos hc_] at hj15
            exact J15 _ (Option.some.inj hj15).symm _ (lv_sub hl [3, 4, 5, 6, 7, 8, 9, 2, 1, 0] rfl) 
          · rw [if_neg hc_] at hj15
            refine lv_iload_n hx hb dX4_pass_83 rfl (lv_at hl 6 rfl) ?_
            refine m_iconst X dX4_pass_84 ?_
            refine lv_iload hx hb dX4_pass_85 (lv_at hl 9 rfl) ?_
            obtain ⟨h17, hj15⟩ := ck_some hj15
            refine m_ishl X h17 dX4_pass_87 ?_
            obtain ⟨h18, hj15⟩ := ck_some hj15
            refine m_ior X h18 dX4_pass_88 ?_
            refine lv_istore_n (lv' := [(3, .int (z4 (or_ v11_3 (sl_ 1 v11_6)))), (9, .int (z4 (or_ (sl_ (an_ (sr_ x1 v11_5) ((sl_ 1 ((t_of (v11_6).toNat) - 1)) - 1)) 1) (an_ (sr_ (t_set (v11_6).toNat) x2) 1)))), (8, .int (z4 ((sl_ 1 ((t_of (v11_6).toNat) - 1)) - 1))), (7, .int (z4 ((t_of (v11_6).toNat) - 1))), (0, .ref a_t), (1, .int (z4 x1)), (2, .int (z4 x2)), (4, .int (z4 v11_4)), (5, .int (z4 v11_5)), (6, .int (z4 v11_6))]) hx hb dX4_pass_89 rfl hl (by decide) rfl (fun ls hl => ?_)
            exact J15 _ (Option.some.inj hj15).symm _ (lv_sub hl [4, 5, 6, 0, 7, 8, 9, 3, 2, 1] rfl) 
  exact L1 n _ _ _ _ _ (lv_sub hl [4, 5, 6, 3, 2, 1, 0] rfl)  hj1
