def F_X9_isWord_L17 (n : Nat) (w : Nat) (t_size : Int) (t_letters : Nat → Int) (x1 : Int) (v17_3 : Int) : Option ((Int) ⊕ ((Unit) ⊕ (Unit))) :=
  ck (r4 v17_3 ∧ r4 ((lenJ.getD w 0 : Nat) : Int)) <|
  if v17_3 < ((lenJ.getD w 0 : Nat) : Int) then
    (F_X9_letterAt n t_size t_letters (x1 + v17_3)).bind fun o4 =>
    ck (ix_ v17_3 ((lenJ.getD w 0 : Nat) : Int)) <|
    ck (r4 o4 ∧ r4 (chI w (v17_3).toNat)) <|
    if o4 = chI w (v17_3).toNat then
      some (.inl (v17_3 + 1))
    else
      some (.inr (.inr ()))
  else
    some (.inr (.inl ()))
def F_X9_isWord (n : Nat) (w : Nat)  (t_size : Int) (t_place : Int) (t_letters : Nat → Int) (x1 : Int) : Option (Int) :=
  ck (r4 (t_place - x1) ∧ r4 ((lenJ.getD w 0 : Nat) : Int)) <|
  if t_place - x1 = ((lenJ.getD w 0 : Nat) : Int) then
    (lp_ (fun (q : Int) => F_X9_isWord_L17 n w t_size t_letters x1 q) n 0).bind fun o2 => match o2 with
    | .inl o2_0 =>
      some 1
    | .inr o2_1 =>
      some 0
  else
    some 0
def rm_X9_isWord : Room := { frames := 4, cells := 0, slots := 0, locals := 111 }
set_option maxHeartbeats 4000000 in
set_option maxRecDepth 100000 in
theorem k_X9_isWord {l : Launch} {D : va_G} {E : Nat → ClassId} {B : Nat} {Z : ZT} (n : Nat) (a_t a_t_letters a_t_kinds a_t_starts a_t_values : Nat) (w : Nat) (hw : w < 3) (t_size : Int) (t_place : Int) (t_tokens : Int) (t_letters : Nat → Int) (x1 : Int) (res : Int) (hf : F_X9_isWord n w t_size t_place t_letters x1 = some res) : MRs l yX9_isWord (.code yX9_isWord cX9_isWord 4 (some .boolean)) rm_X9_isWord D E B Z [.ref a_t, .int (z4 x1), .ref (Z.2.1 w)] [(a_t, .inr (9, [.ref a_t_letters, .int (z4 t_size), .int (z4 t_place), .int (z4 t_tokens), .ref a_t_kinds, .ref a_t_starts, .ref a_t_values])), (a_t_letters, .inl (E 0, 120, .inl (A4 t_letters)))] (some (.int (z4 res))) := by
  refine MRzs (by decide +kernel) (Nat.le_of_ble_eq_true rfl) ?_
  intro p e s m args below meth c Q X hK hF hP ret ls hl
  have hS : va_S (fun q => B ≤ q) s.heap s.heap [] := va_S.rf
  have hAB : ∀ q, (fun q => B ≤ q) q → B ≤ q := fun _ h => h
  have hx := X.1
  have hb := X.2.1
  have hl : lv_has ls 4 [(0, .ref a_t), (1, .int (z4 x1)), (2, .ref (Z.2.1 w))] := hl
  unfold F_X9_isWord at hf
  refine lv_aload_n hx hb dX9_isWord_0 rfl (lv_at hl 0 rfl) ?_
  refine m_get X hK hP cl_X9 iT_X9 2 (by decide) fl_X9_32 0 rfl rfl dX9_isWord_1 ?_
  refine lv_iload_n hx hb dX9_isWord_4 rfl (lv_at hl 1 rfl) ?_
  refine m_isub X dX9_isWord_5 ?_
  refine lv_aload_n hx hb dX9_isWord_6 rfl (lv_at hl 2 rfl) ?_
  refine m_cVRs X hK hF hAB hS (k_J0_length hw) (hP.sub (ws' := []) [] rfl) (vk_recv (hF.2.2.2.2.1.narrow hAB) hw hS) lk_X9_69 co_J0_length_8abf5 dy_J0_length_8abf5 rfl rfl ⟨Nat.le_of_ble_eq_true rfl, Nat.le_of_ble_eq_true rfl⟩ hl.1 rfl (Nat.le_of_ble_eq_true rfl) dX9_isWord_7 (Nat.zero_le _) (Nat.zero_le _) ?_
  obtain ⟨h1, hf⟩ := ck_some hf
  refine m_icmp_eq X h1 dX9_isWord_10 (tgt := 15) (by decide) (fun (hc_ : t_place - x1 = ((lenJ.getD w 0 : Nat) : Int)) => ?_) (fun (hc_ : ¬ (t_place - x1 = ((lenJ.getD w 0 : Nat) : Int))) => ?_)
  · rw [if_pos hc_] at hf
    refine m_iconst X dX9_isWord_15 ?_
    refine lv_istore_n (lv' := [(3, .int (z4 0)), (0, .ref a_t), (1, .int (z4 x1)), (2, .ref (Z.2.1 w))]) hx hb dX9_isWord_16 rfl hl (by decide) rfl (fun ls hl => ?_)
    obtain ⟨o2, hj2, hr2⟩ := bd_some hf
    have E2_0 : ∀ (o_ : Unit), o2 = (.inl o_) → ∀ (ls : Array Slot), lv_has ls 4 [] → W p l e rm_X9_isWord s m args below meth c s.heap [] 0 0 Q (F0 m 48 ls []) := by
      intro o2_0 ho_ ls hl 
      subst ho_
      refine m_iconst X dX9_isWord_48 ?_
      obtain rfl := Option.some.inj hr2
      exact ret _ _ (Or.inr rfl) dX9_isWord_49
    have E2_1 : ∀ (o_ : Unit), o2 = (.inr o_) → ∀ (ls : Array Slot), lv_has ls 4 [] → W p l e rm_X9_isWord s m args below meth c s.heap [] 0 0 Q (F0 m 40 ls []) := by
      intro o2_1 ho_ ls hl 
      subst ho_
      refine m_iconst X dX9_isWord_40 ?_
      obtain rfl := Option.some.inj hr2
      exact ret _ _ (Or.inl rfl) dX9_isWord_41
    have L2 : ∀ (k_ : Nat) (v17_3 : Int), ∀ (ls : Array Slot), lv_has ls 4 [(0, .ref a_t), (1, .int (z4 x1)), (2, .ref (Z.2.1 w)), (3, .int (z4 v17_3))] → lp_ (fun (q : Int) => F_X9_isWord_L17 n w t_size t_letters x1 q) k_ v17_3 = some o2 → W p l e rm_X9_isWord s m args below meth c s.heap [] 0 0 Q (F0 m 17 ls []) := by
      intro k_
      induction k_ with
      | zero =>
        intro v17_3 ls hl  hq_; exact (lp_zero hq_).elim
      | succ k_ ih2 =>
        intro v17_3 ls hl  hq_
        obtain ⟨t_2, hb2, hq2⟩ := lp_some hq_
        replace hb2 : F_X9_isWord_L17 n w t_size t_letters x1 v17_3 = some t_2 := hb2
        unfold F_X9_isWord_L17 at hb2
        refine lv_iload_n hx hb dX9_isWord_17 rfl (lv_at hl 3 rfl) ?_
        refine lv_aload_n hx hb dX9_isWord_18 rfl (lv_at hl 2 rfl) ?_
        refine m_cVRs X hK hF hAB hS (k_J0_length hw) (hP.sub (ws' := []) [] rfl) (vk_recv (hF.2.2.2.2.1.narrow hAB) hw hS) lk_X9_69 co_J0_length_8abf5 dy_J0_length_8abf5 rfl rfl ⟨Nat.le_of_ble_eq_true rfl, Nat.le_of_ble_eq_true rfl⟩ hl.1 rfl (Nat.le_of_ble_eq_true rfl) dX9_isWord_19 (Nat.zero_le _) (Nat.zero_le _) ?_
        obtain ⟨h3, hb2⟩ := ck_some hb2
        refine m_icmp_ge X h3 dX9_isWord_22 (tgt := 48) (by decide) (fun (hc_ : ¬ (v17_3 < ((lenJ.getD w 0 : Nat) : Int))) => ?_) (fun (hc_ : v17_3 < ((lenJ.getD w 0 : Nat) : Int)) => ?_)
        · rw [if_neg hc_] at hb2
          obtain rfl := Option.some.inj hb2
          exact E2_0 _ (Option.some.inj hq2).symm _ (lv_sub hl [] rfl) 
        · rw [if_pos hc_] at hb2
          refine lv_aload_n hx hb dX9_isWord_25 rfl (lv_at hl 0 rfl) ?_
          refine lv_iload_n hx hb dX9_isWord_26 rfl (lv_at hl 1 rfl) ?_
          refine lv_iload_n hx hb dX9_isWord_27 rfl (lv_at hl 3 rfl) ?_
          refine m_iadd X dX9_isWord_28 ?_
          obtain ⟨o4, ho, hb2⟩ := bd_some hb2
          refine m_cVR X hK (k_X9_letterAt n a_t a_t_letters a_t_kinds a_t_starts a_t_values t_size t_place t_tokens t_letters (x1 + v17_3) o4 ho) (hP.sub [0, 1] rfl) rfl cl_X9 lk_X9_38 co_X9_letterAt dy_X9_letterAt rfl rfl ⟨Nat.le_of_ble_eq_true rfl, Nat.le_of_ble_eq_true rfl⟩ hl.1 rfl (Nat.le_of_ble_eq_true rfl) dX9_isWord_29 (Nat.zero_le _) (Nat.zero_le _) ?_
          refine lv_aload_n hx hb dX9_isWord_32 rfl (lv_at hl 2 rfl) ?_
          refine lv_iload_n hx hb dX9_isWord_33 rfl (lv_at hl 3 rfl) ?_
          obtain ⟨h5, hb2⟩ := ck_some hb2
          refine m_cVRs X hK hF hAB hS (k_J0_charAt hw h5) (hP.sub (ws' := []) [] rfl) (vk_recv (hF.2.2.2.2.1.narrow hAB) hw hS) lk_X9_74 co_J0_charAt_5068e dy_J0_charAt_5068e rfl rfl ⟨Nat.le_of_ble_eq_true rfl, Nat.le_of_ble_eq_true rfl⟩ hl.1 rfl (Nat.le_of_ble_eq_true rfl) dX9_isWord_34 (Nat.zero_le _) (Nat.zero_le _) ?_
          obtain ⟨h6, hb2⟩ := ck_some hb2
          refine m_icmp_eq X h6 dX9_isWord_37 (tgt := 42) (by decide) (fun (hc_ : o4 = chI w (v17_3).toNat) => ?_) (fun (hc_ : ¬ (o4 = chI w (v17_3).toNat)) => ?_)
          · rw [if_pos hc_] at hb2
            refine m_iinc X 3 [(3, .int (z4 (v17_3 + 1))), (0, .ref a_t), (1, .int (z4 x1)), (2, .ref (Z.2.1 w))] dX9_isWord_42 hl rfl (by decide) rfl (fun ls hl => ?_)
            refine lv_goto (tgt := 17) hx hb dX9_isWord_45 (by decide) ?_
            obtain rfl := Option.some.inj hb2
            exact ih2 _ _ (lv_sub hl [1, 2, 3, 0] rfl)  hq2
          · rw [if_neg hc_] at hb2
            obtain rfl := Option.some.inj hb2
            exact E2_1 _ (Option.some.inj hq2).symm _ (lv_sub hl [] rfl) 
    exact L2 n _ _ (lv_sub hl [1, 2, 3, 0] rfl)  hj2
  · rw [if_neg hc_] at hf
    refine m_iconst X dX9_isWord_13 ?_
    obtain rfl := Option.some.inj hf
    exact ret _ _ (Or.inl rfl) dX9_isWord_14
def F_X9_passWord_L7 (n : Nat) (t_size : Int) (t_letters : Nat → Int) (v7_2 : Int) (t_place_l7 : Int) : Option ((Int × Int) ⊕ (Int)) :=
  ck (r4 v7_2) <|
  if v7_2 < 120 then
    (F_X9_letterAt n t_size t_letters t_place_l7).bind fun o3 =>
    (F_X9_isSmall n o3).bind fun o4 =>
    ck (r4 o4) <|
    if o4 = 0 then
      some (.inr t_place_l7)
    else
      some (.inl (v7_2 + 1, t_place_l7 + 1))
  else
    some (.inr t_place_l7)
def F_X9_passWord (n : Nat)  (t_size : Int) (t_place : Int) (t_letters : Nat → Int)  : Option (Int × Int) :=
  (lp_ (fun (q : Int × Int) => F_X9_passWord_L7 n t_size t_letters q.1 q.2) n (0, t_place)).bind fun o1 =>
  (F_X9_isWord n 0 t_size o1 t_letters t_place).bind fun o6 =>
  ck (r4 o6) <|
  if o6 = 0 then
    (F_X9_isWord n 1 t_size o1 t_letters t_place).bind fun o8 =>
    ck (r4 o8) <|
    if o8 = 0 then
      (F_X9_isWord n 2 t_size o1 t_letters t_place).bind fun o10 =>
      Option.bind (α := Int) (
        ck (r4 o10) <|
        if o10 = 0 then
          some 6
        else
          some 3) fun o11 =>
      some (o11, o1)
    else
      some (2, o1)
  else
    some (1, o1)
def rm_X9_passWord : Room := { frames := 5, cells := 0, slots := 0, locals := 134 }
set_option maxHeartbeats 4000000 in
set_option maxRecDepth 100000 in
theorem k_X9_passWord {l : Launch} {D : va_G} {E : Nat → ClassId} {B : Nat} {Z : ZT} (n : Nat) (a_t a_t_letters a_t_kinds a_t_starts a_t_values : Nat) (t_size : Int) (t_place : Int) (t_tokens : Int) (t_letters : Nat → Int) (res : Int × Int) (hf : F_X9_passWord n t_size t_place t_letters = some res) : MWs l yX9_passWord (.code yX9_passWord cX9_passWord 3 (some .int)) rm_X9_passWord D E B Z [.ref a_t] [(a_t, .inr (9, [.ref a_t_letters, .int (z4 t_size), .int (z4 t_place), .int (z4 t_tokens), .ref a_t_kinds, .ref a_t_starts, .ref a_t_values])), (a_t_letters, .inl (E 0, 120, .inl (A4 t_letters)))] (some (.int (z4 res.1))) [(a_t, .inr (9, [.ref a_t_letters, .int (z4 t_size), .int (z4 res.2), .int (z4 t_tokens), .ref a_t_kinds, .ref a_t_starts, .ref a_t_values])), (a_t_letters, .inl (E 0, 120, .inl (A4 t_letters)))] := by
  refine MWis (by decide +kernel) (Nat.le_of_ble_eq_true rfl) ?_
  intro p e s m args below meth c A Q X hK hF hP hD hA hAB ret ls hl
  have hS : va_S A s.heap s.heap [] := va_S.rf
  have hx := X.1
  have hb := X.2.1
  have hl : lv_has ls 3 [(0, .ref a_t)] := hl
  unfold F_X9_passWord at hf
  refine lv_aload_n hx hb dX9_passWord_0 rfl (lv_at hl 0 rfl) ?_
  refine m_get X hK hP cl_X9 iT_X9 2 (by decide) fl_X9_32 0 rfl rfl dX9_passWord_1 ?_
  refine lv_istore_n (lv' := [(1, .int (z4 t_place)), (0, .ref a_t)]) hx hb dX9_passWord_4 rfl hl (by decide) rfl (fun ls hl => ?_)
  refine m_iconst X dX9_passWord_5 ?_
  refine lv_istore_n (lv' := [(2, .int (z4 0)), (1, .int (z4 t_place)), (0, .ref a_t)]) hx hb dX9_passWord_6 rfl hl (by decide) rfl (fun ls hl => ?_)
  obtain ⟨o1, hj1, hr1⟩ := bd_some hf
  have E1_0 : ∀ (o_ : Int), o1 = o_ → ∀ (H : Heap) (locs : List Loc) (ls : Array Slot), lv_has ls 3 [(0, .ref a_t), (1, .int (z4 t_place))] → va_P D vwCl [(a_t, .inr (9, [.ref a_t_letters, .int (z4 t_size), .int (z4 o_), .int (z4 t_tokens), .ref a_t_kinds, .ref a_t_starts, .ref a_t_values])), (a_t_letters, .inl (E 0, 120, .inl (A4 t_letters)))] H → va_D A [(a_t, .inr (9, [.ref a_t_letters, .int (z4 t_size), .int (z4 o_), .int (z4 t_tokens), .ref a_t_kinds, .ref a_t_starts, .ref a_t_values])), (a_t_letters, .inl (E 0, 120, .inl (A4 t_letters)))] → va_S A s.heap H locs → W p l e rm_X9_passWord s m args below meth c H locs 0 0 Q (F0 m 43 ls []) := by
    intro o_ ho_ H locs ls hl hP hD hS
    subst ho_
    refine lv_aload_n hx hb dX9_passWord_43 rfl (lv_at hl 0 rfl) ?_
    refine lv_iload_n hx hb dX9_passWord_44 rfl (lv_at hl 1 rfl) ?_
    refine va_ldcS hx hb X.2.2.2.1 hF.2.2.2.2.2.1 dX9_passWord_45 ?_
    obtain ⟨o6, ho, hr1⟩ := bd_some hr1
    refine m_cVRs X hK hF hAB hS (k_X9_isWord n a_t a_t_letters a_t_kinds a_t_starts a_t_values 0 (by decide) t_size o1 t_tokens t_letters t_place o6 ho) (hP.sub [0, 1] rfl) (va_recv hK.1 hP cl_X9 (q0 := 0) rfl) lk_X9_61 co_X9_isWord dy_X9_isWord rfl rfl ⟨Nat.le_of_ble_eq_true rfl, Nat.le_of_ble_eq_true rfl⟩ hl.1 rfl (Nat.le_of_ble_eq_true rfl) dX9_passWord_47 (Nat.zero_le _) (Nat.zero_le _) ?_
    obtain ⟨h7, hr1⟩ := ck_some hr1
    refine m_if_eq X h7 dX9_passWord_50 (tgt := 55) (by decide) (fun (hc_ : o6 = 0) => ?_) (fun (hc_ : ¬ (o6 = 0)) => ?_)
    · rw [if_pos hc_] at hr1
      refine lv_aload_n hx hb dX9_passWord_55 rfl (lv_at hl 0 rfl) ?_
      refine lv_iload_n hx hb dX9_passWord_56 rfl (lv_at hl 1 rfl) ?_
      refine va_ldcS hx hb X.2.2.2.1 hF.2.2.2.2.2.2.1 dX9_passWord_57 ?_
      obtain ⟨o8, ho, hr1⟩ := bd_some hr1
      refine m_cVRs X hK hF hAB hS (k_X9_isWord n a_t a_t_letters a_t_kinds a_t_starts a_t_values 1 (by decide) t_size o1 t_tokens t_letters t_place o8 ho) (hP.sub [0, 1] rfl) (va_recv hK.1 hP cl_X9 (q0 := 0) rfl) lk_X9_61 co_X9_isWord dy_X9_isWord rfl rfl ⟨Nat.le_of_ble_eq_true rfl, Nat.le_of_ble_eq_true rfl⟩ hl.1 rfl (Nat.le_of_ble_eq_true rfl) dX9_passWord_59 (Nat.zero_le _) (Nat.zero_le _) ?_
      obtain ⟨h9, hr1⟩ := ck_some hr1
      refine m_if_eq X h9 dX9_passWord_62 (tgt := 67) (by decide) (fun (hc_ : o8 = 0) => ?_) (fun (hc_ : ¬ (o8 = 0)) => ?_)
      · rw [if_pos hc_] at hr1
        refine lv_aload_n hx hb dX9_passWord_67 rfl (lv_at hl 0 rfl) ?_
        refine lv_iload_n hx hb dX9_passWord_68 rfl (lv_at hl 1 rfl) ?_
        refine va_ldcS hx hb X.2.2.2.1 hF.2.2.2.2.2.2.2.1 dX9_passWord_69 ?_
        obtain ⟨o10, ho, hr1⟩ := bd_some hr1
        refine m_cVRs X hK hF hAB hS (k_X9_isWord n a_t a_t_letters a_t_kinds a_t_starts a_t_values 2 (by decide) t_size o1 t_tokens t_letters t_place o10 ho) (hP.sub [0, 1] rfl) (va_recv hK.1 hP cl_X9 (q0 := 0) rfl) lk_X9_61 co_X9_isWord dy_X9_isWord rfl rfl ⟨Nat.le_of_ble_eq_true rfl, Nat.le_of_ble_eq_true rfl⟩ hl.1 rfl (Nat.le_of_ble_eq_true rfl) dX9_passWord_71 (Nat.zero_le _) (Nat.zero_le _) ?_
        obtain ⟨o11, hj11, hr11⟩ := bd_some hr1
        have J11 : ∀ (o_ : Int), o11 = o_ → ∀ (H : Heap) (locs : List Loc) (ls : Array Slot), lv_has ls 3 [] → va_P D vwCl [(a_t, .inr (9, [.ref a_t_letters, .int (z4 t_size), .int (z4 o1), .int (z4 t_tokens), .ref a_t_kinds, .ref a_t_starts, .ref a_t_values])), (a_t_letters, .inl (E 0, 120, .inl (A4 t_letters)))] H → va_D A [(a_t, .inr (9, [.ref a_t_letters, .int (z4 t_size), .int (z4 o1), .int (z4 t_tokens), .ref a_t_kinds, .ref a_t_starts, .ref a_t_values])), (a_t_letters, .inl (E 0, 120, .inl (A4 t_letters)))] → va_S A s.heap H locs → W p l e rm_X9_passWord s m args below meth c H locs 0 0 Q (F0 m 83 ls [.int (z4 o_)]) := by
          intro o_ ho_ H locs ls hl hP hD hS
          subst ho_
          obtain rfl := Option.some.inj hr11
          exact ret _ _ _ _ hP hD hS dX9_passWord_83
        obtain ⟨h12, hj11⟩ := ck_some hj11
        refine m_if_eq X h12 dX9_passWord_74 (tgt := 81) (by decide) (fun (hc_ : o10 = 0) => ?_) (fun (hc_ : ¬ (o10 = 0)) => ?_)
        · rw [if_pos hc_] at hj11
          refine m_bipush X dX9_passWord_81 (by decide) ?_
          exact J11 _ (Option.some.inj hj11).symm _ _ _ (lv_sub hl [] rfl) hP hD hS
        · rw [if_neg hc_] at hj11
          refine m_iconst X dX9_passWord_77 ?_
          refine lv_goto (tgt := 83) hx hb dX9_passWord_78 (by decide) ?_
          exact J11 _ (Option.some.inj hj11).symm _ _ _ (lv_sub hl [] rfl) hP hD hS
      · rw [if_neg hc_] at hr1
        refine m_iconst X dX9_passWord_65 ?_
        obtain rfl := Option.some.inj hr1
        exact ret _ _ _ _ hP hD hS dX9_passWord_66
    · rw [if_neg hc_] at hr1
      refine m_iconst X dX9_passWord_53 ?_
      obtain rfl := Option.some.inj hr1
      exact ret _ _ _ _ hP hD hS dX9_passWord_54
  have L1 : ∀ (k_ : Nat) (v7_2 : Int) (t_place_l7 : Int), ∀ (H : Heap) (locs : List Loc) (ls : Array Slot), lv_has ls 3 [(0, .ref a_t), (1, .int (z4 t_place)), (2, .int (z4 v7_2))] → va_P D vwCl [(a_t, .inr (9, [.ref a_t_letters, .int (z4 t_size), .int (z4 t_place_l7), .int (z4 t_tokens), .ref a_t_kinds, .ref a_t_starts, .ref a_t_values])), (a_t_letters, .inl (E 0, 120, .inl (A4 t_letters)))] H → va_D A [(a_t, .inr (9, [.ref a_t_letters, .int (z4 t_size), .int (z4 t_place_l7), .int (z4 t_tokens), .ref a_t_kinds, .ref a_t_starts, .ref a_t_values])), (a_t_letters, .inl (E 0, 120, .inl (A4 t_letters)))] → va_S A s.heap H locs → lp_ (fun (q : Int × Int) => F_X9_passWord_L7 n t_size t_letters q.1 q.2) k_ (v7_2, t_place_l7) = some o1 → W p l e rm_X9_passWord s m args below meth c H locs 0 0 Q (F0 m 7 ls []) := by
    intro k_
    induction k_ with
    | zero =>
      intro v7_2 t_place_l7 H locs ls hl hP hD hS hq_; exact (lp_zero hq_).elim
    | succ k_ ih1 =>
      intro v7_2 t_place_l7 H locs ls hl hP hD hS hq_
      obtain ⟨t_1, hb1, hq1⟩ := lp_some hq_
      replace hb1 : F_X9_passWord_L7 n t_size t_letters v7_2 t_place_l7 = some t_1 := hb1
      unfold F_X9_passWord_L7 at hb1
      refine lv_iload_n hx hb dX9_passWord_7 rfl (lv_at hl 2 rfl) ?_
      refine m_bipush X dX9_passWord_8 (by decide) ?_
      obtain ⟨h2, hb1⟩ := ck_some hb1
      refine m_icmp_ge X ⟨h2, ⟨by decide, by decide⟩⟩ dX9_passWord_10 (tgt := 43) (by decide) (fun (hc_ : ¬ (v7_2 < 120)) => ?_) (fun (hc_ : v7_2 < 120) => ?_)
      · rw [if_neg hc_] at hb1
        obtain rfl := Option.some.inj hb1
        exact E1_0 _ (Option.some.inj hq1).symm _ _ _ (lv_sub hl [0, 1] rfl) hP hD hS
      · rw [if_pos hc_] at hb1
        refine lv_aload_n hx hb dX9_passWord_13 rfl (lv_at hl 0 rfl) ?_
        refine lv_aload_n hx hb dX9_passWord_14 rfl (lv_at hl 0 rfl) ?_
        refine m_get X hK hP cl_X9 iT_X9 2 (by decide) fl_X9_32 0 rfl rfl dX9_passWord_15 ?_
        obtain ⟨o3, ho, hb1⟩ := bd_some hb1
        refine m_cVR X hK (k_X9_letterAt n a_t a_t_letters a_t_kinds a_t_starts a_t_values t_size t_place_l7 t_tokens t_letters t_place_l7 o3 ho) (hP.sub [0, 1] rfl) rfl cl_X9 lk_X9_38 co_X9_letterAt dy_X9_letterAt rfl rfl ⟨Nat.le_of_ble_eq_true rfl, Nat.le_of_ble_eq_true rfl⟩ hl.1 rfl (Nat.le_of_ble_eq_true rfl) dX9_passWord_18 (Nat.zero_le _) (Nat.zero_le _) ?_
        obtain ⟨o4, ho, hb1⟩ := bd_some hb1
        refine m_cSR X hK (k_X9_isSmall n o3 o4 ho) (hP.sub (ws' := []) [] rfl) lk_X9_46 co_X9_isSmall dy_X9_isSmall rfl rfl ⟨Nat.le_of_ble_eq_true rfl, Nat.le_of_ble_eq_true rfl⟩ hl.1 rfl (Nat.le_of_ble_eq_true rfl) dX9_passWord_21 (Nat.zero_le _) (Nat.zero_le _) ?_
        obtain ⟨h5, hb1⟩ := ck_some hb1
        refine m_if_eq X h5 dX9_passWord_24 (tgt := 43) (by decide) (fun (hc_ : o4 = 0) => ?_) (fun (hc_ : ¬ (o4 = 0)) => ?_)
        · rw [if_pos hc_] at hb1
          obtain rfl := Option.some.inj hb1
          exact E1_0 _ (Option.some.inj hq1).symm _ _ _ (lv_sub hl [0, 1] rfl) hP hD hS
        · rw [if_neg hc_] at hb1
          refine lv_aload_n hx hb dX9_passWord_27 rfl (lv_at hl 0 rfl) ?_
          refine lv_dup hx hb dX9_passWord_28 rfl ?_
          refine m_get X hK hP cl_X9 iT_X9 2 (by decide) fl_X9_32 0 rfl rfl dX9_passWord_29 ?_
          refine m_iconst X dX9_passWord_32 ?_
          refine m_iadd X dX9_passWord_33 ?_
          refine m_put X hK hP hD hS cl_X9 iT_X9 tyX9 tyX9_ok nmX9 2 (by decide) fl_X9_32 rfl 0 rfl rfl rfl (Nat.le_of_ble_eq_true rfl) [(a_t, .inr (9, [.ref a_t_letters, .int (z4 t_size), .int (z4 (t_place_l7 + 1)), .int (z4 t_tokens), .ref a_t_kinds, .ref a_t_starts, .ref a_t_values])), (a_t_letters, .inl (E 0, 120, .inl (A4 t_letters)))] rfl dX9_passWord_34 (fun H locs hP hD hS => ?_)
          refine m_iinc X 2 [(2, .int (z4 (v7_2 + 1))), (0, .ref a_t), (1, .int (z4 t_place))] dX9_passWord_37 hl rfl (by decide) rfl (fun ls hl => ?_)
          refine lv_goto (tgt := 7) hx hb dX9_passWord_40 (by decide) ?_
          obtain rfl := Option.some.inj hb1
          exact ih1 _ _ _ _ _ (lv_sub hl [1, 2, 0] rfl) hP hD hS hq1
  exact L1 n _ _ _ _ _ (lv_sub hl [2, 1, 0] rfl) hP hD hS hj1
def F_X9_cutToken (n : Nat)  (t_size : Int) (t_place : Int) (t_letters : Nat → Int) (t_starts : Nat → Int) (t_values : Nat → Int) (t_kinds : Nat → Int) (x1 : Int) : Option (Int × (Nat → Int) × (Nat → Int) × (Nat → Int)) :=
  (F_X9_letterAt n t_size t_letters t_place).bind fun o1 =>
  ck (ix_ x1 120) <|
  ck (ix_ x1 120) <|
  (F_X9_isSmall n o1).bind fun o4 =>
  Option.bind (α := Int × (Nat → Int) × (Nat → Int)) (
    ck (r4 o4) <|
    if o4 = 0 then
      (F_X9_isFigure n o1).bind fun o7 =>
      ck (r4 o7) <|
      if o7 = 0 then
        Option.bind (α := Int) (
          ck (r4 o1) <|
          if o1 = 59 then
            some 5
          else
            some 6) fun o9 =>
        ck (ix_ x1 120) <|
        some (t_place + 1, up_ t_values (x1).toNat 0, up_ t_kinds (x1).toNat o9)
      else
        (F_X9_passNumber n t_size t_place t_letters).bind fun o12 =>
        ck (ix_ x1 120) <|
        ck (ix_ x1 120) <|
        Option.bind (α := Int) (
          ck (r4 ((up_ (up_ t_values (x1).toNat 0) (x1).toNat o12.1) (x1).toNat)) <|
          if (up_ (up_ t_values (x1).toNat 0) (x1).toNat o12.1) (x1).toNat < 100 then
            some 4
          else
            some 6) fun o15 =>
        ck (ix_ x1 120) <|
        some (o12.2, up_ (up_ t_values (x1).toNat 0) (x1).toNat o12.1, up_ t_kinds (x1).toNat o15)
    else
      (F_X9_passWord n t_size t_place t_letters).bind fun o18 =>
      ck (ix_ x1 120) <|
      some (o18.2, up_ t_values (x1).toNat 0, up_ t_kinds (x1).toNat o18.1)) fun o5 =>
  some (o5.1, up_ t_starts (x1).toNat t_place, o5.2.1, o5.2.2)
def rm_X9_cutToken : Room := { frames := 6, cells := 0, slots := 0, locals := 156 }
set_option maxHeartbeats 4000000 in
set_option maxRecDepth 100000 in
theorem k_X9_cutToken {l : Launch} {D : va_G} {E : Nat → ClassId} {B : Nat} {Z : ZT} (n : Nat) (a_t a_t_letters a_t_kinds a_t_starts a_t_values : Nat) (t_size : Int) (t_place : Int) (t_tokens : Int) (t_letters : Nat → Int) (t_starts : Nat → Int) (t_values : Nat → Int) (t_kinds : Nat → Int) (x1 : Int) (res : Int × (Nat → Int) × (Nat → Int) × (Nat → Int)) (hf : F_X9_cutToken n t_size t_place t_letters t_starts t_values t_kinds x1 = some res) : MWs l yX9_cutToken (.code yX9_cutToken cX9_cutToken 3 none) rm_X9_cutToken D E B Z [.ref a_t, .int (z4 x1)] [(a_t, .inr (9, [.ref a_t_letters, .int (z4 t_size), .int (z4 t_place), .int (z4 t_tokens), .ref a_t_kinds, .ref a_t_starts, .ref a_t_values])), (a_t_letters, .inl (E 0, 120, .inl (A4 t_letters))), (a_t_starts, .inl (E 0, 120, .inl (A4 t_starts))), (a_t_values, .inl (E 0, 120, .inl (A4 t_values))), (a_t_kinds, .inl (E 0, 120, .inl (A4 t_kinds)))] none [(a_t, .inr (9, [.ref a_t_letters, .int (z4 t_size), .int (z4 res.1), .int (z4 t_tokens), .ref a_t_kinds, .ref a_t_starts, .ref a_t_values])), (a_t_letters, .inl (E 0, 120, .inl (A4 t_letters))), (a_t_starts, .inl (E 0, 120, .inl (A4 res.2.1))), (a_t_values, .inl (E 0, 120, .inl (A4 res.2.2.1))), (a_t_kinds, .inl (E 0, 120, .inl (A4 res.2.2.2)))] := by
  refine MWvs (by decide +kernel) (Nat.le_of_ble_eq_true rfl) ?_
  intro p e s m args below meth c A Q X hK hF hP hD hA hAB ret ls hl
  have hS : va_S A s.heap s.heap [] := va_S.rf
  have hx := X.1
  have hb := X.2.1
  have hl : lv_has ls 3 [(0, .ref a_t), (1, .int (z4 x1))] := hl
  unfold F_X9_cutToken at hf
  refine lv_aload_n hx hb dX9_cutToken_0 rfl (lv_at hl 0 rfl) ?_
  refine lv_aload_n hx hb dX9_cutToken_1 rfl (lv_at hl 0 rfl) ?_
  refine m_get X hK hP cl_X9 iT_X9 2 (by decide) fl_X9_32 0 rfl rfl dX9_cutToken_2 ?_
  obtain ⟨o1, ho, hf⟩ := bd_some hf
  refine m_cVR X hK (k_X9_letterAt n a_t a_t_letters a_t_kinds a_t_starts a_t_values t_size t_place t_tokens t_letters t_place o1 ho) (hP.sub [0, 1] rfl) rfl cl_X9 lk_X9_38 co_X9_letterAt dy_X9_letterAt rfl rfl ⟨Nat.le_of_ble_eq_true rfl, Nat.le_of_ble_eq_true rfl⟩ hl.1 rfl (Nat.le_of_ble_eq_true rfl) dX9_cutToken_5 (Nat.zero_le _) (Nat.zero_le _) ?_
  refine lv_istore_n (lv' := [(2, .int (z4 o1)), (0, .ref a_t), (1, .int (z4 x1))]) hx hb dX9_cutToken_8 rfl hl (by decide) rfl (fun ls hl => ?_)
  refine lv_aload_n hx hb dX9_cutToken_9 rfl (lv_at hl 1 rfl) ?_
  refine m_get X hK hP cl_X9 iT_X9 5 (by decide) fl_X9_22 0 rfl rfl dX9_cutToken_10 ?_
  refine lv_iload_n hx hb dX9_cutToken_13 rfl (lv_at hl 2 rfl) ?_
  refine lv_aload_n hx hb dX9_cutToken_14 rfl (lv_at hl 1 rfl) ?_
  refine m_get X hK hP cl_X9 iT_X9 2 (by decide) fl_X9_32 0 rfl rfl dX9_cutToken_15 ?_
  obtain ⟨h2, hf⟩ := ck_some hf
  refine m_iast X hK hP hD hS 2 rfl (by decide) h2 [(a_t, .inr (9, [.ref a_t_letters, .int (z4 t_size), .int (z4 t_place), .int (z4 t_tokens), .ref a_t_kinds, .ref a_t_starts, .ref a_t_values])), (a_t_letters, .inl (E 0, 120, .inl (A4 t_letters))), (a_t_starts, .inl (E 0, 120, .inl (A4 (up_ t_starts (x1).toNat t_place)))), (a_t_values, .inl (E 0, 120, .inl (A4 t_values))), (a_t_kinds, .inl (E 0, 120, .inl (A4 t_kinds)))] rfl dX9_cutToken_18 (fun H locs hP hD hS => ?_)
  refine lv_aload_n hx hb dX9_cutToken_19 rfl (lv_at hl 1 rfl) ?_
  refine m_get X hK hP cl_X9 iT_X9 6 (by decide) fl_X9_25 0 rfl rfl dX9_cutToken_20 ?_
  refine lv_iload_n hx hb dX9_cutToken_23 rfl (lv_at hl 2 rfl) ?_
  refine m_iconst X dX9_cutToken_24 ?_
  obtain ⟨h3, hf⟩ := ck_some hf
  refine m_iast X hK hP hD hS 3 rfl (by decide) h3 [(a_t, .inr (9, [.ref a_t_letters, .int (z4 t_size), .int (z4 t_place), .int (z4 t_tokens), .ref a_t_kinds, .ref a_t_starts, .ref a_t_values])), (a_t_letters, .inl (E 0, 120, .inl (A4 t_letters))), (a_t_starts, .inl (E 0, 120, .inl (A4 (up_ t_starts (x1).toNat t_place)))), (a_t_values, .inl (E 0, 120, .inl (A4 (up_ t_values (x1).toNat 0)))), (a_t_kinds, .inl (E 0, 120, .inl (A4 t_kinds)))] rfl dX9_cutToken_25 (fun H locs hP hD hS => ?_)
  refine lv_iload_n hx hb dX9_cutToken_26 rfl (lv_at hl 0 rfl) ?_
  obtain ⟨o4, ho, hf⟩ := bd_some hf
  refine m_cSR X hK (k_X9_isSmall n o1 o4 ho) (hP.sub (ws' := []) [] rfl) lk_X9_46 co_X9_isSmall dy_X9_isSmall rfl rfl ⟨Nat.le_of_ble_eq_true rfl, Nat.le_of_ble_eq_true rfl⟩ hl.1 rfl (Nat.le_of_ble_eq_true rfl) dX9_cutToken_27 (Nat.zero_le _) (Nat.zero_le _) ?_
  obtain ⟨o5, hj5, hr5⟩ := bd_some hf
  have J5 : ∀ (o_ : Int × (Nat → Int) × (Nat → Int)), o5 = o_ → ∀ (H : Heap) (locs : List Loc) (ls : Array Slot), lv_has ls 3 [] → va_P D vwCl [(a_t, .inr (9, [.ref a_t_letters, .int (z4 t_size), .int (z4 o_.1), .int (z4 t_tokens), .ref a_t_kinds, .ref a_t_starts, .ref a_t_values])), (a_t_letters, .inl (E 0, 120, .inl (A4 t_letters))), (a_t_starts, .inl (E 0, 120, .inl (A4 (up_ t_starts (x1).toNat t_place)))), (a_t_values, .inl (E 0, 120, .inl (A4 o_.2.1))), (a_t_kinds, .inl (E 0, 120, .inl (A4 o_.2.2)))] H → va_D A [(a_t, .inr (9, [.ref a_t_letters, .int (z4 t_size), .int (z4 o_.1), .int (z4 t_tokens), .ref a_t_kinds, .ref a_t_starts, .ref a_t_values])), (a_t_letters, .inl (E 0, 120, .inl (A4 t_letters))), (a_t_starts, .inl (E 0, 120, .inl (A4 (up_ t_starts (x1).toNat t_place)))), (a_t_values, .inl (E 0, 120, .inl (A4 o_.2.1))), (a_t_kinds, .inl (E 0, 120, .inl (A4 o_.2.2)))] → va_S A s.heap H locs → W p l e rm_X9_cutToken s m args below meth c H locs 0 0 Q (F0 m 117 ls []) := by
    intro o_ ho_ H locs ls hl hP hD hS
    subst ho_
    obtain rfl := Option.some.inj hr5
    exact ret _ _ _ _ hP hD hS dX9_cutToken_117
  obtain ⟨h6, hj5⟩ := ck_some hj5
  refine m_if_eq X h6 dX9_cutToken_30 (tgt := 46) (by decide) (fun (hc_ : o4 = 0) => ?_) (fun (hc_ : ¬ (o4 = 0)) => ?_)
  · rw [if_pos hc_] at hj5
    refine lv_iload_n hx hb dX9_cutToken_46 rfl (lv_at hl 0 rfl) ?_
    obtain ⟨o7, ho, hj5⟩ := bd_some hj5
    refine m_cSR X hK (k_X9_isFigure n o1 o7 ho) (hP.sub (ws' := []) [] rfl) lk_X9_53 co_X9_isFigure dy_X9_isFigure rfl rfl ⟨Nat.le_of_ble_eq_true rfl, Nat.le_of_ble_eq_true rfl⟩ hl.1 rfl (Nat.le_of_ble_eq_true rfl) dX9_cutToken_47 (Nat.zero_le _) (Nat.zero_le _) ?_
    obtain ⟨h8, hj5⟩ := ck_some hj5
    refine m_if_eq X h8 dX9_cutToken_50 (tgt := 89) (by decide) (fun (hc_ : o7 = 0) => ?_) (fun (hc_ : ¬ (o7 = 0)) => ?_)
    · rw [if_pos hc_] at hj5
      refine lv_aload_n hx hb dX9_cutToken_89 rfl (lv_at hl 1 rfl) ?_
      refine m_get X hK hP cl_X9 iT_X9 4 (by decide) fl_X9_19 0 rfl rfl dX9_cutToken_90 ?_
      refine lv_iload_n hx hb dX9_cutToken_93 rfl (lv_at hl 2 rfl) ?_
      refine lv_iload_n hx hb dX9_cutToken_94 rfl (lv_at hl 0 rfl) ?_
      refine m_bipush X dX9_cutToken_95 (by decide) ?_
      obtain ⟨o9, hj9, hr9⟩ := bd_some hj5
      have J9 : ∀ (o_ : Int), o9 = o_ → ∀ (H : Heap) (locs : List Loc) (ls : Array Slot), lv_has ls 3 [(0, .ref a_t)] → va_P D vwCl [(a_t, .inr (9, [.ref a_t_letters, .int (z4 t_size), .int (z4 t_place), .int (z4 t_tokens), .ref a_t_kinds, .ref a_t_starts, .ref a_t_values])), (a_t_letters, .inl (E 0, 120, .inl (A4 t_letters))), (a_t_starts, .inl (E 0, 120, .inl (A4 (up_ t_starts (x1).toNat t_place)))), (a_t_values, .inl (E 0, 120, .inl (A4 (up_ t_values (x1).toNat 0)))), (a_t_kinds, .inl (E 0, 120, .inl (A4 t_kinds)))] H → va_D A [(a_t, .inr (9, [.ref a_t_letters, .int (z4 t_size), .int (z4 t_place), .int (z4 t_tokens), .ref a_t_kinds, .ref a_t_starts, .ref a_t_values])), (a_t_letters, .inl (E 0, 120, .inl (A4 t_letters))), (a_t_starts, .inl (E 0, 120, .inl (A4 (up_ t_starts (x1).toNat t_place)))), (a_t_values, .inl (E 0, 120, .inl (A4 (up_ t_values (x1).toNat 0)))), (a_t_kinds, .inl (E 0, 120, .inl (A4 t_kinds)))] → va_S A s.heap H locs → W p l e rm_X9_cutToken s m args below meth c H locs 0 0 Q (F0 m 106 ls [.int (z4 o_), .int (z4 x1), .ref a_t_kinds]) := by
        intro o_ ho_ H locs ls hl hP hD hS
        subst ho_
        obtain ⟨h11, hr9⟩ := ck_some hr9
        refine m_iast X hK hP hD hS 4 rfl (by decide) h11 [(a_t, .inr (9, [.ref a_t_letters, .int (z4 t_size), .int (z4 t_place), .int (z4 t_tokens), .ref a_t_kinds, .ref a_t_starts, .ref a_t_values])), (a_t_letters, .inl (E 0, 120, .inl (A4 t_letters))), (a_t_starts, .inl (E 0, 120, .inl (A4 (up_ t_starts (x1).toNat t_place)))), (a_t_values, .inl (E 0, 120, .inl (A4 (up_ t_values (x1).toNat 0)))), (a_t_kinds, .inl (E 0, 120, .inl (A4 (up_ t_kinds (x1).toNat o9))))] rfl dX9_cutToken_106 (fun H locs hP hD hS => ?_)
        refine lv_aload_n hx hb dX9_cutToken_107 rfl (lv_at hl 0 rfl) ?_
        refine lv_dup hx hb dX9_cutToken_108 rfl ?_
        refine m_get X hK hP cl_X9 iT_X9 2 (by decide) fl_X9_32 0 rfl rfl dX9_cutToken_109 ?_
        refine m_iconst X dX9_cutToken_112 ?_
        refine m_iadd X dX9_cutToken_113 ?_
        refine m_put X hK hP hD hS cl_X9 iT_X9 tyX9 tyX9_ok nmX9 2 (by decide) fl_X9_32 rfl 0 rfl rfl rfl (Nat.le_of_ble_eq_true rfl) [(a_t, .inr (9, [.ref a_t_letters, .int (z4 t_size), .int (z4 (t_place + 1)), .int (z4 t_tokens), .ref a_t_kinds, .ref a_t_starts, .ref a_t_values])), (a_t_letters, .inl (E 0, 120, .inl (A4 t_letters))), (a_t_starts, .inl (E 0, 120, .inl (A4 (up_ t_starts (x1).toNat t_place)))), (a_t_values, .inl (E 0, 120, .inl (A4 (up_ t_values (x1).toNat 0)))), (a_t_kinds, .inl (E 0, 120, .inl (A4 (up_ t_kinds (x1).toNat o9))))] rfl dX9_cutToken_114 (fun H locs hP hD hS => ?_)
        exact J5 _ (Option.some.inj hr9).symm _ _ _ (lv_sub hl [] rfl) hP hD hS
      obtain ⟨h10, hj9⟩ := ck_some hj9
      refine m_icmp_ne X ⟨h10, ⟨by decide, by decide⟩⟩ dX9_cutToken_97 (tgt := 104) (by decide) (fun (hc_ : ¬ (o1 = 59)) => ?_) (fun (hc_ : o1 = 59) => ?_)
      · rw [if_neg hc_] at hj9
        refine m_bipush X dX9_cutToken_104 (by decide) ?_
        exact J9 _ (Option.some.inj hj9).symm _ _ _ (lv_sub hl [1] rfl) hP hD hS
      · rw [if_pos hc_] at hj9
        refine m_iconst X dX9_cutToken_100 ?_
        refine lv_goto (tgt := 106) hx hb dX9_cutToken_101 (by decide) ?_
        exact J9 _ (Option.some.inj hj9).symm _ _ _ (lv_sub hl [1] rfl) hP hD hS
    · rw [if_neg hc_] at hj5
      refine lv_aload_n hx hb dX9_cutToken_53 rfl (lv_at hl 1 rfl) ?_
      refine m_get X hK hP cl_X9 iT_X9 6 (by decide) fl_X9_25 0 rfl rfl dX9_cutToken_54 ?_
      refine lv_iload_n hx hb dX9_cutToken_57 rfl (lv_at hl 2 rfl) ?_
      refine lv_aload_n hx hb dX9_cutToken_58 rfl (lv_at hl 1 rfl) ?_
      obtain ⟨o12, ho, hj5⟩ := bd_some hj5
      refine m_cVW X hK hP hD hS hA (wr := [(a_t_starts, .inl (E 0, 120, .inl (A4 (up_ t_starts (x1).toNat t_place)))), (a_t_values, .inl (E 0, 120, .inl (A4 (up_ t_values (x1).toNat 0)))), (a_t_kinds, .inl (E 0, 120, .inl (A4 t_kinds)))]) (k_X9_passNumber n a_t a_t_letters a_t_kinds a_t_starts a_t_values t_size t_place t_tokens t_letters o12 ho) [0, 1] [2, 3, 4] [3, 4, 0, 1, 2] [(a_t, .inr (9, [.ref a_t_letters, .int (z4 t_size), .int (z4 o12.2), .int (z4 t_tokens), .ref a_t_kinds, .ref a_t_starts, .ref a_t_values])), (a_t_letters, .inl (E 0, 120, .inl (A4 t_letters))), (a_t_starts, .inl (E 0, 120, .inl (A4 (up_ t_starts (x1).toNat t_place)))), (a_t_values, .inl (E 0, 120, .inl (A4 (up_ t_values (x1).toNat 0)))), (a_t_kinds, .inl (E 0, 120, .inl (A4 t_kinds)))] rfl rfl rfl rfl (by decide) rfl rfl rfl cl_X9 lk_X9_56 co_X9_passNumber dy_X9_passNumber rfl rfl ⟨Nat.le_of_ble_eq_true rfl, Nat.le_of_ble_eq_true rfl⟩ hl.1 rfl (Nat.le_of_ble_eq_true rfl) dX9_cutToken_59 (Nat.zero_le _) (Nat.zero_le _) (fun H locs hP hD hS => ?_)
      obtain ⟨h13, hj5⟩ := ck_some hj5
      refine m_iast X hK hP hD hS 3 rfl (by decide) h13 [(a_t, .inr (9, [.ref a_t_letters, .int (z4 t_size), .int (z4 o12.2), .int (z4 t_tokens), .ref a_t_kinds, .ref a_t_starts, .ref a_t_values])), (a_t_letters, .inl (E 0, 120, .inl (A4 t_letters))), (a_t_starts, .inl (E 0, 120, .inl (A4 (up_ t_starts (x1).toNat t_place)))), (a_t_values, .inl (E 0, 120, .inl (A4 (up_ (up_ t_values (x1).toNat 0) (x1).toNat o12.1)))), (a_t_kinds, .inl (E 0, 120, .inl (A4 t_kinds)))] rfl dX9_cutToken_62 (fun H locs hP hD hS => ?_)
      refine lv_aload_n hx hb dX9_cutToken_63 rfl (lv_at hl 1 rfl) ?_
      refine m_get X hK hP cl_X9 iT_X9 4 (by decide) fl_X9_19 0 rfl rfl dX9_cutToken_64 ?_
      refine lv_iload_n hx hb dX9_cutToken_67 rfl (lv_at hl 2 rfl) ?_
      refine lv_aload_n hx hb dX9_cutToken_68 rfl (lv_at hl 1 rfl) ?_
      refine m_get X hK hP cl_X9 iT_X9 6 (by decide) fl_X9_25 0 rfl rfl dX9_cutToken_69 ?_
      refine lv_iload_n hx hb dX9_cutToken_72 rfl (lv_at hl 2 rfl) ?_
      obtain ⟨h14, hj5⟩ := ck_some hj5
      refine m_iald X hK hP 3 rfl (by decide) h14 dX9_cutToken_73 ?_
      refine m_bipush X dX9_cutToken_74 (by decide) ?_
      obtain ⟨o15, hj15, hr15⟩ := bd_some hj5
      have J15 : ∀ (o_ : Int), o15 = o_ → ∀ (H : Heap) (locs : List Loc) (ls : Array Slot), lv_has ls 3 [] → va_P D vwCl [(a_t, .inr (9, [.ref a_t_letters, .int (z4 t_size), .int (z4 o12.2), .int (z4 t_tokens), .ref a_t_kinds, .ref a_t_starts, .ref a_t_values])), (a_t_letters, .inl (E 0, 120, .inl (A4 t_letters))), (a_t_starts, .inl (E 0, 120, .inl (A4 (up_ t_starts (x1).toNat t_place)))), (a_t_values, .inl (E 0, 120, .inl (A4 (up_ (up_ t_values (x1).toNat 0) (x1).toNat o12.1)))), (a_t_kinds, .inl (E 0, 120, .inl (A4 t_kinds)))] H → va_D A [(a_t, .inr (9, [.ref a_t_letters, .int (z4 t_size), .int (z4 o12.2), .int (z4 t_tokens), .ref a_t_kinds, .ref a_t_starts, .ref a_t_values])), (a_t_letters, .inl (E 0, 120, .inl (A4 t_letters))), (a_t_starts, .inl (E 0, 120, .inl (A4 (up_ t_starts (x1).toNat t_place)))), (a_t_values, .inl (E 0, 120, .inl (A4 (up_ (up_ t_values (x1).toNat 0) (x1).toNat o12.1)))), (a_t_kinds, .inl (E 0, 120, .inl (A4 t_kinds)))] → va_S A s.heap H locs → W p l e rm_X9_cutToken s m args below meth c H locs 0 0 Q (F0 m 85 ls [.int (z4 o_), .int (z4 x1), .ref a_t_kinds]) := by
        intro o_ ho_ H locs ls hl hP hD hS
        subst ho_
        obtain ⟨h17, hr15⟩ := ck_some hr15
        refine m_iast X hK hP hD hS 4 rfl (by decide) h17 [(a_t, .inr (9, [.ref a_t_letters, .int (z4 t_size), .int (z4 o12.2), .int (z4 t_tokens), .ref a_t_kinds, .ref a_t_starts, .ref a_t_values])), (a_t_letters, .inl (E 0, 120, .inl (A4 t_letters))), (a_t_starts, .inl (E 0, 120, .inl (A4 (up_ t_starts (x1).toNat t_place)))), (a_t_values, .inl (E 0, 120, .inl (A4 (up_ (up_ t_values (x1).toNat 0) (x1).toNat o12.1)))), (a_t_kinds, .inl (E 0, 120, .inl (A4 (up_ t_kinds (x1).toNat o15))))] rfl dX9_cutToken_85 (fun H locs hP hD hS => ?_)
        refine lv_goto (tgt := 117) hx hb dX9_cutToken_86 (by decide) ?_
        exact J5 _ (Option.some.inj hr15).symm _ _ _ (lv_sub hl [] rfl) hP hD hS
      obtain ⟨h16, hj15⟩ := ck_some hj15
      refine m_icmp_ge X ⟨h16, ⟨by decide, by decide⟩⟩ dX9_cutToken_76 (tgt := 83) (by decide) (fun (hc_ : ¬ ((up_ (up_ t_values (x1).toNat 0) (x1).toNat o12.1) (x1).toNat < 100)) => ?_) (fun (hc_ : (up_ (up_ t_values (x1).toNat 0) (x1).toNat o12.1) (x1).toNat < 100) => ?_)
      · rw [if_neg hc_] at hj15
        refine m_bipush X dX9_cutToken_83 (by decide) ?_
        exact J15 _ (Option.some.inj hj15).symm _ _ _ (lv_sub hl [] rfl) hP hD hS
      · rw [if_pos hc_] at hj15
        refine m_iconst X dX9_cutToken_79 ?_
        refine lv_goto (tgt := 85) hx hb dX9_cutToken_80 (by decide) ?_
        exact J15 _ (Option.some.inj hj15).symm _ _ _ (lv_sub hl [] rfl) hP hD hS
  · rw [if_neg hc_] at hj5
    refine lv_aload_n hx hb dX9_cutToken_33 rfl (lv_at hl 1 rfl) ?_
    refine m_get X hK hP cl_X9 iT_X9 4 (by decide) fl_X9_19 0 rfl rfl dX9_cutToken_34 ?_
    refine lv_iload_n hx hb dX9_cutToken_37 rfl (lv_at hl 2 rfl) ?_
    refine lv_aload_n hx hb dX9_cutToken_38 rfl (lv_at hl 1 rfl) ?_
    obtain ⟨o18, ho, hj5⟩ := bd_some hj5
    refine m_cVWs X hK hF hAB (hAB _ (hA _ (Nat.le_refl _))) hP hD hS hA (wr := [(a_t_starts, .inl (E 0, 120, .inl (A4 (up_ t_starts (x1).toNat t_place)))), (a_t_values, .inl (E 0, 120, .inl (A4 (up_ t_values (x1).toNat 0)))), (a_t_kinds, .inl (E 0, 120, .inl (A4 t_kinds)))]) (k_X9_passWord n a_t a_t_letters a_t_kinds a_t_starts a_t_values t_size t_place t_tokens t_letters o18 ho) [0, 1] [2, 3, 4] [3, 4, 0, 1, 2] [(a_t, .inr (9, [.ref a_t_letters, .int (z4 t_size), .int (z4 o18.2), .int (z4 t_tokens), .ref a_t_kinds, .ref a_t_starts, .ref a_t_values])), (a_t_letters, .inl (E 0, 120, .inl (A4 t_letters))), (a_t_starts, .inl (E 0, 120, .inl (A4 (up_ t_starts (x1).toNat t_place)))), (a_t_values, .inl (E 0, 120, .inl (A4 (up_ t_values (x1).toNat 0)))), (a_t_kinds, .inl (E 0, 120, .inl (A4 t_kinds)))] rfl rfl rfl rfl (by decide) rfl rfl rfl cl_X9 lk_X9_49 co_X9_passWord dy_X9_passWord rfl rfl ⟨Nat.le_of_ble_eq_true rfl, Nat.le_of_ble_eq_true rfl⟩ hl.1 rfl (Nat.le_of_ble_eq_true rfl) dX9_cutToken_39 (Nat.zero_le _) (Nat.zero_le _) (fun H locs hP hD hS => ?_)
    obtain ⟨h19, hj5⟩ := ck_some hj5
    refine m_iast X hK hP hD hS 4 rfl (by decide) h19 [(a_t, .inr (9, [.ref a_t_letters, .int (z4 t_size), .int (z4 o18.2), .int (z4 t_tokens), .ref a_t_kinds, .ref a_t_starts, .ref a_t_values])), (a_t_letters, .inl (E 0, 120, .inl (A4 t_letters))), (a_t_starts, .inl (E 0, 120, .inl (A4 (up_ t_starts (x1).toNat t_place)))), (a_t_values, .inl (E 0, 120, .inl (A4 (up_ t_values (x1).toNat 0)))), (a_t_kinds, .inl (E 0, 120, .inl (A4 (up_ t_kinds (x1).toNat o18.1))))] rfl dX9_cutToken_42 (fun H locs hP hD hS => ?_)
    refine lv_goto (tgt := 117) hx hb dX9_cutToken_43 (by decide) ?_
    exact J5 _ (Option.some.inj hj5).symm _ _ _ (lv_sub hl [] rfl) hP hD hS
def F_X9_cut_L12 (n : Nat) (t_size : Int) (t_letters : Nat → Int) (v12_1 : Int) (t_place_l12 : Int) (t_tokens_l12 : Int) (t_starts_l12 : Nat → Int) (t_values_l12 : Nat → Int) (t_kinds_l12 : Nat → Int) : Option ((Int × Int × Int × (Nat → Int) × (Nat → Int) × (Nat → Int)) ⊕ (Int × Int × (Nat → Int) × (Nat → Int) × (Nat → Int))) :=
  ck (r4 v12_1) <|
  if v12_1 < 120 then
    ck (r4 t_place_l12 ∧ r4 t_size) <|
    if t_place_l12 < t_size then
      (F_X9_letterAt n t_size t_letters t_place_l12).bind fun o4 =>
      Option.bind (α := Int × Int × (Nat → Int) × (Nat → Int) × (Nat → Int)) (
        ck (r4 o4) <|
        if o4 = 32 then
          some (t_place_l12 + 1, t_tokens_l12, t_starts_l12, t_values_l12, t_kinds_l12)
        else
          ck (r4 t_tokens_l12) <|
          if t_tokens_l12 < 120 then
            (F_X9_cutToken n t_size t_place_l12 t_letters t_starts_l12 t_values_l12 t_kinds_l12 t_tokens_l12).bind fun o8 =>
            some (o8.1, t_tokens_l12 + 1, o8.2.1, o8.2.2.1, o8.2.2.2)
          else
            some (t_place_l12, t_tokens_l12, t_starts_l12, t_values_l12, t_kinds_l12)) fun o5 =>
      some (.inl (v12_1 + 1, o5.1, o5.2.1, o5.2.2.1, o5.2.2.2.1, o5.2.2.2.2))
    else
      some (.inr (t_place_l12, t_tokens_l12, t_starts_l12, t_values_l12, t_kinds_l12))
  else
    some (.inr (t_place_l12, t_tokens_l12, t_starts_l12, t_values_l12, t_kinds_l12))
def F_X9_cut (n : Nat)  (t_size : Int) (t_letters : Nat → Int) (t_starts : Nat → Int) (t_values : Nat → Int) (t_kinds : Nat → Int)  : Option (Int × Int × (Nat → Int) × (Nat → Int) × (Nat → Int)) :=
  (lp_ (fun (q : Int × Int × Int × (Nat → Int) × (Nat → Int) × (Nat → Int)) => F_X9_cut_L12 n t_size t_letters q.1 q.2.1 q.2.2.1 q.2.2.2.1 q.2.2.2.2.1 q.2.2.2.2.2) n (0, 0, 0, t_starts, t_values, t_kinds)).bind fun o1 =>
  some (o1.1, o1.2.1, o1.2.2.1, o1.2.2.2.1, o1.2.2.2.2)
def rm_X9_cut : Room := { frames := 7, cells := 0, slots := 0, locals := 178 }
set_option maxHeartbeats 4000000 in
set_option maxRecDepth 100000 in
theorem k_X9_cut {l : Launch} {D : va_G} {E : Nat → ClassId} {B : Nat} {Z : ZT} (n : Nat) (a_t a_t_letters a_t_kinds a_t_starts a_t_values : Nat) (t_size : Int) (t_place : Int) (t_tokens : Int) (t_letters : Nat → Int) (t_starts : Nat → Int) (t_values : Nat → Int) (t_kinds : Nat → Int) (res : Int × Int × (Nat → Int) × (Nat → Int) × (Nat → Int)) (hf : F_X9_cut n t_size t_letters t_starts t_values t_kinds = some res) : MWs l yX9_cut (.code yX9_cut cX9_cut 2 none) rm_X9_cut D E B Z [.ref a_t] [(a_t, .inr (9, [.ref a_t_letters, .int (z4 t_size), .int (z4 t_place), .int (z4 t_tokens), .ref a_t_kinds, .ref a_t_starts, .ref a_t_values])), (a_t_letters, .inl (E 0, 120, .inl (A4 t_letters))), (a_t_starts, .inl (E 0, 120, .inl (A4 t_starts))), (a_t_values, .inl (E 0, 120, .inl (A4 t_values))), (a_t_kinds, .inl (E 0, 120, .inl (A4 t_kinds)))] none [(a_t, .inr (9, [.ref a_t_letters, .int (z4 t_size), .int (z4 res.1), .int (z4 res.2.1), .ref a_t_kinds, .ref a_t_starts, .ref a_t_values])), (a_t_letters, .inl (E 0, 120, .inl (A4 t_letters))), (a_t_starts, .inl (E 0, 120, .inl (A4 res.2.2.1))), (a_t_values, .inl (E 0, 120, .inl (A4 res.2.2.2.1))), (a_t_kinds, .inl (E 0, 120, .inl (A4 res.2.2.2.2)))] := by
  refine MWvs (by decide +kernel) (Nat.le_of_ble_eq_true rfl) ?_
  intro p e s m args below meth c A Q X hK hF hP hD hA hAB ret ls hl
  have hS : va_S A s.heap s.heap [] := va_S.rf
  have hx := X.1
  have hb := X.2.1
  have hl : lv_has ls 2 [(0, .ref a_t)] := hl
  unfold F_X9_cut at hf
  refine lv_aload_n hx hb dX9_cut_0 rfl (lv_at hl 0 rfl) ?_
  refine m_iconst X dX9_cut_1 ?_
  refine m_put X hK hP hD hS cl_X9 iT_X9 tyX9 tyX9_ok nmX9 2 (by decide) fl_X9_32 rfl 0 rfl rfl rfl (Nat.le_of_ble_eq_true rfl) [(a_t, .inr (9, [.ref a_t_letters, .int (z4 t_size), .int (z4 0), .int (z4 t_tokens), .ref a_t_kinds, .ref a_t_starts, .ref a_t_values])), (a_t_letters, .inl (E 0, 120, .inl (A4 t_letters))), (a_t_starts, .inl (E 0, 120, .inl (A4 t_starts))), (a_t_values, .inl (E 0, 120, .inl (A4 t_values))), (a_t_kinds, .inl (E 0, 120, .inl (A4 t_kinds)))] rfl dX9_cut_2 (fun H locs hP hD hS => ?_)
  refine lv_aload_n hx hb dX9_cut_5 rfl (lv_at hl 0 rfl) ?_
  refine m_iconst X dX9_cut_6 ?_
  refine m_put X hK hP hD hS cl_X9 iT_X9 tyX9 tyX9_ok nmX9 3 (by decide) fl_X9_35 rfl 0 rfl rfl rfl (Nat.le_of_ble_eq_true rfl) [(a_t, .inr (9, [.ref a_t_letters, .int (z4 t_size), .int (z4 0), .int (z4 0), .ref a_t_kinds, .ref a_t_starts, .ref a_t_values])), (a_t_letters, .inl (E 0, 120, .inl (A4 t_letters))), (a_t_starts, .inl (E 0, 120, .inl (A4 t_starts))), (a_t_values, .inl (E 0, 120, .inl (A4 t_values))), (a_t_kinds, .inl (E 0, 120, .inl (A4 t_kinds)))] rfl dX9_cut_7 (fun H locs hP hD hS => ?_)
  refine m_iconst X dX9_cut_10 ?_
  refine lv_istore_n (lv' := [(1, .int (z4 0)), (0, .ref a_t)]) hx hb dX9_cut_11 rfl hl (by decide) rfl (fun ls hl => ?_)
  obtain ⟨o1, hj1, hr1⟩ := bd_some hf
  have E1_0 : ∀ (o_ : Int × Int × (Nat → Int) × (Nat → Int) × (Nat → Int)), o1 = o_ → ∀ (H : Heap) (locs : List Loc) (ls : Array Slot), lv_has ls 2 [] → va_P D vwCl [(a_t, .inr (9, [.ref a_t_letters, .int (z4 t_size), .int (z4 o_.1), .int (z4 o_.2.1), .ref a_t_kinds, .ref a_t_starts, .ref a_t_values])), (a_t_letters, .inl (E 0, 120, .inl (A4 t_letters))), (a_t_starts, .inl (E 0, 120, .inl (A4 o_.2.2.1))), (a_t_values, .inl (E 0, 120, .inl (A4 o_.2.2.2.1))), (a_t_kinds, .inl (E 0, 120, .inl (A4 o_.2.2.2.2)))] H → va_D A [(a_t, .inr (9, [.ref a_t_letters, .int (z4 t_size), .int (z4 o_.1), .int (z4 o_.2.1), .ref a_t_kinds, .ref a_t_starts, .ref a_t_values])), (a_t_letters, .inl (E 0, 120, .inl (A4 t_letters))), (a_t_starts, .inl (E 0, 120, .inl (A4 o_.2.2.1))), (a_t_values, .inl (E 0, 120, .inl (A4 o_.2.2.2.1))), (a_t_kinds, .inl (E 0, 120, .inl (A4 o_.2.2.2.2)))] → va_S A s.heap H locs → W p l e rm_X9_cut s m args below meth c H locs 0 0 Q (F0 m 88 ls []) := by
    intro o_ ho_ H locs ls hl hP hD hS
    subst ho_
    obtain rfl := Option.some.inj hr1
    exact ret _ _ _ _ hP hD hS dX9_cut_88
  have L1 : ∀ (k_ : Nat) (v12_1 : Int) (t_place_l12 : Int) (t_tokens_l12 : Int) (t_starts_l12 : Nat → Int) (t_values_l12 : Nat → Int) (t_kinds_l12 : Nat → Int), ∀ (H : Heap) (locs : List Loc) (ls : Array Slot), lv_has ls 2 [(0, .ref a_t), (1, .int (z4 v12_1))] → va_P D vwCl [(a_t, .inr (9, [.ref a_t_letters, .int (z4 t_size), .int (z4 t_place_l12), .int (z4 t_tokens_l12), .ref a_t_kinds, .ref a_t_starts, .ref a_t_values])), (a_t_letters, .inl (E 0, 120, .inl (A4 t_letters))), (a_t_starts, .inl (E 0, 120, .inl (A4 t_starts_l12))), (a_t_values, .inl (E 0, 120, .inl (A4 t_values_l12))), (a_t_kinds, .inl (E 0, 120, .inl (A4 t_kinds_l12)))] H → va_D A [(a_t, .inr (9, [.ref a_t_letters, .int (z4 t_size), .int (z4 t_place_l12), .int (z4 t_tokens_l12), .ref a_t_kinds, .ref a_t_starts, .ref a_t_values])), (a_t_letters, .inl (E 0, 120, .inl (A4 t_letters))), (a_t_starts, .inl (E 0, 120, .inl (A4 t_starts_l12))), (a_t_values, .inl (E 0, 120, .inl (A4 t_values_l12))), (a_t_kinds, .inl (E 0, 120, .inl (A4 t_kinds_l12)))] → va_S A s.heap H locs → lp_ (fun (q : Int × Int × Int × (Nat → Int) × (Nat → Int) × (Nat → Int)) => F_X9_cut_L12 n t_size t_letters q.1 q.2.1 q.2.2.1 q.2.2.2.1 q.2.2.2.2.1 q.2.2.2.2.2) k_ (v12_1, t_place_l12, t_tokens_l12, t_starts_l12, t_values_l12, t_kinds_l12) = some o1 → W p l e rm_X9_cut s m args below meth c H locs 0 0 Q (F0 m 12 ls []) := by
    intro k_
    induction k_ with
    | zero =>
      intro v12_1 t_place_l12 t_tokens_l12 t_starts_l12 t_values_l12 t_kinds_l12 H locs ls hl hP hD hS hq_; exact (lp_zero hq_).elim
    | succ k_ ih1 =>
      intro v12_1 t_place_l12 t_tokens_l12 t_starts_l12 t_values_l12 t_kinds_l12 H locs ls hl hP hD hS hq_
      obtain ⟨t_1, hb1, hq1⟩ := lp_some hq_
      replace hb1 : F_X9_cut_L12 n t_size t_letters v12_1 t_place_l12 t_tokens_l12 t_starts_l12 t_values_l12 t_kinds_l12 = some t_1 := hb1
      unfold F_X9_cut_L12 at hb1
      refine lv_iload_n hx hb dX9_cut_12 rfl (lv_at hl 1 rfl) ?_
      refine m_bipush X dX9_cut_13 (by decide) ?_
      obtain ⟨h2, hb1⟩ := ck_some hb1
      refine m_icmp_ge X ⟨h2, ⟨by decide, by decide⟩⟩ dX9_cut_15 (tgt := 88) (by decide) (fun (hc_ : ¬ (v12_1 < 120)) => ?_) (fun (hc_ : v12_1 < 120) => ?_)
      · rw [if_neg hc_] at hb1
        obtain rfl := Option.some.inj hb1
        exact E1_0 _ (Option.some.inj hq1).symm _ _ _ (lv_sub hl [] rfl) hP hD hS
      · rw [if_pos hc_] at hb1
        refine lv_aload_n hx hb dX9_cut_18 rfl (lv_at hl 0 rfl) ?_
        refine m_get X hK hP cl_X9 iT_X9 2 (by decide) fl_X9_32 0 rfl rfl dX9_cut_19 ?_
        refine lv_aload_n hx hb dX9_cut_22 rfl (lv_at hl 0 rfl) ?_
        refine m_get X hK hP cl_X9 iT_X9 1 (by decide) fl_X9_15 0 rfl rfl dX9_cut_23 ?_
        obtain ⟨h3, hb1⟩ := ck_some hb1
        refine m_icmp_ge X h3 dX9_cut_26 (tgt := 88) (by decide) (fun (hc_ : ¬ (t_place_l12 < t_size)) => ?_) (fun (hc_ : t_place_l12 < t_size) => ?_)
        · rw [if_neg hc_] at hb1
          obtain rfl := Option.some.inj hb1
          exact E1_0 _ (Option.some.inj hq1).symm _ _ _ (lv_sub hl [] rfl) hP hD hS
        · rw [if_pos hc_] at hb1
          refine lv_aload_n hx hb dX9_cut_29 rfl (lv_at hl 0 rfl) ?_
          refine lv_aload_n hx hb dX9_cut_30 rfl (lv_at hl 0 rfl) ?_
          refine m_get X hK hP cl_X9 iT_X9 2 (by decide) fl_X9_32 0 rfl rfl dX9_cut_31 ?_
          obtain ⟨o4, ho, hb1⟩ := bd_some hb1
          refine m_cVR X hK (k_X9_letterAt n a_t a_t_letters a_t_kinds a_t_starts a_t_values t_size t_place_l12 t_tokens_l12 t_letters t_place_l12 o4 ho) (hP.sub [0, 1] rfl) rfl cl_X9 lk_X9_38 co_X9_letterAt dy_X9_letterAt rfl rfl ⟨Nat.le_of_ble_eq_true rfl, Nat.le_of_ble_eq_true rfl⟩ hl.1 rfl (Nat.le_of_ble_eq_true rfl) dX9_cut_34 (Nat.zero_le _) (Nat.zero_le _) ?_
          refine m_bipush X dX9_cut_37 (by decide) ?_
          obtain ⟨o5, hj5, hr5⟩ := bd_some hb1
          have J5 : ∀ (o_ : Int × Int × (Nat → Int) × (Nat → Int) × (Nat → Int)), o5 = o_ → ∀ (H : Heap) (locs : List Loc) (ls : Array Slot), lv_has ls 2 [(0, .ref a_t), (1, .int (z4 v12_1))] → va_P D vwCl [(a_t, .inr (9, [.ref a_t_letters, .int (z4 t_size), .int (z4 o_.1), .int (z4 o_.2.1), .ref a_t_kinds, .ref a_t_starts, .ref a_t_values])), (a_t_letters, .inl (E 0, 120, .inl (A4 t_letters))), (a_t_starts, .inl (E 0, 120, .inl (A4 o_.2.2.1))), (a_t_values, .inl (E 0, 120, .inl (A4 o_.2.2.2.1))), (a_t_kinds, .inl (E 0, 120, .inl (A4 o_.2.2.2.2)))] H → va_D A [(a_t, .inr (9, [.ref a_t_letters, .int (z4 t_size), .int (z4 o_.1), .int (z4 o_.2.1), .ref a_t_kinds, .ref a_t_starts, .ref a_t_values])), (a_t_letters, .inl (E 0, 120, .inl (A4 t_letters))), (a_t_starts, .inl (E 0, 120, .inl (A4 o_.2.2.1))), (a_t_values, .inl (E 0, 120, .inl (A4 o_.2.2.2.1))), (a_t_kinds, .inl (E 0, 120, .inl (A4 o_.2.2.2.2)))] → va_S A s.heap H locs → W p l e rm_X9_cut s m args below meth c H locs 0 0 Q (F0 m 82 ls []) := by
            intro o_ ho_ H locs ls hl hP hD hS
            subst ho_
            refine m_iinc X 1 [(1, .int (z4 (v12_1 + 1))), (0, .ref a_t)] dX9_cut_82 hl rfl (by decide) rfl (fun ls hl => ?_)
            refine lv_goto (tgt := 12) hx hb dX9_cut_85 (by decide) ?_
            obtain rfl := Option.some.inj hr5
            exact ih1 _ _ _ _ _ _ _ _ _ (lv_sub hl [1, 0] rfl) hP hD hS hq1
          obtain ⟨h6, hj5⟩ := ck_some hj5
          refine m_icmp_ne X ⟨h6, ⟨by decide, by decide⟩⟩ dX9_cut_39 (tgt := 55) (by decide) (fun (hc_ : ¬ (o4 = 32)) => ?_) (fun (hc_ : o4 = 32) => ?_)
          · rw [if_neg hc_] at hj5
            refine lv_aload_n hx hb dX9_cut_55 rfl (lv_at hl 0 rfl) ?_
            refine m_get X hK hP cl_X9 iT_X9 3 (by decide) fl_X9_35 0 rfl rfl dX9_cut_56 ?_
            refine m_bipush X dX9_cut_59 (by decide) ?_
            obtain ⟨h7, hj5⟩ := ck_some hj5
            refine m_icmp_ge X ⟨h7, ⟨by decide, by decide⟩⟩ dX9_cut_61 (tgt := 82) (by decide) (fun (hc_ : ¬ (t_tokens_l12 < 120)) => ?_) (fun (hc_ : t_tokens_l12 < 120) => ?_)
            · rw [if_neg hc_] at hj5
              exact J5 _ (Option.some.inj hj5).symm _ _ _ (lv_sub hl [0, 1] rfl) hP hD hS
            · rw [if_pos hc_] at hj5
              refine lv_aload_n hx hb dX9_cut_64 rfl (lv_at hl 0 rfl) ?_
              refine lv_aload_n hx hb dX9_cut_65 rfl (lv_at hl 0 rfl) ?_
              refine m_get X hK hP cl_X9 iT_X9 3 (by decide) fl_X9_35 0 rfl rfl dX9_cut_66 ?_
              obtain ⟨o8, ho, hj5⟩ := bd_some hj5
              refine m_cVWs X hK hF hAB (hAB _ (hA _ (Nat.le_refl _))) hP hD hS hA (wr := []) (k_X9_cutToken n a_t a_t_letters a_t_kinds a_t_starts a_t_values t_size t_place_l12 t_tokens_l12 t_letters t_starts_l12 t_values_l12 t_kinds_l12 t_tokens_l12 o8 ho) [0, 1, 2, 3, 4] [] [0, 1, 2, 3, 4] [(a_t, .inr (9, [.ref a_t_letters, .int (z4 t_size), .int (z4 o8.1), .int (z4 t_tokens_l12), .ref a_t_kinds, .ref a_t_starts, .ref a_t_values])), (a_t_letters, .inl (E 0, 120, .inl (A4 t_letters))), (a_t_starts, .inl (E 0, 120, .inl (A4 o8.2.1))), (a_t_values, .inl (E 0, 120, .inl (A4 o8.2.2.1))), (a_t_kinds, .inl (E 0, 120, .inl (A4 o8.2.2.2)))] rfl rfl rfl rfl (by decide) rfl rfl rfl cl_X9 lk_X9_42 co_X9_cutToken dy_X9_cutToken rfl rfl ⟨Nat.le_of_ble_eq_true rfl, Nat.le_of_ble_eq_true rfl⟩ hl.1 rfl (Nat.le_of_ble_eq_true rfl) dX9_cut_69 (Nat.zero_le _) (Nat.zero_le _) (fun H locs hP hD hS => ?_)
              refine lv_aload_n hx hb dX9_cut_72 rfl (lv_at hl 0 rfl) ?_
              refine lv_dup hx hb dX9_cut_73 rfl ?_
              refine m_get X hK hP cl_X9 iT_X9 3 (by decide) fl_X9_35 0 rfl rfl dX9_cut_74 ?_
              refine m_iconst X dX9_cut_77 ?_
              refine m_iadd X dX9_cut_78 ?_
              refine m_put X hK hP hD hS cl_X9 iT_X9 tyX9 tyX9_ok nmX9 3 (by decide) fl_X9_35 rfl 0 rfl rfl rfl (Nat.le_of_ble_eq_true rfl) [(a_t, .inr (9, [.ref a_t_letters, .int (z4 t_size), .int (z4 o8.1), .int (z4 (t_tokens_l12 + 1)), .ref a_t_kinds, .ref a_t_starts, .ref a_t_values])), (a_t_letters, .inl (E 0, 120, .inl (A4 t_letters))), (a_t_starts, .inl (E 0, 120, .inl (A4 o8.2.1))), (a_t_values, .inl (E 0, 120, .inl (A4 o8.2.2.1))), (a_t_kinds, .inl (E 0, 120, .inl (A4 o8.2.2.2)))] rfl dX9_cut_79 (fun H locs hP hD hS => ?_)
              exact J5 _ (Option.some.inj hj5).symm _ _ _ (lv_sub hl [0, 1] rfl) hP hD hS
          · rw [if_pos hc_] at hj5
            refine lv_aload_n hx hb dX9_cut_42 rfl (lv_at hl 0 rfl) ?_
            refine lv_dup hx hb dX9_cut_43 rfl ?_
            refine m_get X hK hP cl_X9 iT_X9 2 (by decide) fl_X9_32 0 rfl rfl dX9_cut_44 ?_
            refine m_iconst X dX9_cut_47 ?_
            refine m_iadd X dX9_cut_48 ?_
            refine m_put X hK hP hD hS cl_X9 iT_X9 tyX9 tyX9_ok nmX9 2 (by decide) fl_X9_32 rfl 0 rfl rfl rfl (Nat.le_of_ble_eq_true rfl) [(a_t, .inr (9, [.ref a_t_letters, .int (z4 t_size), .int (z4 (t_place_l12 + 1)), .int (z4 t_tokens_l12), .ref a_t_kinds, .ref a_t_starts, .ref a_t_values])), (a_t_letters, .inl (E 0, 120, .inl (A4 t_letters))), (a_t_starts, .inl (E 0, 120, .inl (A4 t_starts_l12))), (a_t_values, .inl (E 0, 120, .inl (A4 t_values_l12))), (a_t_kinds, .inl (E 0, 120, .inl (A4 t_kinds_l12)))] rfl dX9_cut_49 (fun H locs hP hD hS => ?_)
            refine lv_goto (tgt := 82) hx hb dX9_cut_52 (by decide) ?_
            exact J5 _ (Option.some.inj hj5).symm _ _ _ (lv_sub hl [0, 1] rfl) hP hD hS
  exact L1 n _ _ _ _ _ _ _ _ _ (lv_sub hl [1, 0] rfl) hP hD hS hj1
