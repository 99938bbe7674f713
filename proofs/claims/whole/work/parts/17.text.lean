def F_X9_add (n : Nat)  (t_size : Int) (t_letters : Nat → Int) (x1 : Int) : Option (Int × (Nat → Int)) :=
  Option.bind (α := Int × (Nat → Int)) (
    ck (r4 t_size) <|
    if t_size < 120 then
      ck (ix_ t_size 120) <|
      some (t_size + 1, up_ t_letters (t_size).toNat x1)
    else
      some (t_size, t_letters)) fun o1 =>
  some (o1.1, o1.2)
def rm_X9_add : Room := { frames := 0, cells := 0, slots := 0, locals := 0 }
set_option maxHeartbeats 4000000 in
set_option maxRecDepth 100000 in
theorem k_X9_add {l : Launch} {D : va_G} {E : Nat → ClassId} (n : Nat) (a_t a_t_letters a_t_kinds a_t_starts a_t_values : Nat) (t_size : Int) (t_place : Int) (t_tokens : Int) (t_letters : Nat → Int) (x1 : Int) (res : Int × (Nat → Int)) (hf : F_X9_add n t_size t_letters x1 = some res) : MW l yX9_add (.code yX9_add cX9_add 2 none) rm_X9_add D E [.ref a_t, .int (z4 x1)] [(a_t, .inr (9, [.ref a_t_letters, .int (z4 t_size), .int (z4 t_place), .int (z4 t_tokens), .ref a_t_kinds, .ref a_t_starts, .ref a_t_values])), (a_t_letters, .inl (E 0, 120, .inl (A4 t_letters)))] none [(a_t, .inr (9, [.ref a_t_letters, .int (z4 res.1), .int (z4 t_place), .int (z4 t_tokens), .ref a_t_kinds, .ref a_t_starts, .ref a_t_values])), (a_t_letters, .inl (E 0, 120, .inl (A4 res.2)))] := by
  refine MWv (by decide) (Nat.le_of_ble_eq_true rfl) ?_
  intro p e s m args below meth c A Q X hK hP hD hA ret ls hl
  have hS : va_S A s.heap s.heap [] := va_S.rf
  have hx := X.1
  have hb := X.2.1
  have hl : lv_has ls 2 [(0, .ref a_t), (1, .int (z4 x1))] := hl
  unfold F_X9_add at hf
  refine lv_aload_n hx hb dX9_add_0 rfl (lv_at hl 0 rfl) ?_
  refine m_get X hK hP cl_X9 iT_X9 1 (by decide) fl_X9_15 0 rfl rfl dX9_add_1 ?_
  refine m_bipush X dX9_add_4 (by decide) ?_
  obtain ⟨o1, hj1, hr1⟩ := bd_some hf
  have J1 : ∀ (o_ : Int × (Nat → Int)), o1 = o_ → ∀ (H : Heap) (locs : List Loc) (ls : Array Slot), lv_has ls 2 [] → va_P D vwCl [(a_t, .inr (9, [.ref a_t_letters, .int (z4 o_.1), .int (z4 t_place), .int (z4 t_tokens), .ref a_t_kinds, .ref a_t_starts, .ref a_t_values])), (a_t_letters, .inl (E 0, 120, .inl (A4 o_.2)))] H → va_D A [(a_t, .inr (9, [.ref a_t_letters, .int (z4 o_.1), .int (z4 t_place), .int (z4 t_tokens), .ref a_t_kinds, .ref a_t_starts, .ref a_t_values])), (a_t_letters, .inl (E 0, 120, .inl (A4 o_.2)))] → va_S A s.heap H locs → W p l e rm_X9_add s m args below meth c H locs 0 0 Q (F0 m 29 ls []) := by
    intro o_ ho_ H locs ls hl hP hD hS
    subst ho_
    obtain rfl := Option.some.inj hr1
    exact ret _ _ _ _ hP hD hS dX9_add_29
  obtain ⟨h2, hj1⟩ := ck_some hj1
  refine m_icmp_ge X ⟨h2, ⟨by decide, by decide⟩⟩ dX9_add_6 (tgt := 29) (by decide) (fun (hc_ : ¬ (t_size < 120)) => ?_) (fun (hc_ : t_size < 120) => ?_)
  · rw [if_neg hc_] at hj1
    exact J1 _ (Option.some.inj hj1).symm _ _ _ (lv_sub hl [] rfl) hP hD hS
  · rw [if_pos hc_] at hj1
    refine lv_aload_n hx hb dX9_add_9 rfl (lv_at hl 0 rfl) ?_
    refine m_get X hK hP cl_X9 iT_X9 0 (by decide) fl_X9_9 0 rfl rfl dX9_add_10 ?_
    refine lv_aload_n hx hb dX9_add_13 rfl (lv_at hl 0 rfl) ?_
    refine m_get X hK hP cl_X9 iT_X9 1 (by decide) fl_X9_15 0 rfl rfl dX9_add_14 ?_
    refine lv_iload_n hx hb dX9_add_17 rfl (lv_at hl 1 rfl) ?_
    obtain ⟨h3, hj1⟩ := ck_some hj1
    refine m_iast X hK hP hD hS 1 rfl (by decide) h3 [(a_t, .inr (9, [.ref a_t_letters, .int (z4 t_size), .int (z4 t_place), .int (z4 t_tokens), .ref a_t_kinds, .ref a_t_starts, .ref a_t_values])), (a_t_letters, .inl (E 0, 120, .inl (A4 (up_ t_letters (t_size).toNat x1))))] rfl dX9_add_18 (fun H locs hP hD hS => ?_)
    refine lv_aload_n hx hb dX9_add_19 rfl (lv_at hl 0 rfl) ?_
    refine lv_dup hx hb dX9_add_20 rfl ?_
    refine m_get X hK hP cl_X9 iT_X9 1 (by decide) fl_X9_15 0 rfl rfl dX9_add_21 ?_
    refine m_iconst X dX9_add_24 ?_
    refine m_iadd X dX9_add_25 ?_
    refine m_put X hK hP hD hS cl_X9 iT_X9 tyX9 tyX9_ok nmX9 1 (by decide) fl_X9_15 rfl 0 rfl rfl rfl (Nat.le_of_ble_eq_true rfl) [(a_t, .inr (9, [.ref a_t_letters, .int (z4 (t_size + 1)), .int (z4 t_place), .int (z4 t_tokens), .ref a_t_kinds, .ref a_t_starts, .ref a_t_values])), (a_t_letters, .inl (E 0, 120, .inl (A4 (up_ t_letters (t_size).toNat x1))))] rfl dX9_add_26 (fun H locs hP hD hS => ?_)
    exact J1 _ (Option.some.inj hj1).symm _ _ _ (lv_sub hl [] rfl) hP hD hS
def F_X9_isToken (n : Nat)  (t_tokens : Int) (x1 : Int) : Option (Int) :=
  Option.bind (α := Int) (
    ck (r4 x1) <|
    if x1 < 0 then
      some 0
    else
      ck (r4 x1 ∧ r4 t_tokens) <|
      if x1 < t_tokens then
        ck (r4 x1) <|
        if x1 < 120 then
          some 1
        else
          some 0
      else
        some 0) fun o1 =>
  ck (o1 = 0 ∨ o1 = 1) <|
  some o1
def rm_X9_isToken : Room := { frames := 0, cells := 0, slots := 0, locals := 0 }
set_option maxHeartbeats 4000000 in
set_option maxRecDepth 100000 in
theorem k_X9_isToken {l : Launch} {D : va_G} {E : Nat → ClassId} (n : Nat) (a_t a_t_letters a_t_kinds a_t_starts a_t_values : Nat) (t_size : Int) (t_place : Int) (t_tokens : Int) (x1 : Int) (res : Int) (hf : F_X9_isToken n t_tokens x1 = some res) : MR l yX9_isToken (.code yX9_isToken cX9_isToken 2 (some .boolean)) rm_X9_isToken D E [.ref a_t, .int (z4 x1)] [(a_t, .inr (9, [.ref a_t_letters, .int (z4 t_size), .int (z4 t_place), .int (z4 t_tokens), .ref a_t_kinds, .ref a_t_starts, .ref a_t_values]))] (some (.int (z4 res))) := by
  refine MRz (by decide) (Nat.le_of_ble_eq_true rfl) ?_
  intro p e s m args below meth c Q X hK hP ret ls hl
  have hx := X.1
  have hb := X.2.1
  have hl : lv_has ls 2 [(0, .ref a_t), (1, .int (z4 x1))] := hl
  unfold F_X9_isToken at hf
  refine lv_iload_n hx hb dX9_isToken_0 rfl (lv_at hl 1 rfl) ?_
  obtain ⟨o1, hj1, hr1⟩ := bd_some hf
  have J1 : ∀ (o_ : Int), o1 = o_ → ∀ (ls : Array Slot), lv_has ls 2 [] → W p l e rm_X9_isToken s m args below meth c s.heap [] 0 0 Q (F0 m 23 ls [.int (z4 o_)]) := by
    intro o_ ho_ ls hl 
    subst ho_
    obtain ⟨h5, hr1⟩ := ck_some hr1
    obtain rfl := Option.some.inj hr1
    exact ret _ _ h5 dX9_isToken_23
  obtain ⟨h2, hj1⟩ := ck_some hj1
  refine m_if_lt X h2 dX9_isToken_1 (tgt := 22) (by decide) (fun (hc_ : x1 < 0) => ?_) (fun (hc_ : ¬ (x1 < 0)) => ?_)
  · rw [if_pos hc_] at hj1
    refine m_iconst X dX9_isToken_22 ?_
    exact J1 _ (Option.some.inj hj1).symm _ (lv_sub hl [] rfl) 
  · rw [if_neg hc_] at hj1
    refine lv_iload_n hx hb dX9_isToken_4 rfl (lv_at hl 1 rfl) ?_
    refine lv_aload_n hx hb dX9_isToken_5 rfl (lv_at hl 0 rfl) ?_
    refine m_get X hK hP cl_X9 iT_X9 3 (by decide) fl_X9_35 0 rfl rfl dX9_isToken_6 ?_
    obtain ⟨h3, hj1⟩ := ck_some hj1
    refine m_icmp_ge X h3 dX9_isToken_9 (tgt := 22) (by decide) (fun (hc_ : ¬ (x1 < t_tokens)) => ?_) (fun (hc_ : x1 < t_tokens) => ?_)
    · rw [if_neg hc_] at hj1
      refine m_iconst X dX9_isToken_22 ?_
      exact J1 _ (Option.some.inj hj1).symm _ (lv_sub hl [] rfl) 
    · rw [if_pos hc_] at hj1
      refine lv_iload_n hx hb dX9_isToken_12 rfl (lv_at hl 1 rfl) ?_
      refine m_bipush X dX9_isToken_13 (by decide) ?_
      obtain ⟨h4, hj1⟩ := ck_some hj1
      refine m_icmp_ge X ⟨h4, ⟨by decide, by decide⟩⟩ dX9_isToken_15 (tgt := 22) (by decide) (fun (hc_ : ¬ (x1 < 120)) => ?_) (fun (hc_ : x1 < 120) => ?_)
      · rw [if_neg hc_] at hj1
        refine m_iconst X dX9_isToken_22 ?_
        exact J1 _ (Option.some.inj hj1).symm _ (lv_sub hl [] rfl) 
      · rw [if_pos hc_] at hj1
        refine m_iconst X dX9_isToken_18 ?_
        refine lv_goto (tgt := 23) hx hb dX9_isToken_19 (by decide) ?_
        exact J1 _ (Option.some.inj hj1).symm _ (lv_sub hl [] rfl) 
def F_X9_kindOf (n : Nat)  (t_tokens : Int) (t_kinds : Nat → Int) (x1 : Int) : Option (Int) :=
  (F_X9_isToken n t_tokens x1).bind fun o1 =>
  Option.bind (α := Int) (
    ck (r4 o1) <|
    if o1 = 0 then
      some 0
    else
      ck (ix_ x1 120) <|
      some (t_kinds (x1).toNat)) fun o2 =>
  some o2
def rm_X9_kindOf : Room := { frames := 1, cells := 0, slots := 0, locals := 21 }
set_option maxHeartbeats 4000000 in
set_option maxRecDepth 100000 in
theorem k_X9_kindOf {l : Launch} {D : va_G} {E : Nat → ClassId} (n : Nat) (a_t a_t_letters a_t_kinds a_t_starts a_t_values : Nat) (t_size : Int) (t_place : Int) (t_tokens : Int) (t_kinds : Nat → Int) (x1 : Int) (res : Int) (hf : F_X9_kindOf n t_tokens t_kinds x1 = some res) : MR l yX9_kindOf (.code yX9_kindOf cX9_kindOf 2 (some .int)) rm_X9_kindOf D E [.ref a_t, .int (z4 x1)] [(a_t, .inr (9, [.ref a_t_letters, .int (z4 t_size), .int (z4 t_place), .int (z4 t_tokens), .ref a_t_kinds, .ref a_t_starts, .ref a_t_values])), (a_t_kinds, .inl (E 0, 120, .inl (A4 t_kinds)))] (some (.int (z4 res))) := by
  refine MRi (by decide) (Nat.le_of_ble_eq_true rfl) ?_
  intro p e s m args below meth c Q X hK hP ret ls hl
  have hx := X.1
  have hb := X.2.1
  have hl : lv_has ls 2 [(0, .ref a_t), (1, .int (z4 x1))] := hl
  unfold F_X9_kindOf at hf
  refine lv_aload_n hx hb dX9_kindOf_0 rfl (lv_at hl 0 rfl) ?_
  refine lv_iload_n hx hb dX9_kindOf_1 rfl (lv_at hl 1 rfl) ?_
  obtain ⟨o1, ho, hf⟩ := bd_some hf
  refine m_cVR X hK (k_X9_isToken n a_t a_t_letters a_t_kinds a_t_starts a_t_values t_size t_place t_tokens x1 o1 ho) (hP.sub [0] rfl) rfl cl_X9 lk_X9_28 co_X9_isToken dy_X9_isToken rfl rfl ⟨Nat.le_of_ble_eq_true rfl, Nat.le_of_ble_eq_true rfl⟩ hl.1 rfl (Nat.le_of_ble_eq_true rfl) dX9_kindOf_2 (Nat.zero_le _) (Nat.zero_le _) ?_
  obtain ⟨o2, hj2, hr2⟩ := bd_some hf
  have J2 : ∀ (o_ : Int), o2 = o_ → ∀ (ls : Array Slot), lv_has ls 2 [] → W p l e rm_X9_kindOf s m args below meth c s.heap [] 0 0 Q (F0 m 18 ls [.int (z4 o_)]) := by
    intro o_ ho_ ls hl 
    subst ho_
    obtain rfl := Option.some.inj hr2
    exact ret _ _ dX9_kindOf_18
  obtain ⟨h3, hj2⟩ := ck_some hj2
  refine m_if_eq X h3 dX9_kindOf_5 (tgt := 17) (by decide) (fun (hc_ : o1 = 0) => ?_) (fun (hc_ : ¬ (o1 = 0)) => ?_)
  · rw [if_pos hc_] at hj2
    refine m_iconst X dX9_kindOf_17 ?_
    exact J2 _ (Option.some.inj hj2).symm _ (lv_sub hl [] rfl) 
  · rw [if_neg hc_] at hj2
    refine lv_aload_n hx hb dX9_kindOf_8 rfl (lv_at hl 0 rfl) ?_
    refine m_get X hK hP cl_X9 iT_X9 4 (by decide) fl_X9_19 0 rfl rfl dX9_kindOf_9 ?_
    refine lv_iload_n hx hb dX9_kindOf_12 rfl (lv_at hl 1 rfl) ?_
    obtain ⟨h4, hj2⟩ := ck_some hj2
    refine m_iald X hK hP 1 rfl (by decide) h4 dX9_kindOf_13 ?_
    refine lv_goto (tgt := 18) hx hb dX9_kindOf_14 (by decide) ?_
    exact J2 _ (Option.some.inj hj2).symm _ (lv_sub hl [] rfl) 
def F_X9_valueOf (n : Nat)  (t_tokens : Int) (t_values : Nat → Int) (x1 : Int) : Option (Int) :=
  (F_X9_isToken n t_tokens x1).bind fun o1 =>
  Option.bind (α := Int) (
    ck (r4 o1) <|
    if o1 = 0 then
      some 0
    else
      ck (ix_ x1 120) <|
      some (t_values (x1).toNat)) fun o2 =>
  some o2
def rm_X9_valueOf : Room := { frames := 1, cells := 0, slots := 0, locals := 21 }
set_option maxHeartbeats 4000000 in
set_option maxRecDepth 100000 in
theorem k_X9_valueOf {l : Launch} {D : va_G} {E : Nat → ClassId} (n : Nat) (a_t a_t_letters a_t_kinds a_t_starts a_t_values : Nat) (t_size : Int) (t_place : Int) (t_tokens : Int) (t_values : Nat → Int) (x1 : Int) (res : Int) (hf : F_X9_valueOf n t_tokens t_values x1 = some res) : MR l yX9_valueOf (.code yX9_valueOf cX9_valueOf 2 (some .int)) rm_X9_valueOf D E [.ref a_t, .int (z4 x1)] [(a_t, .inr (9, [.ref a_t_letters, .int (z4 t_size), .int (z4 t_place), .int (z4 t_tokens), .ref a_t_kinds, .ref a_t_starts, .ref a_t_values])), (a_t_values, .inl (E 0, 120, .inl (A4 t_values)))] (some (.int (z4 res))) := by
  refine MRi (by decide) (Nat.le_of_ble_eq_true rfl) ?_
  intro p e s m args below meth c Q X hK hP ret ls hl
  have hx := X.1
  have hb := X.2.1
  have hl : lv_has ls 2 [(0, .ref a_t), (1, .int (z4 x1))] := hl
  unfold F_X9_valueOf at hf
  refine lv_aload_n hx hb dX9_valueOf_0 rfl (lv_at hl 0 rfl) ?_
  refine lv_iload_n hx hb dX9_valueOf_1 rfl (lv_at hl 1 rfl) ?_
  obtain ⟨o1, ho, hf⟩ := bd_some hf
  refine m_cVR X hK (k_X9_isToken n a_t a_t_letters a_t_kinds a_t_starts a_t_values t_size t_place t_tokens x1 o1 ho) (hP.sub [0] rfl) rfl cl_X9 lk_X9_28 co_X9_isToken dy_X9_isToken rfl rfl ⟨Nat.le_of_ble_eq_true rfl, Nat.le_of_ble_eq_true rfl⟩ hl.1 rfl (Nat.le_of_ble_eq_true rfl) dX9_valueOf_2 (Nat.zero_le _) (Nat.zero_le _) ?_
  obtain ⟨o2, hj2, hr2⟩ := bd_some hf
  have J2 : ∀ (o_ : Int), o2 = o_ → ∀ (ls : Array Slot), lv_has ls 2 [] → W p l e rm_X9_valueOf s m args below meth c s.heap [] 0 0 Q (F0 m 18 ls [.int (z4 o_)]) := by
    intro o_ ho_ ls hl 
    subst ho_
    obtain rfl := Option.some.inj hr2
    exact ret _ _ dX9_valueOf_18
  obtain ⟨h3, hj2⟩ := ck_some hj2
  refine m_if_eq X h3 dX9_valueOf_5 (tgt := 17) (by decide) (fun (hc_ : o1 = 0) => ?_) (fun (hc_ : ¬ (o1 = 0)) => ?_)
  · rw [if_pos hc_] at hj2
    refine m_iconst X dX9_valueOf_17 ?_
    exact J2 _ (Option.some.inj hj2).symm _ (lv_sub hl [] rfl) 
  · rw [if_neg hc_] at hj2
    refine lv_aload_n hx hb dX9_valueOf_8 rfl (lv_at hl 0 rfl) ?_
    refine m_get X hK hP cl_X9 iT_X9 6 (by decide) fl_X9_25 0 rfl rfl dX9_valueOf_9 ?_
    refine lv_iload_n hx hb dX9_valueOf_12 rfl (lv_at hl 1 rfl) ?_
    obtain ⟨h4, hj2⟩ := ck_some hj2
    refine m_iald X hK hP 1 rfl (by decide) h4 dX9_valueOf_13 ?_
    refine lv_goto (tgt := 18) hx hb dX9_valueOf_14 (by decide) ?_
    exact J2 _ (Option.some.inj hj2).symm _ (lv_sub hl [] rfl) 
def F_X9_startOf (n : Nat)  (t_size : Int) (t_tokens : Int) (t_starts : Nat → Int) (x1 : Int) : Option (Int) :=
  (F_X9_isToken n t_tokens x1).bind fun o1 =>
  Option.bind (α := Int) (
    ck (r4 o1) <|
    if o1 = 0 then
      some t_size
    else
      ck (ix_ x1 120) <|
      some (t_starts (x1).toNat)) fun o2 =>
  some o2
def rm_X9_startOf : Room := { frames := 1, cells := 0, slots := 0, locals := 21 }
set_option maxHeartbeats 4000000 in
set_option maxRecDepth 100000 in
theorem k_X9_startOf {l : Launch} {D : va_G} {E : Nat → ClassId} (n : Nat) (a_t a_t_letters a_t_kinds a_t_starts a_t_values : Nat) (t_size : Int) (t_place : Int) (t_tokens : Int) (t_starts : Nat → Int) (x1 : Int) (res : Int) (hf : F_X9_startOf n t_size t_tokens t_starts x1 = some res) : MR l yX9_startOf (.code yX9_startOf cX9_startOf 2 (some .int)) rm_X9_startOf D E [.ref a_t, .int (z4 x1)] [(a_t, .inr (9, [.ref a_t_letters, .int (z4 t_size), .int (z4 t_place), .int (z4 t_tokens), .ref a_t_kinds, .ref a_t_starts, .ref a_t_values])), (a_t_starts, .inl (E 0, 120, .inl (A4 t_starts)))] (some (.int (z4 res))) := by
  refine MRi (by decide) (Nat.le_of_ble_eq_true rfl) ?_
  intro p e s m args below meth c Q X hK hP ret ls hl
  have hx := X.1
  have hb := X.2.1
  have hl : lv_has ls 2 [(0, .ref a_t), (1, .int (z4 x1))] := hl
  unfold F_X9_startOf at hf
  refine lv_aload_n hx hb dX9_startOf_0 rfl (lv_at hl 0 rfl) ?_
  refine lv_iload_n hx hb dX9_startOf_1 rfl (lv_at hl 1 rfl) ?_
  obtain ⟨o1, ho, hf⟩ := bd_some hf
  refine m_cVR X hK (k_X9_isToken n a_t a_t_letters a_t_kinds a_t_starts a_t_values t_size t_place t_tokens x1 o1 ho) (hP.sub [0] rfl) rfl cl_X9 lk_X9_28 co_X9_isToken dy_X9_isToken rfl rfl ⟨Nat.le_of_ble_eq_true rfl, Nat.le_of_ble_eq_true rfl⟩ hl.1 rfl (Nat.le_of_ble_eq_true rfl) dX9_startOf_2 (Nat.zero_le _) (Nat.zero_le _) ?_
  obtain ⟨o2, hj2, hr2⟩ := bd_some hf
  have J2 : ∀ (o_ : Int), o2 = o_ → ∀ (ls : Array Slot), lv_has ls 2 [] → W p l e rm_X9_startOf s m args below meth c s.heap [] 0 0 Q (F0 m 21 ls [.int (z4 o_)]) := by
    intro o_ ho_ ls hl 
    subst ho_
    obtain rfl := Option.some.inj hr2
    exact ret _ _ dX9_startOf_21
  obtain ⟨h3, hj2⟩ := ck_some hj2
  refine m_if_eq X h3 dX9_startOf_5 (tgt := 17) (by decide) (fun (hc_ : o1 = 0) => ?_) (fun (hc_ : ¬ (o1 = 0)) => ?_)
  · rw [if_pos hc_] at hj2
    refine lv_aload_n hx hb dX9_startOf_17 rfl (lv_at hl 0 rfl) ?_
    refine m_get X hK hP cl_X9 iT_X9 1 (by decide) fl_X9_15 0 rfl rfl dX9_startOf_18 ?_
    exact J2 _ (Option.some.inj hj2).symm _ (lv_sub hl [] rfl) 
  · rw [if_neg hc_] at hj2
    refine lv_aload_n hx hb dX9_startOf_8 rfl (lv_at hl 0 rfl) ?_
    refine m_get X hK hP cl_X9 iT_X9 5 (by decide) fl_X9_22 0 rfl rfl dX9_startOf_9 ?_
    refine lv_iload_n hx hb dX9_startOf_12 rfl (lv_at hl 1 rfl) ?_
    obtain ⟨h4, hj2⟩ := ck_some hj2
    refine m_iald X hK hP 1 rfl (by decide) h4 dX9_startOf_13 ?_
    refine lv_goto (tgt := 21) hx hb dX9_startOf_14 (by decide) ?_
    exact J2 _ (Option.some.inj hj2).symm _ (lv_sub hl [] rfl) 
def F_X9_letterAt (n : Nat)  (t_size : Int) (t_letters : Nat → Int) (x1 : Int) : Option (Int) :=
  Option.bind (α := Int) (
    ck (r4 x1) <|
    if x1 < 0 then
      some (-1)
    else
      ck (r4 x1 ∧ r4 t_size) <|
      if x1 < t_size then
        ck (r4 x1) <|
        if x1 < 120 then
          ck (ix_ x1 120) <|
          some (t_letters (x1).toNat)
        else
          some (-1)
      else
        some (-1)) fun o1 =>
  some o1
def rm_X9_letterAt : Room := { frames := 0, cells := 0, slots := 0, locals := 0 }
set_option maxHeartbeats 4000000 in
set_option maxRecDepth 100000 in
theorem k_X9_letterAt {l : Launch} {D : va_G} {E : Nat → ClassId} (n : Nat) (a_t a_t_letters a_t_kinds a_t_starts a_t_values : Nat) (t_size : Int) (t_place : Int) (t_tokens : Int) (t_letters : Nat → Int) (x1 : Int) (res : Int) (hf : F_X9_letterAt n t_size t_letters x1 = some res) : MR l yX9_letterAt (.code yX9_letterAt cX9_letterAt 2 (some .int)) rm_X9_letterAt D E [.ref a_t, .int (z4 x1)] [(a_t, .inr (9, [.ref a_t_letters, .int (z4 t_size), .int (z4 t_place), .int (z4 t_tokens), .ref a_t_kinds, .ref a_t_starts, .ref a_t_values])), (a_t_letters, .inl (E 0, 120, .inl (A4 t_letters)))] (some (.int (z4 res))) := by
  refine MRi (by decide) (Nat.le_of_ble_eq_true rfl) ?_
  intro p e s m args below meth c Q X hK hP ret ls hl
  have hx := X.1
  have hb := X.2.1
  have hl : lv_has ls 2 [(0, .ref a_t), (1, .int (z4 x1))] := hl
  unfold F_X9_letterAt at hf
  refine lv_iload_n hx hb dX9_letterAt_0 rfl (lv_at hl 1 rfl) ?_
  obtain ⟨o1, hj1, hr1⟩ := bd_some hf
  have J1 : ∀ (o_ : Int), o1 = o_ → ∀ (ls : Array Slot), lv_has ls 2 [] → W p l e rm_X9_letterAt s m args below meth c s.heap [] 0 0 Q (F0 m 28 ls [.int (z4 o_)]) := by
    intro o_ ho_ ls hl 
    subst ho_
    obtain rfl := Option.some.inj hr1
    exact ret _ _ dX9_letterAt_28
  obtain ⟨h2, hj1⟩ := ck_some hj1
  refine m_if_lt X h2 dX9_letterAt_1 (tgt := 27) (by decide) (fun (hc_ : x1 < 0) => ?_) (fun (hc_ : ¬ (x1 < 0)) => ?_)
  · rw [if_pos hc_] at hj1
    refine m_iconst X dX9_letterAt_27 ?_
    exact J1 _ (Option.some.inj hj1).symm _ (lv_sub hl [] rfl) 
  · rw [if_neg hc_] at hj1
    refine lv_iload_n hx hb dX9_letterAt_4 rfl (lv_at hl 1 rfl) ?_
    refine lv_aload_n hx hb dX9_letterAt_5 rfl (lv_at hl 0 rfl) ?_
    refine m_get X hK hP cl_X9 iT_X9 1 (by decide) fl_X9_15 0 rfl rfl dX9_letterAt_6 ?_
    obtain ⟨h3, hj1⟩ := ck_some hj1
    refine m_icmp_ge X h3 dX9_letterAt_9 (tgt := 27) (by decide) (fun (hc_ : ¬ (x1 < t_size)) => ?_) (fun (hc_ : x1 < t_size) => ?_)
    · rw [if_neg hc_] at hj1
      refine m_iconst X dX9_letterAt_27 ?_
      exact J1 _ (Option.some.inj hj1).symm _ (lv_sub hl [] rfl) 
    · rw [if_pos hc_] at hj1
      refine lv_iload_n hx hb dX9_letterAt_12 rfl (lv_at hl 1 rfl) ?_
      refine m_bipush X dX9_letterAt_13 (by decide) ?_
      obtain ⟨h4, hj1⟩ := ck_some hj1
      refine m_icmp_ge X ⟨h4, ⟨by decide, by decide⟩⟩ dX9_letterAt_15 (tgt := 27) (by decide) (fun (hc_ : ¬ (x1 < 120)) => ?_) (fun (hc_ : x1 < 120) => ?_)
      · rw [if_neg hc_] at hj1
        refine m_iconst X dX9_letterAt_27 ?_
        exact J1 _ (Option.some.inj hj1).symm _ (lv_sub hl [] rfl) 
      · rw [if_pos hc_] at hj1
        refine lv_aload_n hx hb dX9_letterAt_18 rfl (lv_at hl 0 rfl) ?_
        refine m_get X hK hP cl_X9 iT_X9 0 (by decide) fl_X9_9 0 rfl rfl dX9_letterAt_19 ?_
        refine lv_iload_n hx hb dX9_letterAt_22 rfl (lv_at hl 1 rfl) ?_
        obtain ⟨h5, hj1⟩ := ck_some hj1
        refine m_iald X hK hP 1 rfl (by decide) h5 dX9_letterAt_23 ?_
        refine lv_goto (tgt := 28) hx hb dX9_letterAt_24 (by decide) ?_
        exact J1 _ (Option.some.inj hj1).symm _ (lv_sub hl [] rfl) 
def F_X9_isSmall (n : Nat)   (x0 : Int) : Option (Int) :=
  Option.bind (α := Int) (
    ck (r4 x0) <|
    if x0 < 97 then
      some 0
    else
      ck (r4 x0) <|
      if 122 < x0 then
        some 0
      else
        some 1) fun o1 =>
  ck (o1 = 0 ∨ o1 = 1) <|
  some o1
def rm_X9_isSmall : Room := { frames := 0, cells := 0, slots := 0, locals := 0 }
set_option maxHeartbeats 4000000 in
set_option maxRecDepth 100000 in
theorem k_X9_isSmall {l : Launch} {D : va_G} {E : Nat → ClassId} (n : Nat) (x0 : Int) (res : Int) (hf : F_X9_isSmall n x0 = some res) : MR l yX9_isSmall (.code yX9_isSmall cX9_isSmall 1 (some .boolean)) rm_X9_isSmall D E [.int (z4 x0)] [] (some (.int (z4 res))) := by
  refine MRz (by decide) (Nat.le_of_ble_eq_true rfl) ?_
  intro p e s m args below meth c Q X hK hP ret ls hl
  have hx := X.1
  have hb := X.2.1
  have hl : lv_has ls 1 [(0, .int (z4 x0))] := hl
  unfold F_X9_isSmall at hf
  refine lv_iload_n hx hb dX9_isSmall_0 rfl (lv_at hl 0 rfl) ?_
  refine m_bipush X dX9_isSmall_1 (by decide) ?_
  obtain ⟨o1, hj1, hr1⟩ := bd_some hf
  have J1 : ∀ (o_ : Int), o1 = o_ → ∀ (ls : Array Slot), lv_has ls 1 [] → W p l e rm_X9_isSmall s m args below meth c s.heap [] 0 0 Q (F0 m 17 ls [.int (z4 o_)]) := by
    intro o_ ho_ ls hl 
    subst ho_
    obtain ⟨h4, hr1⟩ := ck_some hr1
    obtain rfl := Option.some.inj hr1
    exact ret _ _ h4 dX9_isSmall_17
  obtain ⟨h2, hj1⟩ := ck_some hj1
  refine m_icmp_lt X ⟨h2, ⟨by decide, by decide⟩⟩ dX9_isSmall_3 (tgt := 16) (by decide) (fun (hc_ : x0 < 97) => ?_) (fun (hc_ : ¬ (x0 < 97)) => ?_)
  · rw [if_pos hc_] at hj1
    refine m_iconst X dX9_isSmall_16 ?_
    exact J1 _ (Option.some.inj hj1).symm _ (lv_sub hl [] rfl) 
  · rw [if_neg hc_] at hj1
    refine lv_iload_n hx hb dX9_isSmall_6 rfl (lv_at hl 0 rfl) ?_
    refine m_bipush X dX9_isSmall_7 (by decide) ?_
    obtain ⟨h3, hj1⟩ := ck_some hj1
    refine m_icmp_gt X ⟨h3, ⟨by decide, by decide⟩⟩ dX9_isSmall_9 (tgt := 16) (by decide) (fun (hc_ : 122 < x0) => ?_) (fun (hc_ : ¬ (122 < x0)) => ?_)
    · rw [if_pos hc_] at hj1
      refine m_iconst X dX9_isSmall_16 ?_
      exact J1 _ (Option.some.inj hj1).symm _ (lv_sub hl [] rfl) 
    · rw [if_neg hc_] at hj1
      refine m_iconst X dX9_isSmall_12 ?_
      refine lv_goto (tgt := 17) hx hb dX9_isSmall_13 (by decide) ?_
      exact J1 _ (Option.some.inj hj1).symm _ (lv_sub hl [] rfl) 
def F_X9_isFigure (n : Nat)   (x0 : Int) : Option (Int) :=
  Option.bind (α := Int) (
    ck (r4 x0) <|
    if x0 < 48 then
      some 0
    else
      ck (r4 x0) <|
      if 57 < x0 then
        some 0
      else
        some 1) fun o1 =>
  ck (o1 = 0 ∨ o1 = 1) <|
  some o1
def rm_X9_isFigure : Room := { frames := 0, cells := 0, slots := 0, locals := 0 }
set_option maxHeartbeats 4000000 in
set_option maxRecDepth 100000 in
theorem k_X9_isFigure {l : Launch} {D : va_G} {E : Nat → ClassId} (n : Nat) (x0 : Int) (res : Int) (hf : F_X9_isFigure n x0 = some res) : MR l yX9_isFigure (.code yX9_isFigure cX9_isFigure 1 (some .boolean)) rm_X9_isFigure D E [.int (z4 x0)] [] (some (.int (z4 res))) := by
  refine MRz (by decide) (Nat.le_of_ble_eq_true rfl) ?_
  intro p e s m args below meth c Q X hK hP ret ls hl
  have hx := X.1
  have hb := X.2.1
  have hl : lv_has ls 1 [(0, .int (z4 x0))] := hl
  unfold F_X9_isFigure at hf
  refine lv_iload_n hx hb dX9_isFigure_0 rfl (lv_at hl 0 rfl) ?_
  refine m_bipush X dX9_isFigure_1 (by decide) ?_
  obtain ⟨o1, hj1, hr1⟩ := bd_some hf
  have J1 : ∀ (o_ : Int), o1 = o_ → ∀ (ls : Array Slot), lv_has ls 1 [] → W p l e rm_X9_isFigure s m args below meth c s.heap [] 0 0 Q (F0 m 17 ls [.int (z4 o_)]) := by
    intro o_ ho_ ls hl 
    subst ho_
    obtain ⟨h4, hr1⟩ := ck_some hr1
    obtain rfl := Option.some.inj hr1
    exact ret _ _ h4 dX9_isFigure_17
  obtain ⟨h2, hj1⟩ := ck_some hj1
  refine m_icmp_lt X ⟨h2, ⟨by decide, by decide⟩⟩ dX9_isFigure_3 (tgt := 16) (by decide) (fun (hc_ : x0 < 48) => ?_) (fun (hc_ : ¬ (x0 < 48)) => ?_)
  · rw [if_pos hc_] at hj1
    refine m_iconst X dX9_isFigure_16 ?_
    exact J1 _ (Option.some.inj hj1).symm _ (lv_sub hl [] rfl) 
  · rw [if_neg hc_] at hj1
    refine lv_iload_n hx hb dX9_isFigure_6 rfl (lv_at hl 0 rfl) ?_
    refine m_bipush X dX9_isFigure_7 (by decide) ?_
    obtain ⟨h3, hj1⟩ := ck_some hj1
    refine m_icmp_gt X ⟨h3, ⟨by decide, by decide⟩⟩ dX9_isFigure_9 (tgt := 16) (by decide) (fun (hc_ : 57 < x0) => ?_) (fun (hc_ : ¬ (57 < x0)) => ?_)
    · rw [if_pos hc_] at hj1
      refine m_iconst X dX9_isFigure_16 ?_
      exact J1 _ (Option.some.inj hj1).symm _ (lv_sub hl [] rfl) 
    · rw [if_neg hc_] at hj1
      refine m_iconst X dX9_isFigure_12 ?_
      refine lv_goto (tgt := 17) hx hb dX9_isFigure_13 (by decide) ?_
      exact J1 _ (Option.some.inj hj1).symm _ (lv_sub hl [] rfl) 
def F_X9_passNumber_L9 (n : Nat) (t_size : Int) (t_letters : Nat → Int) (v9_2 : Int) (v9_3 : Int) (t_place_l9 : Int) : Option ((Int × Int × Int) ⊕ (Int × Int)) :=
  ck (r4 v9_3) <|
  if v9_3 < 120 then
    (F_X9_letterAt n t_size t_letters t_place_l9).bind fun o3 =>
    (F_X9_isFigure n o3).bind fun o4 =>
    ck (r4 o4) <|
    if o4 = 0 then
      some (.inr (v9_2, t_place_l9))
    else
      (F_X9_letterAt n t_size t_letters t_place_l9).bind fun o6 =>
      ck (r4 (((v9_2 * 10) + o6) - 48)) <|
      some (.inl (min 100 (((v9_2 * 10) + o6) - 48), v9_3 + 1, t_place_l9 + 1))
  else
    some (.inr (v9_2, t_place_l9))
def F_X9_passNumber (n : Nat)  (t_size : Int) (t_place : Int) (t_letters : Nat → Int)  : Option (Int × Int) :=
  (lp_ (fun (q : Int × Int × Int) => F_X9_passNumber_L9 n t_size t_letters q.1 q.2.1 q.2.2) n (0, 0, t_place)).bind fun o1 =>
  (F_X9_letterAt n t_size t_letters t_place).bind fun o8 =>
  Option.bind (α := Int) (
    ck (r4 o8) <|
    if o8 = 48 then
      ck (r4 (o1.2 - t_place)) <|
      if 1 < o1.2 - t_place then
        some 1
      else
        some 0
    else
      some 0) fun o9 =>
  Option.bind (α := Int) (
    ck (r4 o9) <|
    if o9 = 0 then
      some o1.1
    else
      some 100) fun o12 =>
  some (o12, o1.2)
def rm_X9_passNumber : Room := { frames := 1, cells := 0, slots := 0, locals := 21 }
set_option maxHeartbeats 4000000 in
set_option maxRecDepth 100000 in
theorem k_X9_passNumber {l : Launch} {D : va_G} {E : Nat → ClassId} (n : Nat) (a_t a_t_letters a_t_kinds a_t_starts a_t_values : Nat) (t_size : Int) (t_place : Int) (t_tokens : Int) (t_letters : Nat → Int) (res : Int × Int) (hf : F_X9_passNumber n t_size t_place t_letters = some res) : MW l yX9_passNumber (.code yX9_passNumber cX9_passNumber 4 (some .int)) rm_X9_passNumber D E [.ref a_t] [(a_t, .inr (9, [.ref a_t_letters, .int (z4 t_size), .int (z4 t_place), .int (z4 t_tokens), .ref a_t_kinds, .ref a_t_starts, .ref a_t_values])), (a_t_letters, .inl (E 0, 120, .inl (A4 t_letters)))] (some (.int (z4 res.1))) [(a_t, .inr (9, [.ref a_t_letters, .int (z4 t_size), .int (z4 res.2), .int (z4 t_tokens), .ref a_t_kinds, .ref a_t_starts, .ref a_t_values])), (a_t_letters, .inl (E 0, 120, .inl (A4 t_letters)))] := by
  refine MWi (by decide) (Nat.le_of_ble_eq_true rfl) ?_
  intro p e s m args below meth c A Q X hK hP hD hA ret ls hl
  have hS : va_S A s.heap s.heap [] := va_S.rf
  have hx := X.1
  have hb := X.2.1
  have hl : lv_has ls 4 [(0, .ref a_t)] := hl
  unfold F_X9_passNumber at hf
  refine lv_aload_n hx hb dX9_passNumber_0 rfl (lv_at hl 0 rfl) ?_
  refine m_get X hK hP cl_X9 iT_X9 2 (by decide) fl_X9_32 0 rfl rfl dX9_passNumber_1 ?_
  refine lv_istore_n (lv' := [(1, .int (z4 t_place)), (0, .ref a_t)]) hx hb dX9_passNumber_4 rfl hl (by decide) rfl (fun ls hl => ?_)
  refine m_iconst X dX9_passNumber_5 ?_
  refine lv_istore_n (lv' := [(2, .int (z4 0)), (1, .int (z4 t_place)), (0, .ref a_t)]) hx hb dX9_passNumber_6 rfl hl (by decide) rfl (fun ls hl => ?_)
  refine m_iconst X dX9_passNumber_7 ?_
  refine lv_istore_n (lv' := [(3, .int (z4 0)), (2, .int (z4 0)), (1, .int (z4 t_place)), (0, .ref a_t)]) hx hb dX9_passNumber_8 rfl hl (by decide) rfl (fun ls hl => ?_)
  obtain ⟨o1, hj1, hr1⟩ := bd_some hf
  have E1_0 : ∀ (o_ : Int × Int), o1 = o_ → ∀ (H : Heap) (locs : List Loc) (ls : Array Slot), lv_has ls 4 [(0, .ref a_t), (1, .int (z4 t_place)), (2, .int (z4 o_.1))] → va_P D vwCl [(a_t, .inr (9, [.ref a_t_letters, .int (z4 t_size), .int (z4 o_.2), .int (z4 t_tokens), .ref a_t_kinds, .ref a_t_starts, .ref a_t_values])), (a_t_letters, .inl (E 0, 120, .inl (A4 t_letters)))] H → va_D A [(a_t, .inr (9, [.ref a_t_letters, .int (z4 t_size), .int (z4 o_.2), .int (z4 t_tokens), .ref a_t_kinds, .ref a_t_starts, .ref a_t_values])), (a_t_letters, .inl (E 0, 120, .inl (A4 t_letters)))] → va_S A s.heap H locs → W p l e rm_X9_passNumber s m args below meth c H locs 0 0 Q (F0 m 67 ls []) := by
    intro o_ ho_ H locs ls hl hP hD hS
    subst ho_
    refine lv_aload_n hx hb dX9_passNumber_67 rfl (lv_at hl 0 rfl) ?_
    refine lv_iload_n hx hb dX9_passNumber_68 rfl (lv_at hl 1 rfl) ?_
    obtain ⟨o8, ho, hr1⟩ := bd_some hr1
    refine m_cVR X hK (k_X9_letterAt n a_t a_t_letters a_t_kinds a_t_starts a_t_values t_size o1.2 t_tokens t_letters t_place o8 ho) (hP.sub [0, 1] rfl) rfl cl_X9 lk_X9_38 co_X9_letterAt dy_X9_letterAt rfl rfl ⟨Nat.le_of_ble_eq_true rfl, Nat.le_of_ble_eq_true rfl⟩ hl.1 rfl (Nat.le_of_ble_eq_true rfl) dX9_passNumber_69 (Nat.zero_le _) (Nat.zero_le _) ?_
    refine m_bipush X dX9_passNumber_72 (by decide) ?_
    obtain ⟨o9, hj9, hr9⟩ := bd_some hr1
    have J9 : ∀ (o_ : Int), o9 = o_ → ∀ (H : Heap) (locs : List Loc) (ls : Array Slot), lv_has ls 4 [(2, .int (z4 o1.1))] → va_P D vwCl [(a_t, .inr (9, [.ref a_t_letters, .int (z4 t_size), .int (z4 o1.2), .int (z4 t_tokens), .ref a_t_kinds, .ref a_t_starts, .ref a_t_values])), (a_t_letters, .inl (E 0, 120, .inl (A4 t_letters)))] H → va_D A [(a_t, .inr (9, [.ref a_t_letters, .int (z4 t_size), .int (z4 o1.2), .int (z4 t_tokens), .ref a_t_kinds, .ref a_t_starts, .ref a_t_values])), (a_t_letters, .inl (E 0, 120, .inl (A4 t_letters)))] → va_S A s.heap H locs → W p l e rm_X9_passNumber s m args below meth c H locs 0 0 Q (F0 m 92 ls [.int (z4 o_)]) := by
      intro o_ ho_ H locs ls hl hP hD hS
      subst ho_
      refine lv_istore_n (lv' := [(3, .int (z4 o9)), (2, .int (z4 o1.1))]) hx hb dX9_passNumber_92 rfl hl (by decide) rfl (fun ls hl => ?_)
      refine lv_iload_n hx hb dX9_passNumber_93 rfl (lv_at hl 0 rfl) ?_
      obtain ⟨o12, hj12, hr12⟩ := bd_some hr9
      have J12 : ∀ (o_ : Int), o12 = o_ → ∀ (H : Heap) (locs : List Loc) (ls : Array Slot), lv_has ls 4 [] → va_P D vwCl [(a_t, .inr (9, [.ref a_t_letters, .int (z4 t_size), .int (z4 o1.2), .int (z4 t_tokens), .ref a_t_kinds, .ref a_t_starts, .ref a_t_values])), (a_t_letters, .inl (E 0, 120, .inl (A4 t_letters)))] H → va_D A [(a_t, .inr (9, [.ref a_t_letters, .int (z4 t_size), .int (z4 o1.2), .int (z4 t_tokens), .ref a_t_kinds, .ref a_t_starts, .ref a_t_values])), (a_t_letters, .inl (E 0, 120, .inl (A4 t_letters)))] → va_S A s.heap H locs → W p l e rm_X9_passNumber s m args below meth c H locs 0 0 Q (F0 m 103 ls [.int (z4 o_)]) := by
        intro o_ ho_ H locs ls hl hP hD hS
        subst ho_
        obtain rfl := Option.some.inj hr12
        exact ret _ _ _ _ hP hD hS dX9_passNumber_103
      obtain ⟨h13, hj12⟩ := ck_some hj12
      refine m_if_eq X h13 dX9_passNumber_94 (tgt := 102) (by decide) (fun (hc_ : o9 = 0) => ?_) (fun (hc_ : ¬ (o9 = 0)) => ?_)
      · rw [if_pos hc_] at hj12
        refine lv_iload_n hx hb dX9_passNumber_102 rfl (lv_at hl 1 rfl) ?_
        exact J12 _ (Option.some.inj hj12).symm _ _ _ (lv_sub hl [] rfl) hP hD hS
      · rw [if_neg hc_] at hj12
        refine m_bipush X dX9_passNumber_97 (by decide) ?_
        refine lv_goto (tgt := 103) hx hb dX9_passNumber_99 (by decide) ?_
        exact J12 _ (Option.some.inj hj12).symm _ _ _ (lv_sub hl [] rfl) hP hD hS
    obtain ⟨h10, hj9⟩ := ck_some hj9
    refine m_icmp_ne X ⟨h10, ⟨by decide, by decide⟩⟩ dX9_passNumber_74 (tgt := 91) (by decide) (fun (hc_ : ¬ (o8 = 48)) => ?_) (fun (hc_ : o8 = 48) => ?_)
    · rw [if_neg hc_] at hj9
      refine m_iconst X dX9_passNumber_91 ?_
      exact J9 _ (Option.some.inj hj9).symm _ _ _ (lv_sub hl [2] rfl) hP hD hS
    · rw [if_pos hc_] at hj9
      refine lv_aload_n hx hb dX9_passNumber_77 rfl (lv_at hl 0 rfl) ?_
      refine m_get X hK hP cl_X9 iT_X9 2 (by decide) fl_X9_32 0 rfl rfl dX9_passNumber_78 ?_
      refine lv_iload_n hx hb dX9_passNumber_81 rfl (lv_at hl 1 rfl) ?_
      refine m_isub X dX9_passNumber_82 ?_
      refine m_iconst X dX9_passNumber_83 ?_
      obtain ⟨h11, hj9⟩ := ck_some hj9
      refine m_icmp_le X ⟨h11, ⟨by decide, by decide⟩⟩ dX9_passNumber_84 (tgt := 91) (by decide) (fun (hc_ : ¬ (1 < o1.2 - t_place)) => ?_) (fun (hc_ : 1 < o1.2 - t_place) => ?_)
      · rw [if_neg hc_] at hj9
        refine m_iconst X dX9_passNumber_91 ?_
        exact J9 _ (Option.some.inj hj9).symm _ _ _ (lv_sub hl [2] rfl) hP hD hS
      · rw [if_pos hc_] at hj9
        refine m_iconst X dX9_passNumber_87 ?_
        refine lv_goto (tgt := 92) hx hb dX9_passNumber_88 (by decide) ?_
        exact J9 _ (Option.some.inj hj9).symm _ _ _ (lv_sub hl [2] rfl) hP hD hS
  have L1 : ∀ (k_ : Nat) (v9_2 : Int) (v9_3 : Int) (t_place_l9 : Int), ∀ (H : Heap) (locs : List Loc) (ls : Array Slot), lv_has ls 4 [(0, .ref a_t), (1, .int (z4 t_place)), (2, .int (z4 v9_2)), (3, .int (z4 v9_3))] → va_P D vwCl [(a_t, .inr (9, [.ref a_t_letters, .int (z4 t_size), .int (z4 t_place_l9), .int (z4 t_tokens), .ref a_t_kinds, .ref a_t_starts, .ref a_t_values])), (a_t_letters, .inl (E 0, 120, .inl (A4 t_letters)))] H → va_D A [(a_t, .inr (9, [.ref a_t_letters, .int (z4 t_size), .int (z4 t_place_l9), .int (z4 t_tokens), .ref a_t_kinds, .ref a_t_starts, .ref a_t_values])), (a_t_letters, .inl (E 0, 120, .inl (A4 t_letters)))] → va_S A s.heap H locs → lp_ (fun (q : Int × Int × Int) => F_X9_passNumber_L9 n t_size t_letters q.1 q.2.1 q.2.2) k_ (v9_2, v9_3, t_place_l9) = some o1 → W p l e rm_X9_passNumber s m args below meth c H locs 0 0 Q (F0 m 9 ls []) := by
    intro k_
    induction k_ with
    | zero =>
      intro v9_2 v9_3 t_place_l9 H locs ls hl hP hD hS hq_; exact (lp_zero hq_).elim
    | succ k_ ih1 =>
      intro v9_2 v9_3 t_place_l9 H locs ls hl hP hD hS hq_
      obtain ⟨t_1, hb1, hq1⟩ := lp_some hq_
      replace hb1 : F_X9_passNumber_L9 n t_size t_letters v9_2 v9_3 t_place_l9 = some t_1 := hb1
      unfold F_X9_passNumber_L9 at hb1
      refine lv_iload_n hx hb dX9_passNumber_9 rfl (lv_at hl 3 rfl) ?_
      refine m_bipush X dX9_passNumber_10 (by decide) ?_
      obtain ⟨h2, hb1⟩ := ck_some hb1
      refine m_icmp_ge X ⟨h2, ⟨by decide, by decide⟩⟩ dX9_passNumber_12 (tgt := 67) (by decide) (fun (hc_ : ¬ (v9_3 < 120)) => ?_) (fun (hc_ : v9_3 < 120) => ?_)
      · rw [if_neg hc_] at hb1
        obtain rfl := Option.some.inj hb1
        exact E1_0 _ (Option.some.inj hq1).symm _ _ _ (lv_sub hl [0, 1, 2] rfl) hP hD hS
      · rw [if_pos hc_] at hb1
        refine lv_aload_n hx hb dX9_passNumber_15 rfl (lv_at hl 0 rfl) ?_
        refine lv_aload_n hx hb dX9_passNumber_16 rfl (lv_at hl 0 rfl) ?_
        refine m_get X hK hP cl_X9 iT_X9 2 (by decide) fl_X9_32 0 rfl rfl dX9_passNumber_17 ?_
        obtain ⟨o3, ho, hb1⟩ := bd_some hb1
        refine m_cVR X hK (k_X9_letterAt n a_t a_t_letters a_t_kinds a_t_starts a_t_values t_size t_place_l9 t_tokens t_letters t_place_l9 o3 ho) (hP.sub [0, 1] rfl) rfl cl_X9 lk_X9_38 co_X9_letterAt dy_X9_letterAt rfl rfl ⟨Nat.le_of_ble_eq_true rfl, Nat.le_of_ble_eq_true rfl⟩ hl.1 rfl (Nat.le_of_ble_eq_true rfl) dX9_passNumber_20 (Nat.zero_le _) (Nat.zero_le _) ?_
        obtain ⟨o4, ho, hb1⟩ := bd_some hb1
        refine m_cSR X hK (k_X9_isFigure n o3 o4 ho) (hP.sub (ws' := []) [] rfl) lk_X9_53 co_X9_isFigure dy_X9_isFigure rfl rfl ⟨Nat.le_of_ble_eq_true rfl, Nat.le_of_ble_eq_true rfl⟩ hl.1 rfl (Nat.le_of_ble_eq_true rfl) dX9_passNumber_23 (Nat.zero_le _) (Nat.zero_le _) ?_
        obtain ⟨h5, hb1⟩ := ck_some hb1
        refine m_if_eq X h5 dX9_passNumber_26 (tgt := 67) (by decide) (fun (hc_ : o4 = 0) => ?_) (fun (hc_ : ¬ (o4 = 0)) => ?_)
        · rw [if_pos hc_] at hb1
          obtain rfl := Option.some.inj hb1
          exact E1_0 _ (Option.some.inj hq1).symm _ _ _ (lv_sub hl [0, 1, 2] rfl) hP hD hS
        · rw [if_neg hc_] at hb1
          refine m_bipush X dX9_passNumber_29 (by decide) ?_
          refine lv_iload_n hx hb dX9_passNumber_31 rfl (lv_at hl 2 rfl) ?_
          refine m_bipush X dX9_passNumber_32 (by decide) ?_
          refine m_imul X dX9_passNumber_34 ?_
          refine lv_aload_n hx hb dX9_passNumber_35 rfl (lv_at hl 0 rfl) ?_
          refine lv_aload_n hx hb dX9_passNumber_36 rfl (lv_at hl 0 rfl) ?_
          refine m_get X hK hP cl_X9 iT_X9 2 (by decide) fl_X9_32 0 rfl rfl dX9_passNumber_37 ?_
          obtain ⟨o6, ho, hb1⟩ := bd_some hb1
          refine m_cVR X hK (k_X9_letterAt n a_t a_t_letters a_t_kinds a_t_starts a_t_values t_size t_place_l9 t_tokens t_letters t_place_l9 o6 ho) (hP.sub [0, 1] rfl) rfl cl_X9 lk_X9_38 co_X9_letterAt dy_X9_letterAt rfl rfl ⟨Nat.le_of_ble_eq_true rfl, Nat.le_of_ble_eq_true rfl⟩ hl.1 rfl (Nat.le_of_ble_eq_true rfl) dX9_passNumber_40 (Nat.zero_le _) (Nat.zero_le _) ?_
          refine m_iadd X dX9_passNumber_43 ?_
          refine m_bipush X dX9_passNumber_44 (by decide) ?_
          refine m_isub X dX9_passNumber_46 ?_
          obtain ⟨h7, hb1⟩ := ck_some hb1
          refine m_min X ml_X9_78 st_min in_Math cd_min hl.1 (Nat.le_of_ble_eq_true rfl) (Nat.le_of_ble_eq_true rfl) (Nat.zero_le _) (Nat.zero_le _) ⟨⟨by decide, by decide⟩, h7⟩ dX9_passNumber_47 ?_
          refine lv_istore_n (lv' := [(2, .int (z4 (min 100 (((v9_2 * 10) + o6) - 48)))), (0, .ref a_t), (1, .int (z4 t_place)), (3, .int (z4 v9_3))]) hx hb dX9_passNumber_50 rfl hl (by decide) rfl (fun ls hl => ?_)
          refine lv_aload_n hx hb dX9_passNumber_51 rfl (lv_at hl 1 rfl) ?_
          refine lv_dup hx hb dX9_passNumber_52 rfl ?_
          refine m_get X hK hP cl_X9 iT_X9 2 (by decide) fl_X9_32 0 rfl rfl dX9_passNumber_53 ?_
          refine m_iconst X dX9_passNumber_56 ?_
          refine m_iadd X dX9_passNumber_57 ?_
          refine m_put X hK hP hD hS cl_X9 iT_X9 tyX9 tyX9_ok nmX9 2 (by decide) fl_X9_32 rfl 0 rfl rfl rfl (Nat.le_of_ble_eq_true rfl) [(a_t, .inr (9, [.ref a_t_letters, .int (z4 t_size), .int (z4 (t_place_l9 + 1)), .int (z4 t_tokens), .ref a_t_kinds, .ref a_t_starts, .ref a_t_values])), (a_t_letters, .inl (E 0, 120, .inl (A4 t_letters)))] rfl dX9_passNumber_58 (fun H locs hP hD hS => ?_)
          refine m_iinc X 3 [(3, .int (z4 (v9_3 + 1))), (2, .int (z4 (min 100 (((v9_2 * 10) + o6) - 48)))), (0, .ref a_t), (1, .int (z4 t_place))] dX9_passNumber_61 hl rfl (by decide) rfl (fun ls hl => ?_)
          refine lv_goto (tgt := 9) hx hb dX9_passNumber_64 (by decide) ?_
          obtain rfl := Option.some.inj hb1
          exact ih1 _ _ _ _ _ _ (lv_sub hl [2, 3, 1, 0] rfl) hP hD hS hq1
  exact L1 n _ _ _ _ _ _ (lv_sub hl [3, 2, 1, 0] rfl) hP hD hS hj1
