def F_X6_placeOf_L2 (n : Nat) (t_size : Int) (t_times : Nat → Int) (x1 : Int) (v2_2 : Int) : Option ((Int) ⊕ (Int)) :=
  ck (r4 v2_2 ∧ r4 t_size) <|
  if v2_2 < t_size then
    ck (r4 v2_2) <|
    if v2_2 < 40 then
      ck (ix_ v2_2 40) <|
      ck (r4 (t_times (v2_2).toNat) ∧ r4 x1) <|
      if t_times (v2_2).toNat < x1 then
        some (.inl (v2_2 + 1))
      else
        some (.inr v2_2)
    else
      some (.inr v2_2)
  else
    some (.inr v2_2)
def F_X6_placeOf (n : Nat)  (t_size : Int) (t_times : Nat → Int) (x1 : Int) : Option (Int) :=
  (lp_ (fun (q : Int) => F_X6_placeOf_L2 n t_size t_times x1 q) n 0).bind fun o1 =>
  some o1
def rm_X6_placeOf : Room := { frames := 0, cells := 0, slots := 0, locals := 0 }
set_option maxHeartbeats 4000000 in
set_option maxRecDepth 100000 in
theorem k_X6_placeOf {l : Launch} {D : va_G} {E : Nat → ClassId} (n : Nat) (a_t a_t_times a_t_signs : Nat) (t_size : Int) (t_times : Nat → Int) (x1 : Int) (res : Int) (hf : F_X6_placeOf n t_size t_times x1 = some res) : MR l yX6_placeOf (.code yX6_placeOf cX6_placeOf 3 (some .int)) rm_X6_placeOf D E [.ref a_t, .int (z4 x1)] [(a_t, .inr (6, [.int (z4 t_size), .ref a_t_times, .ref a_t_signs])), (a_t_times, .inl (E 0, 40, .inl (A4 t_times)))] (some (.int (z4 res))) := by
  refine MRi (by decide) (Nat.le_of_ble_eq_true rfl) ?_
  intro p e s m args below meth c Q X hK hP ret ls hl
  have hx := X.1
  have hb := X.2.1
  have hl : lv_has ls 3 [(0, .ref a_t), (1, .int (z4 x1))] := hl
  unfold F_X6_placeOf at hf
  refine m_iconst X dX6_placeOf_0 ?_
  refine lv_istore_n (lv' := [(2, .int (z4 0)), (0, .ref a_t), (1, .int (z4 x1))]) hx hb dX6_placeOf_1 rfl hl (by decide) rfl (fun ls hl => ?_)
  obtain ⟨o1, hj1, hr1⟩ := bd_some hf
  have E1_0 : ∀ (o_ : Int), o1 = o_ → ∀ (ls : Array Slot), lv_has ls 3 [(2, .int (z4 o_))] → W p l e rm_X6_placeOf s m args below meth c s.heap [] 0 0 Q (F0 m 32 ls []) := by
    intro o_ ho_ ls hl 
    subst ho_
    refine lv_iload_n hx hb dX6_placeOf_32 rfl (lv_at hl 0 rfl) ?_
    obtain rfl := Option.some.inj hr1
    exact ret _ _ dX6_placeOf_33
  have L1 : ∀ (k_ : Nat) (v2_2 : Int), ∀ (ls : Array Slot), lv_has ls 3 [(0, .ref a_t), (1, .int (z4 x1)), (2, .int (z4 v2_2))] → lp_ (fun (q : Int) => F_X6_placeOf_L2 n t_size t_times x1 q) k_ v2_2 = some o1 → W p l e rm_X6_placeOf s m args below meth c s.heap [] 0 0 Q (F0 m 2 ls []) := by
    intro k_
    induction k_ with
    | zero =>
      intro v2_2 ls hl  hq_; exact (lp_zero hq_).elim
    | succ k_ ih1 =>
      intro v2_2 ls hl  hq_
      obtain ⟨t_1, hb1, hq1⟩ := lp_some hq_
      replace hb1 : F_X6_placeOf_L2 n t_size t_times x1 v2_2 = some t_1 := hb1
      unfold F_X6_placeOf_L2 at hb1
      refine lv_iload_n hx hb dX6_placeOf_2 rfl (lv_at hl 2 rfl) ?_
      refine lv_aload_n hx hb dX6_placeOf_3 rfl (lv_at hl 0 rfl) ?_
      refine m_get X hK hP cl_X6 iT_X6 0 (by decide) fl_X6_9 0 rfl rfl dX6_placeOf_4 ?_
      obtain ⟨h2, hb1⟩ := ck_some hb1
      refine m_icmp_ge X h2 dX6_placeOf_7 (tgt := 32) (by decide) (fun (hc_ : ¬ (v2_2 < t_size)) => ?_) (fun (hc_ : v2_2 < t_size) => ?_)
      · rw [if_neg hc_] at hb1
        obtain rfl := Option.some.inj hb1
        exact E1_0 _ (Option.some.inj hq1).symm _ (lv_sub hl [2] rfl) 
      · rw [if_pos hc_] at hb1
        refine lv_iload_n hx hb dX6_placeOf_10 rfl (lv_at hl 2 rfl) ?_
        refine m_bipush X dX6_placeOf_11 (by decide) ?_
        obtain ⟨h3, hb1⟩ := ck_some hb1
        refine m_icmp_ge X ⟨h3, ⟨by decide, by decide⟩⟩ dX6_placeOf_13 (tgt := 32) (by decide) (fun (hc_ : ¬ (v2_2 < 40)) => ?_) (fun (hc_ : v2_2 < 40) => ?_)
        · rw [if_neg hc_] at hb1
          obtain rfl := Option.some.inj hb1
          exact E1_0 _ (Option.some.inj hq1).symm _ (lv_sub hl [2] rfl) 
        · rw [if_pos hc_] at hb1
          refine lv_aload_n hx hb dX6_placeOf_16 rfl (lv_at hl 0 rfl) ?_
          refine m_get X hK hP cl_X6 iT_X6 1 (by decide) fl_X6_15 0 rfl rfl dX6_placeOf_17 ?_
          refine lv_iload_n hx hb dX6_placeOf_20 rfl (lv_at hl 2 rfl) ?_
          obtain ⟨h4, hb1⟩ := ck_some hb1
          refine m_iald X hK hP 1 rfl (by decide) h4 dX6_placeOf_21 ?_
          refine lv_iload_n hx hb dX6_placeOf_22 rfl (lv_at hl 1 rfl) ?_
          obtain ⟨h5, hb1⟩ := ck_some hb1
          refine m_icmp_ge X h5 dX6_placeOf_23 (tgt := 32) (by decide) (fun (hc_ : ¬ (t_times (v2_2).toNat < x1)) => ?_) (fun (hc_ : t_times (v2_2).toNat < x1) => ?_)
          · rw [if_neg hc_] at hb1
            obtain rfl := Option.some.inj hb1
            exact E1_0 _ (Option.some.inj hq1).symm _ (lv_sub hl [2] rfl) 
          · rw [if_pos hc_] at hb1
            refine m_iinc X 2 [(2, .int (z4 (v2_2 + 1))), (0, .ref a_t), (1, .int (z4 x1))] dX6_placeOf_26 hl rfl (by decide) rfl (fun ls hl => ?_)
            refine lv_goto (tgt := 2) hx hb dX6_placeOf_29 (by decide) ?_
            obtain rfl := Option.some.inj hb1
            exact ih1 _ _ (lv_sub hl [1, 2, 0] rfl)  hq1
  exact L1 n _ _ (lv_sub hl [1, 2, 0] rfl)  hj1
def F_X6_putIn_L28 (n : Nat) (x1 : Int) (v28_4 : Int) (t_times_l28 : Nat → Int) (t_signs_l28 : Nat → Int) : Option ((Int × (Nat → Int) × (Nat → Int)) ⊕ ((Nat → Int) × (Nat → Int))) :=
  ck (r4 v28_4 ∧ r4 x1) <|
  if x1 < v28_4 then
    ck (ix_ (v28_4 - 1) 40) <|
    ck (ix_ v28_4 40) <|
    ck (ix_ (v28_4 - 1) 40) <|
    ck (ix_ v28_4 40) <|
    some (.inl (v28_4 + (-1), up_ t_times_l28 (v28_4).toNat (t_times_l28 (v28_4 - 1).toNat), up_ t_signs_l28 (v28_4).toNat (t_signs_l28 (v28_4 - 1).toNat)))
  else
    some (.inr (t_times_l28, t_signs_l28))
def F_X6_putIn (n : Nat)  (t_size : Int) (t_times : Nat → Int) (t_signs : Nat → Int) (x1 : Int) (x2 : Int) (x3 : Int) : Option (Int × (Nat → Int) × (Nat → Int)) :=
  ck (r4 t_size) <|
  if t_size < 40 then
    ck (r4 x1) <|
    if x1 < 0 then
      some (t_size, t_times, t_signs)
    else
      ck (r4 x1 ∧ r4 t_size) <|
      if t_size < x1 then
        some (t_size, t_times, t_signs)
      else
        (lp_ (fun (q : Int × (Nat → Int) × (Nat → Int)) => F_X6_putIn_L28 n x1 q.1 q.2.1 q.2.2) n (t_size, t_times, t_signs)).bind fun o4 =>
        ck (ix_ x1 40) <|
        ck (ix_ x1 40) <|
        some (t_size + 1, up_ o4.1 (x1).toNat x2, up_ o4.2 (x1).toNat x3)
  else
    some (t_size, t_times, t_signs)
def rm_X6_putIn : Room := { frames := 0, cells := 0, slots := 0, locals := 0 }
set_option maxHeartbeats 4000000 in
set_option maxRecDepth 100000 in
theorem k_X6_putIn {l : Launch} {D : va_G} {E : Nat → ClassId} (n : Nat) (a_t a_t_times a_t_signs : Nat) (t_size : Int) (t_times : Nat → Int) (t_signs : Nat → Int) (x1 : Int) (x2 : Int) (x3 : Int) (res : Int × (Nat → Int) × (Nat → Int)) (hf : F_X6_putIn n t_size t_times t_signs x1 x2 x3 = some res) : MW l yX6_putIn (.code yX6_putIn cX6_putIn 5 none) rm_X6_putIn D E [.ref a_t, .int (z4 x1), .int (z4 x2), .int (z4 x3)] [(a_t, .inr (6, [.int (z4 t_size), .ref a_t_times, .ref a_t_signs])), (a_t_times, .inl (E 0, 40, .inl (A4 t_times))), (a_t_signs, .inl (E 0, 40, .inl (A4 t_signs)))] none [(a_t, .inr (6, [.int (z4 res.1), .ref a_t_times, .ref a_t_signs])), (a_t_times, .inl (E 0, 40, .inl (A4 res.2.1))), (a_t_signs, .inl (E 0, 40, .inl (A4 res.2.2)))] := by
  refine MWv (by decide) (Nat.le_of_ble_eq_true rfl) ?_
  intro p e s m args below meth c A Q X hK hP hD hA ret ls hl
  have hS : va_S A s.heap s.heap [] := va_S.rf
  have hx := X.1
  have hb := X.2.1
  have hl : lv_has ls 5 [(0, .ref a_t), (1, .int (z4 x1)), (2, .int (z4 x2)), (3, .int (z4 x3))] := hl
  unfold F_X6_putIn at hf
  refine lv_aload_n hx hb dX6_putIn_0 rfl (lv_at hl 0 rfl) ?_
  refine m_get X hK hP cl_X6 iT_X6 0 (by decide) fl_X6_9 0 rfl rfl dX6_putIn_1 ?_
  refine m_bipush X dX6_putIn_4 (by decide) ?_
  obtain ⟨h1, hf⟩ := ck_some hf
  refine m_icmp_ge X ⟨h1, ⟨by decide, by decide⟩⟩ dX6_putIn_6 (tgt := 21) (by decide) (fun (hc_ : ¬ (t_size < 40)) => ?_) (fun (hc_ : t_size < 40) => ?_)
  · rw [if_neg hc_] at hf
    obtain rfl := Option.some.inj hf
    exact ret _ _ _ _ hP hD hS dX6_putIn_21
  · rw [if_pos hc_] at hf
    refine lv_iload_n hx hb dX6_putIn_9 rfl (lv_at hl 1 rfl) ?_
    obtain ⟨h2, hf⟩ := ck_some hf
    refine m_if_lt X h2 dX6_putIn_10 (tgt := 21) (by decide) (fun (hc_ : x1 < 0) => ?_) (fun (hc_ : ¬ (x1 < 0)) => ?_)
    · rw [if_pos hc_] at hf
      obtain rfl := Option.some.inj hf
      exact ret _ _ _ _ hP hD hS dX6_putIn_21
    · rw [if_neg hc_] at hf
      refine lv_iload_n hx hb dX6_putIn_13 rfl (lv_at hl 1 rfl) ?_
      refine lv_aload_n hx hb dX6_putIn_14 rfl (lv_at hl 0 rfl) ?_
      refine m_get X hK hP cl_X6 iT_X6 0 (by decide) fl_X6_9 0 rfl rfl dX6_putIn_15 ?_
      obtain ⟨h3, hf⟩ := ck_some hf
      refine m_icmp_le X h3 dX6_putIn_18 (tgt := 22) (by decide) (fun (hc_ : ¬ (t_size < x1)) => ?_) (fun (hc_ : t_size < x1) => ?_)
      · rw [if_neg hc_] at hf
        refine lv_aload_n hx hb dX6_putIn_22 rfl (lv_at hl 0 rfl) ?_
        refine m_get X hK hP cl_X6 iT_X6 0 (by decide) fl_X6_9 0 rfl rfl dX6_putIn_23 ?_
        refine lv_istore (lv' := [(4, .int (z4 t_size)), (0, .ref a_t), (1, .int (z4 x1)), (2, .int (z4 x2)), (3, .int (z4 x3))]) hx hb dX6_putIn_26 hl (by decide) rfl (fun ls hl => ?_)
        obtain ⟨o4, hj4, hr4⟩ := bd_some hf
        have E4_0 : ∀ (o_ : (Nat → Int) × (Nat → Int)), o4 = o_ → ∀ (H : Heap) (locs : List Loc) (ls : Array Slot), lv_has ls 5 [(0, .ref a_t), (1, .int (z4 x1)), (2, .int (z4 x2)), (3, .int (z4 x3))] → va_P D vwCl [(a_t, .inr (6, [.int (z4 t_size), .ref a_t_times, .ref a_t_signs])), (a_t_times, .inl (E 0, 40, .inl (A4 o_.1))), (a_t_signs, .inl (E 0, 40, .inl (A4 o_.2)))] H → va_D A [(a_t, .inr (6, [.int (z4 t_size), .ref a_t_times, .ref a_t_signs])), (a_t_times, .inl (E 0, 40, .inl (A4 o_.1))), (a_t_signs, .inl (E 0, 40, .inl (A4 o_.2)))] → va_S A s.heap H locs → W p l e rm_X6_putIn s m args below meth c H locs 0 0 Q (F0 m 72 ls []) := by
          intro o_ ho_ H locs ls hl hP hD hS
          subst ho_
          refine lv_aload_n hx hb dX6_putIn_72 rfl (lv_at hl 0 rfl) ?_
          refine m_get X hK hP cl_X6 iT_X6 1 (by decide) fl_X6_15 0 rfl rfl dX6_putIn_73 ?_
          refine lv_iload_n hx hb dX6_putIn_76 rfl (lv_at hl 1 rfl) ?_
          refine lv_iload_n hx hb dX6_putIn_77 rfl (lv_at hl 2 rfl) ?_
          obtain ⟨h10, hr4⟩ := ck_some hr4
          refine m_iast X hK hP hD hS 1 rfl (by decide) h10 [(a_t, .inr (6, [.int (z4 t_size), .ref a_t_times, .ref a_t_signs])), (a_t_times, .inl (E 0, 40, .inl (A4 (up_ o4.1 (x1).toNat x2)))), (a_t_signs, .inl (E 0, 40, .inl (A4 o4.2)))] rfl dX6_putIn_78 (fun H locs hP hD hS => ?_)
          refine lv_aload_n hx hb dX6_putIn_79 rfl (lv_at hl 0 rfl) ?_
          refine m_get X hK hP cl_X6 iT_X6 2 (by decide) fl_X6_19 0 rfl rfl dX6_putIn_80 ?_
          refine lv_iload_n hx hb dX6_putIn_83 rfl (lv_at hl 1 rfl) ?_
          refine lv_iload_n hx hb dX6_putIn_84 rfl (lv_at hl 3 rfl) ?_
          obtain ⟨h11, hr4⟩ := ck_some hr4
          refine m_iast X hK hP hD hS 2 rfl (by decide) h11 [(a_t, .inr (6, [.int (z4 t_size), .ref a_t_times, .ref a_t_signs])), (a_t_times, .inl (E 0, 40, .inl (A4 (up_ o4.1 (x1).toNat x2)))), (a_t_signs, .inl (E 0, 40, .inl (A4 (up_ o4.2 (x1).toNat x3))))] rfl dX6_putIn_85 (fun H locs hP hD hS => ?_)
          refine lv_aload_n hx hb dX6_putIn_86 rfl (lv_at hl 0 rfl) ?_
          refine lv_dup hx hb dX6_putIn_87 rfl ?_
          refine m_get X hK hP cl_X6 iT_X6 0 (by decide) fl_X6_9 0 rfl rfl dX6_putIn_88 ?_
          refine m_iconst X dX6_putIn_91 ?_
          refine m_iadd X dX6_putIn_92 ?_
          refine m_put X hK hP hD hS cl_X6 iT_X6 tyX6 tyX6_ok nmX6 0 (by decide) fl_X6_9 rfl 0 rfl rfl rfl (Nat.le_of_ble_eq_true rfl) [(a_t, .inr (6, [.int (z4 (t_size + 1)), .ref a_t_times, .ref a_t_signs])), (a_t_times, .inl (E 0, 40, .inl (A4 (up_ o4.1 (x1).toNat x2)))), (a_t_signs, .inl (E 0, 40, .inl (A4 (up_ o4.2 (x1).toNat x3))))] rfl dX6_putIn_93 (fun H locs hP hD hS => ?_)
          obtain rfl := Option.some.inj hr4
          exact ret _ _ _ _ hP hD hS dX6_putIn_96
        have L4 : ∀ (k_ : Nat) (v28_4 : Int) (t_times_l28 : Nat → Int) (t_signs_l28 : Nat → Int), ∀ (H : Heap) (locs : List Loc) (ls : Array Slot), lv_has ls 5 [(0, .ref a_t), (1, .int (z4 x1)), (2, .int (z4 x2)), (3, .int (z4 x3)), (4, .int (z4 v28_4))] → va_P D vwCl [(a_t, .inr (6, [.int (z4 t_size), .ref a_t_times, .ref a_t_signs])), (a_t_times, .inl (E 0, 40, .inl (A4 t_times_l28))), (a_t_signs, .inl (E 0, 40, .inl (A4 t_signs_l28)))] H → va_D A [(a_t, .inr (6, [.int (z4 t_size), .ref a_t_times, .ref a_t_signs])), (a_t_times, .inl (E 0, 40, .inl (A4 t_times_l28))), (a_t_signs, .inl (E 0, 40, .inl (A4 t_signs_l28)))] → va_S A s.heap H locs → lp_ (fun (q : Int × (Nat → Int) × (Nat → Int)) => F_X6_putIn_L28 n x1 q.1 q.2.1 q.2.2) k_ (v28_4, t_times_l28, t_signs_l28) = some o4 → W p l e rm_X6_putIn s m args below meth c H locs 0 0 Q (F0 m 28 ls []) := by
          intro k_
          induction k_ with
          | zero =>
            intro v28_4 t_times_l28 t_signs_l28 H locs ls hl hP hD hS hq_; exact (lp_zero hq_).elim
          | succ k_ ih4 =>
            intro v28_4 t_times_l28 t_signs_l28 H locs ls hl hP hD hS hq_
            obtain ⟨t_4, hb4, hq4⟩ := lp_some hq_
            replace hb4 : F_X6_putIn_L28 n x1 v28_4 t_times_l28 t_signs_l28 = some t_4 := hb4
            unfold F_X6_putIn_L28 at hb4
            refine lv_iload hx hb dX6_putIn_28 (lv_at hl 4 rfl) ?_
            refine lv_iload_n hx hb dX6_putIn_30 rfl (lv_at hl 1 rfl) ?_
            obtain ⟨h5, hb4⟩ := ck_some hb4
            refine m_icmp_le X h5 dX6_putIn_31 (tgt := 72) (by decide) (fun (hc_ : ¬ (x1 < v28_4)) => ?_) (fun (hc_ : x1 < v28_4) => ?_)
            · rw [if_neg hc_] at hb4
              obtain rfl := Option.some.inj hb4
              exact E4_0 _ (Option.some.inj hq4).symm _ _ _ (lv_sub hl [0, 1, 2, 3] rfl) hP hD hS
            · rw [if_pos hc_] at hb4
              refine lv_aload_n hx hb dX6_putIn_34 rfl (lv_at hl 0 rfl) ?_
              refine m_get X hK hP cl_X6 iT_X6 1 (by decide) fl_X6_15 0 rfl rfl dX6_putIn_35 ?_
              refine lv_iload hx hb dX6_putIn_38 (lv_at hl 4 rfl) ?_
              refine lv_aload_n hx hb dX6_putIn_40 rfl (lv_at hl 0 rfl) ?_
              refine m_get X hK hP cl_X6 iT_X6 1 (by decide) fl_X6_15 0 rfl rfl dX6_putIn_41 ?_
              refine lv_iload hx hb dX6_putIn_44 (lv_at hl 4 rfl) ?_
              refine m_iconst X dX6_putIn_46 ?_
              refine m_isub X dX6_putIn_47 ?_
              obtain ⟨h6, hb4⟩ := ck_some hb4
              refine m_iald X hK hP 1 rfl (by decide) h6 dX6_putIn_48 ?_
              obtain ⟨h7, hb4⟩ := ck_some hb4
              refine m_iast X hK hP hD hS 1 rfl (by decide) h7 [(a_t, .inr (6, [.int (z4 t_size), .ref a_t_times, .ref a_t_signs])), (a_t_times, .inl (E 0, 40, .inl (A4 (up_ t_times_l28 (v28_4).toNat (t_times_l28 (v28_4 - 1).toNat))))), (a_t_signs, .inl (E 0, 40, .inl (A4 t_signs_l28)))] rfl dX6_putIn_49 (fun H locs hP hD hS => ?_)
              refine lv_aload_n hx hb dX6_putIn_50 rfl (lv_at hl 0 rfl) ?_
              refine m_get X hK hP cl_X6 iT_X6 2 (by decide) fl_X6_19 0 rfl rfl dX6_putIn_51 ?_
              refine lv_iload hx hb dX6_putIn_54 (lv_at hl 4 rfl) ?_
              refine lv_aload_n hx hb dX6_putIn_56 rfl (lv_at hl 0 rfl) ?_
              refine m_get X hK hP cl_X6 iT_X6 2 (by decide) fl_X6_19 0 rfl rfl dX6_putIn_57 ?_
              refine lv_iload hx hb dX6_putIn_60 (lv_at hl 4 rfl) ?_
              refine m_iconst X dX6_putIn_62 ?_
              refine m_isub X dX6_putIn_63 ?_
              obtain ⟨h8, hb4⟩ := ck_some hb4
              refine m_iald X hK hP 2 rfl (by decide) h8 dX6_putIn_64 ?_
              obtain ⟨h9, hb4⟩ := ck_some hb4
              refine m_iast X hK hP hD hS 2 rfl (by decide) h9 [(a_t, .inr (6, [.int (z4 t_size), .ref a_t_times, .ref a_t_signs])), (a_t_times, .inl (E 0, 40, .inl (A4 (up_ t_times_l28 (v28_4).toNat (t_times_l28 (v28_4 - 1).toNat))))), (a_t_signs, .inl (E 0, 40, .inl (A4 (up_ t_signs_l28 (v28_4).toNat (t_signs_l28 (v28_4 - 1).toNat)))))] rfl dX6_putIn_65 (fun H locs hP hD hS => ?_)
              refine m_iinc X 4 [(4, .int (z4 (v28_4 + (-1)))), (0, .ref a_t), (1, .int (z4 x1)), (2, .int (z4 x2)), (3, .int (z4 x3))] dX6_putIn_66 hl rfl (by decide) rfl (fun ls hl => ?_)
              refine lv_goto (tgt := 28) hx hb dX6_putIn_69 (by decide) ?_
              obtain rfl := Option.some.inj hb4
              exact ih4 _ _ _ _ _ _ (lv_sub hl [1, 2, 3, 4, 0] rfl) hP hD hS hq4
        exact L4 n _ _ _ _ _ _ (lv_sub hl [1, 2, 3, 4, 0] rfl) hP hD hS hj4
      · rw [if_pos hc_] at hf
        obtain rfl := Option.some.inj hf
        exact ret _ _ _ _ hP hD hS dX6_putIn_21
def F_X6_takeOut_L25 (n : Nat) (t_size : Int) (v25_2 : Int) (t_times_l25 : Nat → Int) (t_signs_l25 : Nat → Int) : Option ((Int × (Nat → Int) × (Nat → Int)) ⊕ ((Nat → Int) × (Nat → Int))) :=
  ck (r4 v25_2 ∧ r4 (t_size - 1)) <|
  if v25_2 < t_size - 1 then
    ck (r4 (v25_2 + 1)) <|
    if v25_2 + 1 < 40 then
      ck (ix_ (v25_2 + 1) 40) <|
      ck (ix_ v25_2 40) <|
      ck (ix_ (v25_2 + 1) 40) <|
      ck (ix_ v25_2 40) <|
      some (.inl (v25_2 + 1, up_ t_times_l25 (v25_2).toNat (t_times_l25 (v25_2 + 1).toNat), up_ t_signs_l25 (v25_2).toNat (t_signs_l25 (v25_2 + 1).toNat)))
    else
      some (.inr (t_times_l25, t_signs_l25))
  else
    some (.inr (t_times_l25, t_signs_l25))
def F_X6_takeOut (n : Nat)  (t_size : Int) (t_times : Nat → Int) (t_signs : Nat → Int) (x1 : Int) : Option (Int × (Nat → Int) × (Nat → Int)) :=
  ck (r4 x1) <|
  if x1 < 0 then
    some (t_size, t_times, t_signs)
  else
    ck (r4 x1 ∧ r4 t_size) <|
    if x1 < t_size then
      (lp_ (fun (q : Int × (Nat → Int) × (Nat → Int)) => F_X6_takeOut_L25 n t_size q.1 q.2.1 q.2.2) n (x1, t_times, t_signs)).bind fun o3 =>
      some (t_size - 1, o3.1, o3.2)
    else
      some (t_size, t_times, t_signs)
def rm_X6_takeOut : Room := { frames := 0, cells := 0, slots := 0, locals := 0 }
set_option maxHeartbeats 4000000 in
set_option maxRecDepth 100000 in
theorem k_X6_takeOut {l : Launch} {D : va_G} {E : Nat → ClassId} (n : Nat) (a_t a_t_times a_t_signs : Nat) (t_size : Int) (t_times : Nat → Int) (t_signs : Nat → Int) (x1 : Int) (res : Int × (Nat → Int) × (Nat → Int)) (hf : F_X6_takeOut n t_size t_times t_signs x1 = some res) : MW l yX6_takeOut (.code yX6_takeOut cX6_takeOut 3 none) rm_X6_takeOut D E [.ref a_t, .int (z4 x1)] [(a_t, .inr (6, [.int (z4 t_size), .ref a_t_times, .ref a_t_signs])), (a_t_times, .inl (E 0, 40, .inl (A4 t_times))), (a_t_signs, .inl (E 0, 40, .inl (A4 t_signs)))] none [(a_t, .inr (6, [.int (z4 res.1), .ref a_t_times, .ref a_t_signs])), (a_t_times, .inl (E 0, 40, .inl (A4 res.2.1))), (a_t_signs, .inl (E 0, 40, .inl (A4 res.2.2)))] := by
  refine MWv (by decide) (Nat.le_of_ble_eq_true rfl) ?_
  intro p e s m args below meth c A Q X hK hP hD hA ret ls hl
  have hS : va_S A s.heap s.heap [] := va_S.rf
  have hx := X.1
  have hb := X.2.1
  have hl : lv_has ls 3 [(0, .ref a_t), (1, .int (z4 x1))] := hl
  unfold F_X6_takeOut at hf
  refine lv_iload_n hx hb dX6_takeOut_0 rfl (lv_at hl 1 rfl) ?_
  obtain ⟨h1, hf⟩ := ck_some hf
  refine m_if_lt X h1 dX6_takeOut_1 (tgt := 12) (by decide) (fun (hc_ : x1 < 0) => ?_) (fun (hc_ : ¬ (x1 < 0)) => ?_)
  · rw [if_pos hc_] at hf
    obtain rfl := Option.some.inj hf
    exact ret _ _ _ _ hP hD hS dX6_takeOut_12
  · rw [if_neg hc_] at hf
    refine lv_iload_n hx hb dX6_takeOut_4 rfl (lv_at hl 1 rfl) ?_
    refine lv_aload_n hx hb dX6_takeOut_5 rfl (lv_at hl 0 rfl) ?_
    refine m_get X hK hP cl_X6 iT_X6 0 (by decide) fl_X6_9 0 rfl rfl dX6_takeOut_6 ?_
    obtain ⟨h2, hf⟩ := ck_some hf
    refine m_icmp_lt X h2 dX6_takeOut_9 (tgt := 13) (by decide) (fun (hc_ : x1 < t_size) => ?_) (fun (hc_ : ¬ (x1 < t_size)) => ?_)
    · rw [if_pos hc_] at hf
      refine lv_aload_n hx hb dX6_takeOut_13 rfl (lv_at hl 0 rfl) ?_
      refine lv_dup hx hb dX6_takeOut_14 rfl ?_
      refine m_get X hK hP cl_X6 iT_X6 0 (by decide) fl_X6_9 0 rfl rfl dX6_takeOut_15 ?_
      refine m_iconst X dX6_takeOut_18 ?_
      refine m_isub X dX6_takeOut_19 ?_
      refine m_put X hK hP hD hS cl_X6 iT_X6 tyX6 tyX6_ok nmX6 0 (by decide) fl_X6_9 rfl 0 rfl rfl rfl (Nat.le_of_ble_eq_true rfl) [(a_t, .inr (6, [.int (z4 (t_size - 1)), .ref a_t_times, .ref a_t_signs])), (a_t_times, .inl (E 0, 40, .inl (A4 t_times))), (a_t_signs, .inl (E 0, 40, .inl (A4 t_signs)))] rfl dX6_takeOut_20 (fun H locs hP hD hS => ?_)
      refine lv_iload_n hx hb dX6_takeOut_23 rfl (lv_at hl 1 rfl) ?_
      refine lv_istore_n (lv' := [(2, .int (z4 x1)), (0, .ref a_t), (1, .int (z4 x1))]) hx hb dX6_takeOut_24 rfl hl (by decide) rfl (fun ls hl => ?_)
      obtain ⟨o3, hj3, hr3⟩ := bd_some hf
      have E3_0 : ∀ (o_ : (Nat → Int) × (Nat → Int)), o3 = o_ → ∀ (H : Heap) (locs : List Loc) (ls : Array Slot), lv_has ls 3 [] → va_P D vwCl [(a_t, .inr (6, [.int (z4 (t_size - 1)), .ref a_t_times, .ref a_t_signs])), (a_t_times, .inl (E 0, 40, .inl (A4 o_.1))), (a_t_signs, .inl (E 0, 40, .inl (A4 o_.2)))] H → va_D A [(a_t, .inr (6, [.int (z4 (t_size - 1)), .ref a_t_times, .ref a_t_signs])), (a_t_times, .inl (E 0, 40, .inl (A4 o_.1))), (a_t_signs, .inl (E 0, 40, .inl (A4 o_.2)))] → va_S A s.heap H locs → W p l e rm_X6_takeOut s m args below meth c H locs 0 0 Q (F0 m 75 ls []) := by
        intro o_ ho_ H locs ls hl hP hD hS
        subst ho_
        obtain rfl := Option.some.inj hr3
        exact ret _ _ _ _ hP hD hS dX6_takeOut_75
      have L3 : ∀ (k_ : Nat) (v25_2 : Int) (t_times_l25 : Nat → Int) (t_signs_l25 : Nat → Int), ∀ (H : Heap) (locs : List Loc) (ls : Array Slot), lv_has ls 3 [(0, .ref a_t), (2, .int (z4 v25_2))] → va_P D vwCl [(a_t, .inr (6, [.int (z4 (t_size - 1)), .ref a_t_times, .ref a_t_signs])), (a_t_times, .inl (E 0, 40, .inl (A4 t_times_l25))), (a_t_signs, .inl (E 0, 40, .inl (A4 t_signs_l25)))] H → va_D A [(a_t, .inr (6, [.int (z4 (t_size - 1)), .ref a_t_times, .ref a_t_signs])), (a_t_times, .inl (E 0, 40, .inl (A4 t_times_l25))), (a_t_signs, .inl (E 0, 40, .inl (A4 t_signs_l25)))] → va_S A s.heap H locs → lp_ (fun (q : Int × (Nat → Int) × (Nat → Int)) => F_X6_takeOut_L25 n t_size q.1 q.2.1 q.2.2) k_ (v25_2, t_times_l25, t_signs_l25) = some o3 → W p l e rm_X6_takeOut s m args below meth c H locs 0 0 Q (F0 m 25 ls []) := by
        intro k_
        induction k_ with
        | zero =>
          intro v25_2 t_times_l25 t_signs_l25 H locs ls hl hP hD hS hq_; exact (lp_zero hq_).elim
        | succ k_ ih3 =>
          intro v25_2 t_times_l25 t_signs_l25 H locs ls hl hP hD hS hq_
          obtain ⟨t_3, hb3, hq3⟩ := lp_some hq_
          replace hb3 : F_X6_takeOut_L25 n t_size v25_2 t_times_l25 t_signs_l25 = some t_3 := hb3
          unfold F_X6_takeOut_L25 at hb3
          refine lv_iload_n hx hb dX6_takeOut_25 rfl (lv_at hl 1 rfl) ?_
          refine lv_aload_n hx hb dX6_takeOut_26 rfl (lv_at hl 0 rfl) ?_
          refine m_get X hK hP cl_X6 iT_X6 0 (by decide) fl_X6_9 0 rfl rfl dX6_takeOut_27 ?_
          obtain ⟨h4, hb3⟩ := ck_some hb3
          refine m_icmp_ge X h4 dX6_takeOut_30 (tgt := 75) (by decide) (fun (hc_ : ¬ (v25_2 < t_size - 1)) => ?_) (fun (hc_ : v25_2 < t_size - 1) => ?_)
          · rw [if_neg hc_] at hb3
            obtain rfl := Option.some.inj hb3
            exact E3_0 _ (Option.some.inj hq3).symm _ _ _ (lv_sub hl [] rfl) hP hD hS
          · rw [if_pos hc_] at hb3
            refine lv_iload_n hx hb dX6_takeOut_33 rfl (lv_at hl 1 rfl) ?_
            refine m_iconst X dX6_takeOut_34 ?_
            refine m_iadd X dX6_takeOut_35 ?_
            refine m_bipush X dX6_takeOut_36 (by decide) ?_
            obtain ⟨h5, hb3⟩ := ck_some hb3
            refine m_icmp_ge X ⟨h5, ⟨by decide, by decide⟩⟩ dX6_takeOut_38 (tgt := 75) (by decide) (fun (hc_ : ¬ (v25_2 + 1 < 40)) => ?_) (fun (hc_ : v25_2 + 1 < 40) => ?_)
            · rw [if_neg hc_] at hb3
              obtain rfl := Option.some.inj hb3
              exact E3_0 _ (Option.some.inj hq3).symm _ _ _ (lv_sub hl [] rfl) hP hD hS
            · rw [if_pos hc_] at hb3
              refine lv_aload_n hx hb dX6_takeOut_41 rfl (lv_at hl 0 rfl) ?_
              refine m_get X hK hP cl_X6 iT_X6 1 (by decide) fl_X6_15 0 rfl rfl dX6_takeOut_42 ?_
              refine lv_iload_n hx hb dX6_takeOut_45 rfl (lv_at hl 1 rfl) ?_
              refine lv_aload_n hx hb dX6_takeOut_46 rfl (lv_at hl 0 rfl) ?_
              refine m_get X hK hP cl_X6 iT_X6 1 (by decide) fl_X6_15 0 rfl rfl dX6_takeOut_47 ?_
              refine lv_iload_n hx hb dX6_takeOut_50 rfl (lv_at hl 1 rfl) ?_
              refine m_iconst X dX6_takeOut_51 ?_
              refine m_iadd X dX6_takeOut_52 ?_
              obtain ⟨h6, hb3⟩ := ck_some hb3
              refine m_iald X hK hP 1 rfl (by decide) h6 dX6_takeOut_53 ?_
              obtain ⟨h7, hb3⟩ := ck_some hb3
              refine m_iast X hK hP hD hS 1 rfl (by decide) h7 [(a_t, .inr (6, [.int (z4 (t_size - 1)), .ref a_t_times, .ref a_t_signs])), (a_t_times, .inl (E 0, 40, .inl (A4 (up_ t_times_l25 (v25_2).toNat (t_times_l25 (v25_2 + 1).toNat))))), (a_t_signs, .inl (E 0, 40, .inl (A4 t_signs_l25)))] rfl dX6_takeOut_54 (fun H locs hP hD hS => ?_)
              refine lv_aload_n hx hb dX6_takeOut_55 rfl (lv_at hl 0 rfl) ?_
              refine m_get X hK hP cl_X6 iT_X6 2 (by decide) fl_X6_19 0 rfl rfl dX6_takeOut_56 ?_
              refine lv_iload_n hx hb dX6_takeOut_59 rfl (lv_at hl 1 rfl) ?_
              refine lv_aload_n hx hb dX6_takeOut_60 rfl (lv_at hl 0 rfl) ?_
              refine m_get X hK hP cl_X6 iT_X6 2 (by decide) fl_X6_19 0 rfl rfl dX6_takeOut_61 ?_
              refine lv_iload_n hx hb dX6_takeOut_64 rfl (lv_at hl 1 rfl) ?_
              refine m_iconst X dX6_takeOut_65 ?_
              refine m_iadd X dX6_takeOut_66 ?_
              obtain ⟨h8, hb3⟩ := ck_some hb3
              refine m_iald X hK hP 2 rfl (by decide) h8 dX6_takeOut_67 ?_
              obtain ⟨h9, hb3⟩ := ck_some hb3
              refine m_iast X hK hP hD hS 2 rfl (by decide) h9 [(a_t, .inr (6, [.int (z4 (t_size - 1)), .ref a_t_times, .ref a_t_signs])), (a_t_times, .inl (E 0, 40, .inl (A4 (up_ t_times_l25 (v25_2).toNat (t_times_l25 (v25_2 + 1).toNat))))), (a_t_signs, .inl (E 0, 40, .inl (A4 (up_ t_signs_l25 (v25_2).toNat (t_signs_l25 (v25_2 + 1).toNat)))))] rfl dX6_takeOut_68 (fun H locs hP hD hS => ?_)
              refine m_iinc X 1 [(2, .int (z4 (v25_2 + 1))), (0, .ref a_t)] dX6_takeOut_69 hl rfl (by decide) rfl (fun ls hl => ?_)
              refine lv_goto (tgt := 25) hx hb dX6_takeOut_72 (by decide) ?_
              obtain rfl := Option.some.inj hb3
              exact ih3 _ _ _ _ _ _ (lv_sub hl [1, 0] rfl) hP hD hS hq3
      exact L3 n _ _ _ _ _ _ (lv_sub hl [1, 0] rfl) hP hD hS hj3
    · rw [if_neg hc_] at hf
      obtain rfl := Option.some.inj hf
      exact ret _ _ _ _ hP hD hS dX6_takeOut_12
def F_X6_take (n : Nat)  (p1_size : Int) (p1_times : Nat → Int) (t_times : Nat → Int) (p1_signs : Nat → Int) (t_signs : Nat → Int)  : Option (Int × (Nat → Int) × (Nat → Int)) :=
  some (p1_size, cp_ p1_times t_times 0 0 40, cp_ p1_signs t_signs 0 0 40)
def rm_X6_take : Room := { frames := 1, cells := 0, slots := 0, locals := 48 }
set_option maxHeartbeats 4000000 in
set_option maxRecDepth 100000 in
theorem k_X6_take {l : Launch} {D : va_G} {E : Nat → ClassId} (n : Nat) (a_t a_t_times a_t_signs a_p1 a_p1_times a_p1_signs : Nat) (t_size : Int) (p1_size : Int) (p1_times : Nat → Int) (t_times : Nat → Int) (p1_signs : Nat → Int) (t_signs : Nat → Int) (res : Int × (Nat → Int) × (Nat → Int)) (hf : F_X6_take n p1_size p1_times t_times p1_signs t_signs = some res) : MW l yX6_take (.code yX6_take cX6_take 2 none) rm_X6_take D E [.ref a_t, .ref a_p1] [(a_t, .inr (6, [.int (z4 t_size), .ref a_t_times, .ref a_t_signs])), (a_p1, .inr (6, [.int (z4 p1_size), .ref a_p1_times, .ref a_p1_signs])), (a_p1_times, .inl (E 0, 40, .inl (A4 p1_times))), (a_t_times, .inl (E 0, 40, .inl (A4 t_times))), (a_p1_signs, .inl (E 0, 40, .inl (A4 p1_signs))), (a_t_signs, .inl (E 0, 40, .inl (A4 t_signs)))] none [(a_t, .inr (6, [.int (z4 res.1), .ref a_t_times, .ref a_t_signs])), (a_p1, .inr (6, [.int (z4 p1_size), .ref a_p1_times, .ref a_p1_signs])), (a_p1_times, .inl (E 0, 40, .inl (A4 p1_times))), (a_t_times, .inl (E 0, 40, .inl (A4 res.2.1))), (a_p1_signs, .inl (E 0, 40, .inl (A4 p1_signs))), (a_t_signs, .inl (E 0, 40, .inl (A4 res.2.2)))] := by
  refine MWv (by decide) (Nat.le_of_ble_eq_true rfl) ?_
  intro p e s m args below meth c A Q X hK hP hD hA ret ls hl
  have hS : va_S A s.heap s.heap [] := va_S.rf
  have hx := X.1
  have hb := X.2.1
  have hl : lv_has ls 2 [(0, .ref a_t), (1, .ref a_p1)] := hl
  unfold F_X6_take at hf
  refine lv_aload_n hx hb dX6_take_0 rfl (lv_at hl 0 rfl) ?_
  refine lv_aload_n hx hb dX6_take_1 rfl (lv_at hl 1 rfl) ?_
  refine m_get X hK hP cl_X6 iT_X6 0 (by decide) fl_X6_9 1 rfl rfl dX6_take_2 ?_
  refine m_put X hK hP hD hS cl_X6 iT_X6 tyX6 tyX6_ok nmX6 0 (by decide) fl_X6_9 rfl 0 rfl rfl rfl (Nat.le_of_ble_eq_true rfl) [(a_t, .inr (6, [.int (z4 p1_size), .ref a_t_times, .ref a_t_signs])), (a_p1, .inr (6, [.int (z4 p1_size), .ref a_p1_times, .ref a_p1_signs])), (a_p1_times, .inl (E 0, 40, .inl (A4 p1_times))), (a_t_times, .inl (E 0, 40, .inl (A4 t_times))), (a_p1_signs, .inl (E 0, 40, .inl (A4 p1_signs))), (a_t_signs, .inl (E 0, 40, .inl (A4 t_signs)))] rfl dX6_take_5 (fun H locs hP hD hS => ?_)
  refine lv_aload_n hx hb dX6_take_8 rfl (lv_at hl 1 rfl) ?_
  refine m_get X hK hP cl_X6 iT_X6 1 (by decide) fl_X6_15 1 rfl rfl dX6_take_9 ?_
  refine m_iconst X dX6_take_12 ?_
  refine lv_aload_n hx hb dX6_take_13 rfl (lv_at hl 0 rfl) ?_
  refine m_get X hK hP cl_X6 iT_X6 1 (by decide) fl_X6_15 0 rfl rfl dX6_take_14 ?_
  refine m_iconst X dX6_take_17 ?_
  refine m_bipush X dX6_take_18 (by decide) ?_
  refine m_copy X ml_X6_22 nv_arraycopy st_arraycopy in_System hl.1 hK hP hD hS 2 3 rfl rfl (by decide) (by decide) (by decide) (Nat.le_of_ble_eq_true rfl) (by decide +kernel) [(a_t, .inr (6, [.int (z4 p1_size), .ref a_t_times, .ref a_t_signs])), (a_p1, .inr (6, [.int (z4 p1_size), .ref a_p1_times, .ref a_p1_signs])), (a_p1_times, .inl (E 0, 40, .inl (A4 p1_times))), (a_t_times, .inl (E 0, 40, .inl (A4 (cp_ p1_times t_times 0 0 40)))), (a_p1_signs, .inl (E 0, 40, .inl (A4 p1_signs))), (a_t_signs, .inl (E 0, 40, .inl (A4 t_signs)))] rfl dX6_take_20 (fun H locs hP hD hS => ?_)
  refine lv_aload_n hx hb dX6_take_23 rfl (lv_at hl 1 rfl) ?_
  refine m_get X hK hP cl_X6 iT_X6 2 (by decide) fl_X6_19 1 rfl rfl dX6_take_24 ?_
  refine m_iconst X dX6_take_27 ?_
  refine lv_aload_n hx hb dX6_take_28 rfl (lv_at hl 0 rfl) ?_
  refine m_get X hK hP cl_X6 iT_X6 2 (by decide) fl_X6_19 0 rfl rfl dX6_take_29 ?_
  refine m_iconst X dX6_take_32 ?_
  refine m_bipush X dX6_take_33 (by decide) ?_
  refine m_copy X ml_X6_22 nv_arraycopy st_arraycopy in_System hl.1 hK hP hD hS 4 5 rfl rfl (by decide) (by decide) (by decide) (Nat.le_of_ble_eq_true rfl) (by decide +kernel) [(a_t, .inr (6, [.int (z4 p1_size), .ref a_t_times, .ref a_t_signs])), (a_p1, .inr (6, [.int (z4 p1_size), .ref a_p1_times, .ref a_p1_signs])), (a_p1_times, .inl (E 0, 40, .inl (A4 p1_times))), (a_t_times, .inl (E 0, 40, .inl (A4 (cp_ p1_times t_times 0 0 40)))), (a_p1_signs, .inl (E 0, 40, .inl (A4 p1_signs))), (a_t_signs, .inl (E 0, 40, .inl (A4 (cp_ p1_signs t_signs 0 0 40))))] rfl dX6_take_35 (fun H locs hP hD hS => ?_)
  obtain rfl := Option.some.inj hf
  exact ret _ _ _ _ hP hD hS dX6_take_38
def F_X7_take (n : Nat)  (p1_plan_rules : Int) (p1_plan_slack : Int) (p1_plan_limit : Int) (p1_plan_least : Nat → Int) (t_plan_least : Nat → Int) (p1_plan_of : Nat → Int) (t_plan_of : Nat → Int) (p1_plan_set : Nat → Int) (t_plan_set : Nat → Int) (p1_plan_chances : Nat → Int) (t_plan_chances : Nat → Int) (p1_rows_size : Int) (p1_rows_times : Nat → Int) (t_rows_times : Nat → Int) (p1_rows_signs : Nat → Int) (t_rows_signs : Nat → Int)  : Option (Int × Int × Int × (Nat → Int) × (Nat → Int) × (Nat → Int) × (Nat → Int) × Int × (Nat → Int) × (Nat → Int)) :=
  (F_X4_take n p1_plan_rules p1_plan_slack p1_plan_limit p1_plan_least t_plan_least p1_plan_of t_plan_of p1_plan_set t_plan_set p1_plan_chances t_plan_chances).bind fun o1 =>
  (F_X6_take n p1_rows_size p1_rows_times t_rows_times p1_rows_signs t_rows_signs).bind fun o2 =>
  some (o1.1, o1.2.1, o1.2.2.1, o1.2.2.2.1, o1.2.2.2.2.1, o1.2.2.2.2.2.1, o1.2.2.2.2.2.2, o2.1, o2.2.1, o2.2.2)
def rm_X7_take : Room := { frames := 2, cells := 0, slots := 0, locals := 69 }
set_option maxHeartbeats 4000000 in
set_option maxRecDepth 100000 in
theorem k_X7_take {l : Launch} {D : va_G} {E : Nat → ClassId} (n : Nat) (a_t a_t_plan a_t_rows a_p1 a_p1_plan a_p1_rows a_t_plan_least a_t_plan_of a_t_plan_set a_t_plan_chances a_p1_plan_least a_p1_plan_of a_p1_plan_set a_p1_plan_chances a_t_rows_times a_t_rows_signs a_p1_rows_times a_p1_rows_signs : Nat) (t_plan_rules : Int) (t_plan_slack : Int) (t_plan_limit : Int) (p1_plan_rules : Int) (p1_plan_slack : Int) (p1_plan_limit : Int) (p1_plan_least : Nat → Int) (t_plan_least : Nat → Int) (p1_plan_of : Nat → Int) (t_plan_of : Nat → Int) (p1_plan_set : Nat → Int) (t_plan_set : Nat → Int) (p1_plan_chances : Nat → Int) (t_plan_chances : Nat → Int) (t_rows_size : Int) (p1_rows_size : Int) (p1_rows_times : Nat → Int) (t_rows_times : Nat → Int) (p1_rows_signs : Nat → Int) (t_rows_signs : Nat → Int) (res : Int × Int × Int × (Nat → Int) × (Nat → Int) × (Nat → Int) × (Nat → Int) × Int × (Nat → Int) × (Nat → Int)) (hf : F_X7_take n p1_plan_rules p1_plan_slack p1_plan_limit p1_plan_least t_plan_least p1_plan_of t_plan_of p1_plan_set t_plan_set p1_plan_chances t_plan_chances p1_rows_size p1_rows_times t_rows_times p1_rows_signs t_rows_signs = some res) : MW l yX7_take (.code yX7_take cX7_take 2 none) rm_X7_take D E [.ref a_t, .ref a_p1] [(a_t, .inr (7, [.ref a_t_plan, .ref a_t_rows])), (a_p1, .inr (7, [.ref a_p1_plan, .ref a_p1_rows])), (a_t_plan, .inr (4, [.int (z4 t_plan_rules), .ref a_t_plan_least, .ref a_t_plan_of, .ref a_t_plan_set, .ref a_t_plan_chances, .int (z4 t_plan_slack), .int (z4 t_plan_limit)])), (a_p1_plan, .inr (4, [.int (z4 p1_plan_rules), .ref a_p1_plan_least, .ref a_p1_plan_of, .ref a_p1_plan_set, .ref a_p1_plan_chances, .int (z4 p1_plan_slack), .int (z4 p1_plan_limit)])), (a_p1_plan_least, .inl (E 0, 3, .inl (A4 p1_plan_least))), (a_t_plan_least, .inl (E 0, 3, .inl (A4 t_plan_least))), (a_p1_plan_of, .inl (E 0, 3, .inl (A4 p1_plan_of))), (a_t_plan_of, .inl (E 0, 3, .inl (A4 t_plan_of))), (a_p1_plan_set, .inl (E 0, 3, .inl (A4 p1_plan_set))), (a_t_plan_set, .inl (E 0, 3, .inl (A4 t_plan_set))), (a_p1_plan_chances, .inl (E 0, 5, .inl (A4 p1_plan_chances))), (a_t_plan_chances, .inl (E 0, 5, .inl (A4 t_plan_chances))), (a_t_rows, .inr (6, [.int (z4 t_rows_size), .ref a_t_rows_times, .ref a_t_rows_signs])), (a_p1_rows, .inr (6, [.int (z4 p1_rows_size), .ref a_p1_rows_times, .ref a_p1_rows_signs])), (a_p1_rows_times, .inl (E 0, 40, .inl (A4 p1_rows_times))), (a_t_rows_times, .inl (E 0, 40, .inl (A4 t_rows_times))), (a_p1_rows_signs, .inl (E 0, 40, .inl (A4 p1_rows_signs))), (a_t_rows_signs, .inl (E 0, 40, .inl (A4 t_rows_signs)))] none [(a_t, .inr (7, [.ref a_t_plan, .ref a_t_rows])), (a_p1, .inr (7, [.ref a_p1_plan, .ref a_p1_rows])), (a_t_plan, .inr (4, [.int (z4 res.1), .ref a_t_plan_least, .ref a_t_plan_of, .ref a_t_plan_set, .ref a_t_plan_chances, .int (z4 res.2.1), .int (z4 res.2.2.1)])), (a_p1_plan, .inr (4, [.int (z4 p1_plan_rules), .ref a_p1_plan_least, .ref a_p1_plan_of, .ref a_p1_plan_set, .ref a_p1_plan_chances, .int (z4 p1_plan_slack), .int (z4 p1_plan_limit)])), (a_p1_plan_least, .inl (E 0, 3, .inl (A4 p1_plan_least))), (a_t_plan_least, .inl (E 0, 3, .inl (A4 res.2.2.2.1))), (a_p1_plan_of, .inl (E 0, 3, .inl (A4 p1_plan_of))), (a_t_plan_of, .inl (E 0, 3, .inl (A4 res.2.2.2.2.1))), (a_p1_plan_set, .inl (E 0, 3, .inl (A4 p1_plan_set))), (a_t_plan_set, .inl (E 0, 3, .inl (A4 res.2.2.2.2.2.1))), (a_p1_plan_chances, .inl (E 0, 5, .inl (A4 p1_plan_chances))), (a_t_plan_chances, .inl (E 0, 5, .inl (A4 res.2.2.2.2.2.2.1))), (a_t_rows, .inr (6, [.int (z4 res.2.2.2.2.2.2.2.1), .ref a_t_rows_times, .ref a_t_rows_signs])), (a_p1_rows, .inr (6, [.int (z4 p1_rows_size), .ref a_p1_rows_times, .ref a_p1_rows_signs])), (a_p1_rows_times, .inl (E 0, 40, .inl (A4 p1_rows_times))), (a_t_rows_times, .inl (E 0, 40, .inl (A4 res.2.2.2.2.2.2.2.2.1))), (a_p1_rows_signs, .inl (E 0, 40, .inl (A4 p1_rows_signs))), (a_t_rows_signs, .inl (E 0, 40, .inl (A4 res.2.2.2.2.2.2.2.2.2)))] := by
  refine MWv (by decide) (Nat.le_of_ble_eq_true rfl) ?_
  intro p e s m args below meth c A Q X hK hP hD hA ret ls hl
  have hS : va_S A s.heap s.heap [] := va_S.rf
  have hx := X.1
  have hb := X.2.1
  have hl : lv_has ls 2 [(0, .ref a_t), (1, .ref a_p1)] := hl
  unfold F_X7_take at hf
  refine lv_aload_n hx hb dX7_take_0 rfl (lv_at hl 0 rfl) ?_
  refine m_get X hK hP cl_X7 iT_X7 0 (by decide) fl_X7_10 0 rfl rfl dX7_take_1 ?_
  refine lv_aload_n hx hb dX7_take_4 rfl (lv_at hl 1 rfl) ?_
  refine m_get X hK hP cl_X7 iT_X7 0 (by decide) fl_X7_10 1 rfl rfl dX7_take_5 ?_
  obtain ⟨o1, ho, hf⟩ := bd_some hf
  refine m_cVW X hK hP hD hS hA (wr := [(a_t, .inr (7, [.ref a_t_plan, .ref a_t_rows])), (a_p1, .inr (7, [.ref a_p1_plan, .ref a_p1_rows])), (a_t_rows, .inr (6, [.int (z4 t_rows_size), .ref a_t_rows_times, .ref a_t_rows_signs])), (a_p1_rows, .inr (6, [.int (z4 p1_rows_size), .ref a_p1_rows_times, .ref a_p1_rows_signs])), (a_p1_rows_times, .inl (E 0, 40, .inl (A4 p1_rows_times))), (a_t_rows_times, .inl (E 0, 40, .inl (A4 t_rows_times))), (a_p1_rows_signs, .inl (E 0, 40, .inl (A4 p1_rows_signs))), (a_t_rows_signs, .inl (E 0, 40, .inl (A4 t_rows_signs)))]) (k_X4_take n a_t_plan a_t_plan_least a_t_plan_of a_t_plan_set a_t_plan_chances a_p1_plan a_p1_plan_least a_p1_plan_of a_p1_plan_set a_p1_plan_chances t_plan_rules t_plan_slack t_plan_limit p1_plan_rules p1_plan_slack p1_plan_limit p1_plan_least t_plan_least p1_plan_of t_plan_of p1_plan_set t_plan_set p1_plan_chances t_plan_chances o1 ho) [2, 3, 4, 5, 6, 7, 8, 9, 10, 11] [0, 1, 12, 13, 14, 15, 16, 17] [0, 1, 8, 9, 10, 11, 12, 13, 14, 15, 16, 17, 2, 3, 4, 5, 6, 7] [(a_t, .inr (7, [.ref a_t_plan, .ref a_t_rows])), (a_p1, .inr (7, [.ref a_p1_plan, .ref a_p1_rows])), (a_t_plan, .inr (4, [.int (z4 o1.1), .ref a_t_plan_least, .ref a_t_plan_of, .ref a_t_plan_set, .ref a_t_plan_chances, .int (z4 o1.2.1), .int (z4 o1.2.2.1)])), (a_p1_plan, .inr (4, [.int (z4 p1_plan_rules), .ref a_p1_plan_least, .ref a_p1_plan_of, .ref a_p1_plan_set, .ref a_p1_plan_chances, .int (z4 p1_plan_slack), .int (z4 p1_plan_limit)])), (a_p1_plan_least, .inl (E 0, 3, .inl (A4 p1_plan_least))), (a_t_plan_least, .inl (E 0, 3, .inl (A4 o1.2.2.2.1))), (a_p1_plan_of, .inl (E 0, 3, .inl (A4 p1_plan_of))), (a_t_plan_of, .inl (E 0, 3, .inl (A4 o1.2.2.2.2.1))), (a_p1_plan_set, .inl (E 0, 3, .inl (A4 p1_plan_set))), (a_t_plan_set, .inl (E 0, 3, .inl (A4 o1.2.2.2.2.2.1))), (a_p1_plan_chances, .inl (E 0, 5, .inl (A4 p1_plan_chances))), (a_t_plan_chances, .inl (E 0, 5, .inl (A4 o1.2.2.2.2.2.2))), (a_t_rows, .inr (6, [.int (z4 t_rows_size), .ref a_t_rows_times, .ref a_t_rows_signs])), (a_p1_rows, .inr (6, [.int (z4 p1_rows_size), .ref a_p1_rows_times, .ref a_p1_rows_signs])), (a_p1_rows_times, .inl (E 0, 40, .inl (A4 p1_rows_times))), (a_t_rows_times, .inl (E 0, 40, .inl (A4 t_rows_times))), (a_p1_rows_signs, .inl (E 0, 40, .inl (A4 p1_rows_signs))), (a_t_rows_signs, .inl (E 0, 40, .inl (A4 t_rows_signs)))] rfl rfl rfl rfl (by decide) rfl rfl rfl cl_X4 lk_X7_23 co_X4_take dy_X4_take rfl rfl ⟨Nat.le_of_ble_eq_true rfl, Nat.le_of_ble_eq_true rfl⟩ hl.1 rfl (Nat.le_of_ble_eq_true rfl) dX7_take_8 (Nat.zero_le _) (Nat.zero_le _) (fun H locs hP hD hS => ?_)
  refine lv_aload_n hx hb dX7_take_11 rfl (lv_at hl 0 rfl) ?_
  refine m_get X hK hP cl_X7 iT_X7 1 (by decide) fl_X7_19 0 rfl rfl dX7_take_12 ?_
  refine lv_aload_n hx hb dX7_take_15 rfl (lv_at hl 1 rfl) ?_
  refine m_get X hK hP cl_X7 iT_X7 1 (by decide) fl_X7_19 1 rfl rfl dX7_take_16 ?_
  obtain ⟨o2, ho, hf⟩ := bd_some hf
  refine m_cVW X hK hP hD hS hA (wr := [(a_t, .inr (7, [.ref a_t_plan, .ref a_t_rows])), (a_p1, .inr (7, [.ref a_p1_plan, .ref a_p1_rows])), (a_t_plan, .inr (4, [.int (z4 o1.1), .ref a_t_plan_least, .ref a_t_plan_of, .ref a_t_plan_set, .ref a_t_plan_chances, .int (z4 o1.2.1), .int (z4 o1.2.2.1)])), (a_p1_plan, .inr (4, [.int (z4 p1_plan_rules), .ref a_p1_plan_least, .ref a_p1_plan_of, .ref a_p1_plan_set, .ref a_p1_plan_chances, .int (z4 p1_plan_slack), .int (z4 p1_plan_limit)])), (a_p1_plan_least, .inl (E 0, 3, .inl (A4 p1_plan_least))), (a_t_plan_least, .inl (E 0, 3, .inl (A4 o1.2.2.2.1))), (a_p1_plan_of, .inl (E 0, 3, .inl (A4 p1_plan_of))), (a_t_plan_of, .inl (E 0, 3, .inl (A4 o1.2.2.2.2.1))), (a_p1_plan_set, .inl (E 0, 3, .inl (A4 p1_plan_set))), (a_t_plan_set, .inl (E 0, 3, .inl (A4 o1.2.2.2.2.2.1))), (a_p1_plan_chances, .inl (E 0, 5, .inl (A4 p1_plan_chances))), (a_t_plan_chances, .inl (E 0, 5, .inl (A4 o1.2.2.2.2.2.2)))]) (k_X6_take n a_t_rows a_t_rows_times a_t_rows_signs a_p1_rows a_p1_rows_times a_p1_rows_signs t_rows_size p1_rows_size p1_rows_times t_rows_times p1_rows_signs t_rows_signs o2 ho) [12, 13, 14, 15, 16, 17] [0, 1, 2, 3, 4, 5, 6, 7, 8, 9, 10, 11] [0, 1, 2, 3, 4, 5, 6, 7, 8, 9, 10, 11, 12, 13, 14, 15, 16, 17] [(a_t, .inr (7, [.ref a_t_plan, .ref a_t_rows])), (a_p1, .inr (7, [.ref a_p1_plan, .ref a_p1_rows])), (a_t_plan, .inr (4, [.int (z4 o1.1), .ref a_t_plan_least, .ref a_t_plan_of, .ref a_t_plan_set, .ref a_t_plan_chances, .int (z4 o1.2.1), .int (z4 o1.2.2.1)])), (a_p1_plan, .inr (4, [.int (z4 p1_plan_rules), .ref a_p1_plan_least, .ref a_p1_plan_of, .ref a_p1_plan_set, .ref a_p1_plan_chances, .int (z4 p1_plan_slack), .int (z4 p1_plan_limit)])), (a_p1_plan_least, .inl (E 0, 3, .inl (A4 p1_plan_least))), (a_t_plan_least, .inl (E 0, 3, .inl (A4 o1.2.2.2.1))), (a_p1_plan_of, .inl (E 0, 3, .inl (A4 p1_plan_of))), (a_t_plan_of, .inl (E 0, 3, .inl (A4 o1.2.2.2.2.1))), (a_p1_plan_set, .inl (E 0, 3, .inl (A4 p1_plan_set))), (a_t_plan_set, .inl (E 0, 3, .inl (A4 o1.2.2.2.2.2.1))), (a_p1_plan_chances, .inl (E 0, 5, .inl (A4 p1_plan_chances))), (a_t_plan_chances, .inl (E 0, 5, .inl (A4 o1.2.2.2.2.2.2))), (a_t_rows, .inr (6, [.int (z4 o2.1), .ref a_t_rows_times, .ref a_t_rows_signs])), (a_p1_rows, .inr (6, [.int (z4 p1_rows_size), .ref a_p1_rows_times, .ref a_p1_rows_signs])), (a_p1_rows_times, .inl (E 0, 40, .inl (A4 p1_rows_times))), (a_t_rows_times, .inl (E 0, 40, .inl (A4 o2.2.1))), (a_p1_rows_signs, .inl (E 0, 40, .inl (A4 p1_rows_signs))), (a_t_rows_signs, .inl (E 0, 40, .inl (A4 o2.2.2)))] rfl rfl rfl rfl (by decide) rfl rfl rfl cl_X6 lk_X7_27 co_X6_take dy_X6_take rfl rfl ⟨Nat.le_of_ble_eq_true rfl, Nat.le_of_ble_eq_true rfl⟩ hl.1 rfl (Nat.le_of_ble_eq_true rfl) dX7_take_19 (Nat.zero_le _) (Nat.zero_le _) (fun H locs hP hD hS => ?_)
  obtain rfl := Option.some.inj hf
  exact ret _ _ _ _ hP hD hS dX7_take_22
