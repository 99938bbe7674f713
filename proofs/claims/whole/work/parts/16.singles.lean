def F_X8_weigh_L23 (n : Nat) (p1_size : Int) (x4 : Int) (p1_signs : Nat → Int) (x3 : Int) (p2 : Nat → Int) (v23_6 : Int) (v23_7 : Int) (t_most_l23 : Int) (t_fewest_l23 : Int) : Option ((Int × Int × Int × Int) ⊕ (Int × Int)) :=
  ck (r4 v23_7 ∧ r4 p1_size) <|
  if v23_7 < p1_size then
    ck (r4 v23_7) <|
    if v23_7 < 40 then
      ck (r4 t_most_l23 ∧ r4 t_fewest_l23) <|
      if t_most_l23 < t_fewest_l23 then
        ck (hS_ v23_6 1) <|
        ck (ix_ v23_7 40) <|
        ck (hR_ x4 (p1_signs (v23_7).toNat)) <|
        ck (nn (sr_ x4 (p1_signs (v23_7).toNat)) ∧ nn 1) <|
        ck (nn (sl_ v23_6 1) ∧ nn (an_ (sr_ x4 (p1_signs (v23_7).toNat)) 1)) <|
        ck (nn (or_ (sl_ v23_6 1) (an_ (sr_ x4 (p1_signs (v23_7).toNat)) 1)) ∧ nn ((sl_ 1 x3) - 1)) <|
        (F_J6_bitCount_0f7a4 n (an_ (or_ (sl_ v23_6 1) (an_ (sr_ x4 (p1_signs (v23_7).toNat)) 1)) ((sl_ 1 x3) - 1))).bind fun o12 =>
        ck (ix_ v23_7 40) <|
        Option.bind (α := Int × Int × Int) (
          ck (r4 (p2 (v23_7).toNat)) <|
          if p2 (v23_7).toNat = 0 then
            ck (r4 t_most_l23 ∧ r4 o12) <|
            some (an_ (or_ (sl_ v23_6 1) (an_ (sr_ x4 (p1_signs (v23_7).toNat)) 1)) ((sl_ 1 x3) - 1), max t_most_l23 o12, t_fewest_l23)
          else
            ck (r4 t_fewest_l23 ∧ r4 o12) <|
            some (0, t_most_l23, min t_fewest_l23 o12)) fun o14 =>
        some (.inl (o14.1, v23_7 + 1, o14.2.1, o14.2.2))
      else
        some (.inr (t_most_l23, t_fewest_l23))
    else
      some (.inr (t_most_l23, t_fewest_l23))
  else
    some (.inr (t_most_l23, t_fewest_l23))
def F_X8_weigh (n : Nat)  (p1_size : Int) (p1_signs : Nat → Int) (p2 : Nat → Int) (x3 : Int) (x4 : Int) : Option (Int × Int) :=
  ck (hS_ 1 x3) <|
  (lp_ (fun (q : Int × Int × Int × Int) => F_X8_weigh_L23 n p1_size x4 p1_signs x3 p2 q.1 q.2.1 q.2.2.1 q.2.2.2) n (0, 0, 0, x3)).bind fun o2 =>
  some (o2.1, o2.2)
def rm_X8_weigh : Room := { frames := 1, cells := 0, slots := 0, locals := 20 }
set_option maxHeartbeats 4000000 in
set_option maxRecDepth 100000 in
theorem k_X8_weigh {l : Launch} {D : va_G} {E : Nat → ClassId} (n : Nat) (a_t a_p1 a_p1_times a_p1_signs a_p2 : Nat) (t_known : Int) (t_size : Int) (t_first : Int) (t_most : Int) (t_fewest : Int) (p1_size : Int) (p1_signs : Nat → Int) (p2 : Nat → Int) (x3 : Int) (x4 : Int) (res : Int × Int) (hf : F_X8_weigh n p1_size p1_signs p2 x3 x4 = some res) : MW l yX8_weigh (.code yX8_weigh cX8_weigh 9 none) rm_X8_weigh D E [.ref a_t, .ref a_p1, .ref a_p2, .int (z4 x3), .int (z4 x4)] [(a_t, .inr (8, [.int (z4 t_known), .int (z4 t_size), .int (z4 t_first), .int (z4 t_most), .int (z4 t_fewest)])), (a_p1, .inr (6, [.int (z4 p1_size), .ref a_p1_times, .ref a_p1_signs])), (a_p1_signs, .inl (E 0, 40, .inl (A4 p1_signs))), (a_p2, .inl (E 0, 40, .inl (A4 p2)))] none [(a_t, .inr (8, [.int (z4 t_known), .int (z4 t_size), .int (z4 t_first), .int (z4 res.1), .int (z4 res.2)])), (a_p1, .inr (6, [.int (z4 p1_size), .ref a_p1_times, .ref a_p1_signs])), (a_p1_signs, .inl (E 0, 40, .inl (A4 p1_signs))), (a_p2, .inl (E 0, 40, .inl (A4 p2)))] := by
  refine MWv (by decide) (Nat.le_of_ble_eq_true rfl) ?_
  intro p e s m args below meth c A Q X hK hP hD hA ret ls hl
  have hS : va_S A s.heap s.heap [] := va_S.rf
  have hx := X.1
  have hb := X.2.1
  have hl : lv_has ls 9 [(0, .ref a_t), (1, .ref a_p1), (2, .ref a_p2), (3, .int (z4 x3)), (4, .int (z4 x4))] := hl
  unfold F_X8_weigh at hf
  refine m_iconst X dX8_weigh_0 ?_
  refine lv_iload_n hx hb dX8_weigh_1 rfl (lv_at hl 3 rfl) ?_
  obtain ⟨h1, hf⟩ := ck_some hf
  refine m_ishl X h1 dX8_weigh_2 ?_
  refine m_iconst X dX8_weigh_3 ?_
  refine m_isub X dX8_weigh_4 ?_
  refine lv_istore (lv' := [(5, .int (z4 ((sl_ 1 x3) - 1))), (0, .ref a_t), (1, .ref a_p1), (2, .ref a_p2), (3, .int (z4 x3)), (4, .int (z4 x4))]) hx hb dX8_weigh_5 hl (by decide) rfl (fun ls hl => ?_)
  refine m_iconst X dX8_weigh_7 ?_
  refine lv_istore (lv' := [(6, .int (z4 0)), (5, .int (z4 ((sl_ 1 x3) - 1))), (0, .ref a_t), (1, .ref a_p1), (2, .ref a_p2), (3, .int (z4 x3)), (4, .int (z4 x4))]) hx hb dX8_weigh_8 hl (by decide) rfl (fun ls hl => ?_)
  refine lv_aload_n hx hb dX8_weigh_10 rfl (lv_at hl 2 rfl) ?_
  refine m_iconst X dX8_weigh_11 ?_
  refine m_put X hK hP hD hS cl_X8 iT_X8 tyX8 tyX8_ok nmX8 3 (by decide) fl_X8_26 rfl 0 rfl rfl rfl (Nat.le_of_ble_eq_true rfl) [(a_t, .inr (8, [.int (z4 t_known), .int (z4 t_size), .int (z4 t_first), .int (z4 0), .int (z4 t_fewest)])), (a_p1, .inr (6, [.int (z4 p1_size), .ref a_p1_times, .ref a_p1_signs])), (a_p1_signs, .inl (E 0, 40, .inl (A4 p1_signs))), (a_p2, .inl (E 0, 40, .inl (A4 p2)))] rfl dX8_weigh_12 (fun H locs hP hD hS => ?_)
  refine lv_aload_n hx hb dX8_weigh_15 rfl (lv_at hl 2 rfl) ?_
  refine lv_iload_n hx hb dX8_weigh_16 rfl (lv_at hl 5 rfl) ?_
  refine m_put X hK hP hD hS cl_X8 iT_X8 tyX8 tyX8_ok nmX8 4 (by decide) fl_X8_29 rfl 0 rfl rfl rfl (Nat.le_of_ble_eq_true rfl) [(a_t, .inr (8, [.int (z4 t_known), .int (z4 t_size), .int (z4 t_first), .int (z4 0), .int (z4 x3)])), (a_p1, .inr (6, [.int (z4 p1_size), .ref a_p1_times, .ref a_p1_signs])), (a_p1_signs, .inl (E 0, 40, .inl (A4 p1_signs))), (a_p2, .inl (E 0, 40, .inl (A4 p2)))] rfl dX8_weigh_17 (fun H locs hP hD hS => ?_)
  refine m_iconst X dX8_weigh_20 ?_
  refine lv_istore (lv' := [(7, .int (z4 0)), (6, .int (z4 0)), (5, .int (z4 ((sl_ 1 x3) - 1))), (0, .ref a_t), (1, .ref a_p1), (2, .ref a_p2), (3, .int (z4 x3)), (4, .int (z4 x4))]) hx hb dX8_weigh_21 hl (by decide) rfl (fun ls hl => ?_)
  obtain ⟨o2, hj2, hr2⟩ := bd_some hf
  have E2_0 : ∀ (o_ : Int × Int), o2 = o_ → ∀ (H : Heap) (locs : List Loc) (ls : Array Slot), lv_has ls 9 [] → va_P D vwCl [(a_t, .inr (8, [.int (z4 t_known), .int (z4 t_size), .int (z4 t_first), .int (z4 o_.1), .int (z4 o_.2)])), (a_p1, .inr (6, [.int (z4 p1_size), .ref a_p1_times, .ref a_p1_signs])), (a_p1_signs, .inl (E 0, 40, .inl (A4 p1_signs))), (a_p2, .inl (E 0, 40, .inl (A4 p2)))] H → va_D A [(a_t, .inr (8, [.int (z4 t_known), .int (z4 t_size), .int (z4 t_first), .int (z4 o_.1), .int (z4 o_.2)])), (a_p1, .inr (6, [.int (z4 p1_size), .ref a_p1_times, .ref a_p1_signs])), (a_p1_signs, .inl (E 0, 40, .inl (A4 p1_signs))), (a_p2, .inl (E 0, 40, .inl (A4 p2)))] → va_S A s.heap H locs → W p l e rm_X8_weigh s m args below meth c H locs 0 0 Q (F0 m 124 ls []) := by
    intro o_ ho_ H locs ls hl hP hD hS
    subst ho_
    obtain rfl := Option.some.inj hr2
    exact ret _ _ _ _ hP hD hS dX8_weigh_124
  have L2 : ∀ (k_ : Nat) (v23_6 : Int) (v23_7 : Int) (t_most_l23 : Int) (t_fewest_l23 : Int), ∀ (H : Heap) (locs : List Loc) (ls : Array Slot), lv_has ls 9 [(0, .ref a_t), (1, .ref a_p1), (2, .ref a_p2), (4, .int (z4 x4)), (5, .int (z4 ((sl_ 1 x3) - 1))), (6, .int (z4 v23_6)), (7, .int (z4 v23_7))] → va_P D vwCl [(a_t, .inr (8, [.int (z4 t_known), .int (z4 t_size), .int (z4 t_first), .int (z4 t_most_l23), .int (z4 t_fewest_l23)])), (a_p1, .inr (6, [.int (z4 p1_size), .ref a_p1_times, .ref a_p1_signs])), (a_p1_signs, .inl (E 0, 40, .inl (A4 p1_signs))), (a_p2, .inl (E 0, 40, .inl (A4 p2)))] H → va_D A [(a_t, .inr (8, [.int (z4 t_known), .int (z4 t_size), .int (z4 t_first), .int (z4 t_most_l23), .int (z4 t_fewest_l23)])), (a_p1, .inr (6, [.int (z4 p1_size), .ref a_p1_times, .ref a_p1_signs])), (a_p1_signs, .inl (E 0, 40, .inl (A4 p1_signs))), (a_p2, .inl (E 0, 40, .inl (A4 p2)))] → va_S A s.heap H locs → lp_ (fun (q : Int × Int × Int × Int) => F_X8_weigh_L23 n p1_size x4 p1_signs x3 p2 q.1 q.2.1 q.2.2.1 q.2.2.2) k_ (v23_6, v23_7, t_most_l23, t_fewest_l23) = some o2 → W p l e rm_X8_weigh s m args below meth c H locs 0 0 Q (F0 m 23 ls []) := by
    intro k_
    induction k_ with
    | zero =>
      intro v23_6 v23_7 t_most_l23 t_fewest_l23 H locs ls hl hP hD hS hq_; exact (lp_zero hq_).elim
    | succ k_ ih2 =>
      intro v23_6 v23_7 t_most_l23 t_fewest_l23 H locs ls hl hP hD hS hq_
      obtain ⟨t_2, hb2, hq2⟩ := lp_some hq_
      replace hb2 : F_X8_weigh_L23 n p1_size x4 p1_signs x3 p2 v23_6 v23_7 t_most_l23 t_fewest_l23 = some t_2 := hb2
      unfold F_X8_weigh_L23 at hb2
      refine lv_iload hx hb dX8_weigh_23 (lv_at hl 6 rfl) ?_
      refine lv_aload_n hx hb dX8_weigh_25 rfl (lv_at hl 1 rfl) ?_
      refine m_get X hK hP cl_X6 iT_X6 0 (by decide) fl_X8_38 1 rfl rfl dX8_weigh_26 ?_
      obtain ⟨h3, hb2⟩ := ck_some hb2
      refine m_icmp_ge X h3 dX8_weigh_29 (tgt := 124) (by decide) (fun (hc_ : ¬ (v23_7 < p1_size)) => ?_) (fun (hc_ : v23_7 < p1_size) => ?_)
      · rw [if_neg hc_] at hb2
        obtain rfl := Option.some.inj hb2
        exact E2_0 _ (Option.some.inj hq2).symm _ _ _ (lv_sub hl [] rfl) hP hD hS
      · rw [if_pos hc_] at hb2
        refine lv_iload hx hb dX8_weigh_32 (lv_at hl 6 rfl) ?_
        refine m_bipush X dX8_weigh_34 (by decide) ?_
        obtain ⟨h4, hb2⟩ := ck_some hb2
        refine m_icmp_ge X ⟨h4, ⟨by decide, by decide⟩⟩ dX8_weigh_36 (tgt := 124) (by decide) (fun (hc_ : ¬ (v23_7 < 40)) => ?_) (fun (hc_ : v23_7 < 40) => ?_)
        · rw [if_neg hc_] at hb2
          obtain rfl := Option.some.inj hb2
          exact E2_0 _ (Option.some.inj hq2).symm _ _ _ (lv_sub hl [] rfl) hP hD hS
        · rw [if_pos hc_] at hb2
          refine lv_aload_n hx hb dX8_weigh_39 rfl (lv_at hl 0 rfl) ?_
          refine m_get X hK hP cl_X8 iT_X8 3 (by decide) fl_X8_26 0 rfl rfl dX8_weigh_40 ?_
          refine lv_aload_n hx hb dX8_weigh_43 rfl (lv_at hl 0 rfl) ?_
          refine m_get X hK hP cl_X8 iT_X8 4 (by decide) fl_X8_29 0 rfl rfl dX8_weigh_44 ?_
          obtain ⟨h5, hb2⟩ := ck_some hb2
          refine m_icmp_ge X h5 dX8_weigh_47 (tgt := 124) (by decide) (fun (hc_ : ¬ (t_most_l23 < t_fewest_l23)) => ?_) (fun (hc_ : t_most_l23 < t_fewest_l23) => ?_)
          · rw [if_neg hc_] at hb2
            obtain rfl := Option.some.inj hb2
            exact E2_0 _ (Option.some.inj hq2).symm _ _ _ (lv_sub hl [] rfl) hP hD hS
          · rw [if_pos hc_] at hb2
            refine lv_iload hx hb dX8_weigh_50 (lv_at hl 5 rfl) ?_
            refine m_iconst X dX8_weigh_52 ?_
            obtain ⟨h6, hb2⟩ := ck_some hb2
            refine m_ishl X h6 dX8_weigh_53 ?_
            refine lv_iload hx hb dX8_weigh_54 (lv_at hl 3 rfl) ?_
            refine lv_aload_n hx hb dX8_weigh_56 rfl (lv_at hl 1 rfl) ?_
            refine m_get X hK hP cl_X6 iT_X6 2 (by decide) fl_X8_41 1 rfl rfl dX8_weigh_57 ?_
            refine lv_iload hx hb dX8_weigh_60 (lv_at hl 6 rfl) ?_
            obtain ⟨h7, hb2⟩ := ck_some hb2
            refine m_iald X hK hP 2 rfl (by decide) h7 dX8_weigh_62 ?_
            obtain ⟨h8, hb2⟩ := ck_some hb2
            refine m_ishr X h8 dX8_weigh_63 ?_
            refine m_iconst X dX8_weigh_64 ?_
            obtain ⟨h9, hb2⟩ := ck_some hb2
            refine m_iand X h9 dX8_weigh_65 ?_
            obtain ⟨h10, hb2⟩ := ck_some hb2
            refine m_ior X h10 dX8_weigh_66 ?_
            refine lv_iload hx hb dX8_weigh_67 (lv_at hl 4 rfl) ?_
            obtain ⟨h11, hb2⟩ := ck_some hb2
            refine m_iand X h11 dX8_weigh_69 ?_
            refine lv_istore (lv' := [(6, .int (z4 (an_ (or_ (sl_ v23_6 1) (an_ (sr_ x4 (p1_signs (v23_7).toNat)) 1)) ((sl_ 1 x3) - 1)))), (0, .ref a_t), (1, .ref a_p1), (2, .ref a_p2), (4, .int (z4 x4)), (5, .int (z4 ((sl_ 1 x3) - 1))), (7, .int (z4 v23_7))]) hx hb dX8_weigh_70 hl (by decide) rfl (fun ls hl => ?_)
            refine lv_iload hx hb dX8_weigh_72 (lv_at hl 0 rfl) ?_
            obtain ⟨o12, ho, hb2⟩ := bd_some hb2
            refine m_cSR X hK (k_J6_bitCount_0f7a4 n (an_ (or_ (sl_ v23_6 1) (an_ (sr_ x4 (p1_signs (v23_7).toNat)) 1)) ((sl_ 1 x3) - 1)) o12 ho) (hP.sub (ws' := []) [] rfl) lk_X8_45 co_J6_bitCount_0f7a4 dy_J6_bitCount_0f7a4 rfl rfl ⟨Nat.le_of_ble_eq_true rfl, Nat.le_of_ble_eq_true rfl⟩ hl.1 rfl (Nat.le_of_ble_eq_true rfl) dX8_weigh_74 (Nat.zero_le _) (Nat.zero_le _) ?_
            refine lv_istore (lv' := [(8, .int (z4 o12)), (6, .int (z4 (an_ (or_ (sl_ v23_6 1) (an_ (sr_ x4 (p1_signs (v23_7).toNat)) 1)) ((sl_ 1 x3) - 1)))), (0, .ref a_t), (1, .ref a_p1), (2, .ref a_p2), (4, .int (z4 x4)), (5, .int (z4 ((sl_ 1 x3) - 1))), (7, .int (z4 v23_7))]) hx hb dX8_weigh_77 hl (by decide) rfl (fun ls hl => ?_)
            refine lv_aload_n hx hb dX8_weigh_79 rfl (lv_at hl 4 rfl) ?_
            refine lv_iload hx hb dX8_weigh_80 (lv_at hl 7 rfl) ?_
            obtain ⟨h13, hb2⟩ := ck_some hb2
            refine m_iald X hK hP 3 rfl (by decide) h13 dX8_weigh_82 ?_
            obtain ⟨o14, hj14, hr14⟩ := bd_some hb2
            have J14 : ∀ (o_ : Int × Int × Int), o14 = o_ → ∀ (H : Heap) (locs : List Loc) (ls : Array Slot), lv_has ls 9 [(0, .ref a_t), (1, .ref a_p1), (2, .ref a_p2), (4, .int (z4 x4)), (5, .int (z4 ((sl_ 1 x3) - 1))), (6, .int (z4 o_.1)), (7, .int (z4 v23_7))] → va_P D vwCl [(a_t, .inr (8, [.int (z4 t_known), .int (z4 t_size), .int (z4 t_first), .int (z4 o_.2.1), .int (z4 o_.2.2)])), (a_p1, .inr (6, [.int (z4 p1_size), .ref a_p1_times, .ref a_p1_signs])), (a_p1_signs, .inl (E 0, 40, .inl (A4 p1_signs))), (a_p2, .inl (E 0, 40, .inl (A4 p2)))] H → va_D A [(a_t, .inr (8, [.int (z4 t_known), .int (z4 t_size), .int (z4 t_first), .int (z4 o_.2.1), .int (z4 o_.2.2)])), (a_p1, .inr (6, [.int (z4 p1_size), .ref a_p1_times, .ref a_p1_signs])), (a_p1_signs, .inl (E 0, 40, .inl (A4 p1_signs))), (a_p2, .inl (E 0, 40, .inl (A4 p2)))] → va_S A s.heap H locs → W p l e rm_X8_weigh s m args below meth c H locs 0 0 Q (F0 m 118 ls []) := by
              intro o_ ho_ H locs ls hl hP hD hS
              subst ho_
              refine m_iinc X 6 [(7, .int (z4 (v23_7 + 1))), (0, .ref a_t), (1, .ref a_p1), (2, .ref a_p2), (4, .int (z4 x4)), (5, .int (z4 ((sl_ 1 x3) - 1))), (6, .int (z4 o14.1))] dX8_weigh_118 hl rfl (by decide) rfl (fun ls hl => ?_)
              refine lv_goto (tgt := 23) hx hb dX8_weigh_121 (by decide) ?_
              obtain rfl := Option.some.inj hr14
              exact ih2 _ _ _ _ _ _ _ (lv_sub hl [1, 2, 3, 4, 5, 6, 0] rfl) hP hD hS hq2
            obtain ⟨h15, hj14⟩ := ck_some hj14
            refine m_if_ne X h15 dX8_weigh_83 (tgt := 102) (by decide) (fun (hc_ : ¬ (p2 (v23_7).toNat = 0)) => ?_) (fun (hc_ : p2 (v23_7).toNat = 0) => ?_)
            · rw [if_neg hc_] at hj14
              refine lv_aload_n hx hb dX8_weigh_102 rfl (lv_at hl 2 rfl) ?_
              refine lv_aload_n hx hb dX8_weigh_103 rfl (lv_at hl 2 rfl) ?_
              refine m_get X hK hP cl_X8 iT_X8 4 (by decide) fl_X8_29 0 rfl rfl dX8_weigh_104 ?_
              refine lv_iload hx hb dX8_weigh_107 (lv_at hl 0 rfl) ?_
              obtain ⟨h16, hj14⟩ := ck_some hj14
              refine m_min X ml_X8_32 st_min in_Math cd_min hl.1 (Nat.le_of_ble_eq_true rfl) (Nat.le_of_ble_eq_true rfl) (Nat.zero_le _) (Nat.zero_le _) h16 dX8_weigh_109 ?_
              refine m_put X hK hP hD hS cl_X8 iT_X8 tyX8 tyX8_ok nmX8 4 (by decide) fl_X8_29 rfl 0 rfl rfl rfl (Nat.le_of_ble_eq_true rfl) [(a_t, .inr (8, [.int (z4 t_known), .int (z4 t_size), .int (z4 t_first), .int (z4 t_most_l23), .int (z4 (min t_fewest_l23 o12))])), (a_p1, .inr (6, [.int (z4 p1_size), .ref a_p1_times, .ref a_p1_signs])), (a_p1_signs, .inl (E 0, 40, .inl (A4 p1_signs))), (a_p2, .inl (E 0, 40, .inl (A4 p2)))] rfl dX8_weigh_112 (fun H locs hP hD hS => ?_)
              refine m_iconst X dX8_weigh_115 ?_
              refine lv_istore (lv' := [(6, .int (z4 0)), (8, .int (z4 o12)), (0, .ref a_t), (1, .ref a_p1), (2, .ref a_p2), (4, .int (z4 x4)), (5, .int (z4 ((sl_ 1 x3) - 1))), (7, .int (z4 v23_7))]) hx hb dX8_weigh_116 hl (by decide) rfl (fun ls hl => ?_)
              exact J14 _ (Option.some.inj hj14).symm _ _ _ (lv_sub hl [2, 3, 4, 5, 6, 0, 7] rfl) hP hD hS
            · rw [if_pos hc_] at hj14
              refine lv_aload_n hx hb dX8_weigh_86 rfl (lv_at hl 2 rfl) ?_
              refine lv_aload_n hx hb dX8_weigh_87 rfl (lv_at hl 2 rfl) ?_
              refine m_get X hK hP cl_X8 iT_X8 3 (by decide) fl_X8_26 0 rfl rfl dX8_weigh_88 ?_
              refine lv_iload hx hb dX8_weigh_91 (lv_at hl 0 rfl) ?_
              obtain ⟨h17, hj14⟩ := ck_some hj14
              refine m_max X ml_X8_51 st_max in_Math cd_max hl.1 (Nat.le_of_ble_eq_true rfl) (Nat.le_of_ble_eq_true rfl) (Nat.zero_le _) (Nat.zero_le _) h17 dX8_weigh_93 ?_
              refine m_put X hK hP hD hS cl_X8 iT_X8 tyX8 tyX8_ok nmX8 3 (by decide) fl_X8_26 rfl 0 rfl rfl rfl (Nat.le_of_ble_eq_true rfl) [(a_t, .inr (8, [.int (z4 t_known), .int (z4 t_size), .int (z4 t_first), .int (z4 (max t_most_l23 o12)), .int (z4 t_fewest_l23)])), (a_p1, .inr (6, [.int (z4 p1_size), .ref a_p1_times, .ref a_p1_signs])), (a_p1_signs, .inl (E 0, 40, .inl (A4 p1_signs))), (a_p2, .inl (E 0, 40, .inl (A4 p2)))] rfl dX8_weigh_96 (fun H locs hP hD hS => ?_)
              refine lv_goto (tgt := 118) hx hb dX8_weigh_99 (by decide) ?_
              exact J14 _ (Option.some.inj hj14).symm _ _ _ (lv_sub hl [2, 3, 4, 5, 6, 1, 7] rfl) hP hD hS
  exact L2 n _ _ _ _ _ _ _ (lv_sub hl [3, 4, 5, 7, 2, 1, 0] rfl) hP hD hS hj2
def F_X8_search_L26 (n : Nat) (p1_size : Int) (p1_signs : Nat → Int) (p2 : Nat → Int) (v18_3 : Int) (v26_4 : Int) (t_size_l26 : Int) (t_first_l26 : Int) (t_most_l26 : Int) (t_fewest_l26 : Int) : Option ((Int × Int × Int × Int × Int) ⊕ (Int × Int × Int × Int)) :=
  ck (r4 v26_4) <|
  if 31 < v26_4 then
    some (.inr (t_size_l26, t_first_l26, t_most_l26, t_fewest_l26))
  else
    (F_X8_weigh n p1_size p1_signs p2 v18_3 v26_4).bind fun o5 =>
    Option.bind (α := Int × Int) (
      ck (r4 (o5.1 + 1) ∧ r4 o5.2) <|
      if o5.2 < o5.1 + 1 then
        some (t_size_l26, t_first_l26)
      else
        Option.bind (α := Int) (
          ck (r4 t_first_l26) <|
          if t_first_l26 = (-9) then
            some (((1000 * v18_3) + (100 * (o5.1 + 1))) + v26_4)
          else
            ck (r4 t_first_l26 ∧ r4 (((1000 * v18_3) + (100 * (o5.1 + 1))) + v26_4)) <|
            some (min t_first_l26 (((1000 * v18_3) + (100 * (o5.1 + 1))) + v26_4))) fun o8 =>
        some (t_size_l26 + (o5.2 - o5.1), o8)) fun o6 =>
    some (.inl (v26_4 + 1, o6.1, o6.2, o5.1, o5.2))
def F_X8_search_L18 (n : Nat) (p1_size : Int) (p1_signs : Nat → Int) (p2 : Nat → Int) (v18_3 : Int) (t_size_l18 : Int) (t_first_l18 : Int) (t_most_l18 : Int) (t_fewest_l18 : Int) : Option ((Int × Int × Int × Int × Int) ⊕ (Int × Int × Int × Int)) :=
  ck (r4 v18_3) <|
  if 4 < v18_3 then
    some (.inr (t_size_l18, t_first_l18, t_most_l18, t_fewest_l18))
  else
    (lp_ (fun (q : Int × Int × Int × Int × Int) => F_X8_search_L26 n p1_size p1_signs p2 v18_3 q.1 q.2.1 q.2.2.1 q.2.2.2.1 q.2.2.2.2) n (1, t_size_l18, t_first_l18, t_most_l18, t_fewest_l18)).bind fun o3 =>
    some (.inl (v18_3 + 1, o3.1, o3.2.1, o3.2.2.1, o3.2.2.2))
def F_X8_search (n : Nat)  (t_most : Int) (t_fewest : Int) (p1_size : Int) (p1_signs : Nat → Int) (p2 : Nat → Int)  : Option (Int × Int × Int × Int × Int) :=
  (lp_ (fun (q : Int × Int × Int × Int × Int) => F_X8_search_L18 n p1_size p1_signs p2 q.1 q.2.1 q.2.2.1 q.2.2.2.1 q.2.2.2.2) n (1, 0, (-9), t_most, t_fewest)).bind fun o1 =>
  some (1, o1.1, o1.2.1, o1.2.2.1, o1.2.2.2)
def rm_X8_search : Room := { frames := 2, cells := 0, slots := 0, locals := 48 }
set_option maxHeartbeats 4000000 in
set_option maxRecDepth 100000 in
theorem k_X8_search {l : Launch} {D : va_G} {E : Nat → ClassId} (n : Nat) (a_t a_p1 a_p1_times a_p1_signs a_p2 : Nat) (t_known : Int) (t_size : Int) (t_first : Int) (t_most : Int) (t_fewest : Int) (p1_size : Int) (p1_signs : Nat → Int) (p2 : Nat → Int) (res : Int × Int × Int × Int × Int) (hf : F_X8_search n t_most t_fewest p1_size p1_signs p2 = some res) : MW l yX8_search (.code yX8_search cX8_search 7 none) rm_X8_search D E [.ref a_t, .ref a_p1, .ref a_p2] [(a_t, .inr (8, [.int (z4 t_known), .int (z4 t_size), .int (z4 t_first), .int (z4 t_most), .int (z4 t_fewest)])), (a_p1, .inr (6, [.int (z4 p1_size), .ref a_p1_times, .ref a_p1_signs])), (a_p1_signs, .inl (E 0, 40, .inl (A4 p1_signs))), (a_p2, .inl (E 0, 40, .inl (A4 p2)))] none [(a_t, .inr (8, [.int (z4 res.1), .int (z4 res.2.1), .int (z4 res.2.2.1), .int (z4 res.2.2.2.1), .int (z4 res.2.2.2.2)])), (a_p1, .inr (6, [.int (z4 p1_size), .ref a_p1_times, .ref a_p1_signs])), (a_p1_signs, .inl (E 0, 40, .inl (A4 p1_signs))), (a_p2, .inl (E 0, 40, .inl (A4 p2)))] := by
  refine MWv (by decide) (Nat.le_of_ble_eq_true rfl) ?_
  intro p e s m args below meth c A Q X hK hP hD hA ret ls hl
  have hS : va_S A s.heap s.heap [] := va_S.rf
  have hx := X.1
  have hb := X.2.1
  have hl : lv_has ls 7 [(0, .ref a_t), (1, .ref a_p1), (2, .ref a_p2)] := hl
  unfold F_X8_search at hf
  refine lv_aload_n hx hb dX8_search_0 rfl (lv_at hl 0 rfl) ?_
  refine m_iconst X dX8_search_1 ?_
  refine m_put X hK hP hD hS cl_X8 iT_X8 tyX8 tyX8_ok nmX8 0 (by decide) fl_X8_9 rfl 0 rfl rfl rfl (Nat.le_of_ble_eq_true rfl) [(a_t, .inr (8, [.int (z4 1), .int (z4 t_size), .int (z4 t_first), .int (z4 t_most), .int (z4 t_fewest)])), (a_p1, .inr (6, [.int (z4 p1_size), .ref a_p1_times, .ref a_p1_signs])), (a_p1_signs, .inl (E 0, 40, .inl (A4 p1_signs))), (a_p2, .inl (E 0, 40, .inl (A4 p2)))] rfl dX8_search_2 (fun H locs hP hD hS => ?_)
  refine lv_aload_n hx hb dX8_search_5 rfl (lv_at hl 0 rfl) ?_
  refine m_iconst X dX8_search_6 ?_
  refine m_put X hK hP hD hS cl_X8 iT_X8 tyX8 tyX8_ok nmX8 1 (by decide) fl_X8_15 rfl 0 rfl rfl rfl (Nat.le_of_ble_eq_true rfl) [(a_t, .inr (8, [.int (z4 1), .int (z4 0), .int (z4 t_first), .int (z4 t_most), .int (z4 t_fewest)])), (a_p1, .inr (6, [.int (z4 p1_size), .ref a_p1_times, .ref a_p1_signs])), (a_p1_signs, .inl (E 0, 40, .inl (A4 p1_signs))), (a_p2, .inl (E 0, 40, .inl (A4 p2)))] rfl dX8_search_7 (fun H locs hP hD hS => ?_)
  refine lv_aload_n hx hb dX8_search_10 rfl (lv_at hl 0 rfl) ?_
  refine m_bipush X dX8_search_11 (by decide) ?_
  refine m_put X hK hP hD hS cl_X8 iT_X8 tyX8 tyX8_ok nmX8 2 (by decide) fl_X8_19 rfl 0 rfl rfl rfl (Nat.le_of_ble_eq_true rfl) [(a_t, .inr (8, [.int (z4 1), .int (z4 0), .int (z4 (-9)), .int (z4 t_most), .int (z4 t_fewest)])), (a_p1, .inr (6, [.int (z4 p1_size), .ref a_p1_times, .ref a_p1_signs])), (a_p1_signs, .inl (E 0, 40, .inl (A4 p1_signs))), (a_p2, .inl (E 0, 40, .inl (A4 p2)))] rfl dX8_search_13 (fun H locs hP hD hS => ?_)
  refine m_iconst X dX8_search_16 ?_
  refine lv_istore_n (lv' := [(3, .int (z4 1)), (0, .ref a_t), (1, .ref a_p1), (2, .ref a_p2)]) hx hb dX8_search_17 rfl hl (by decide) rfl (fun ls hl => ?_)
  obtain ⟨o1, hj1, hr1⟩ := bd_some hf
  have E1_0 : ∀ (o_ : Int × Int × Int × Int), o1 = o_ → ∀ (H : Heap) (locs : List Loc) (ls : Array Slot), lv_has ls 7 [] → va_P D vwCl [(a_t, .inr (8, [.int (z4 1), .int (z4 o_.1), .int (z4 o_.2.1), .int (z4 o_.2.2.1), .int (z4 o_.2.2.2)])), (a_p1, .inr (6, [.int (z4 p1_size), .ref a_p1_times, .ref a_p1_signs])), (a_p1_signs, .inl (E 0, 40, .inl (A4 p1_signs))), (a_p2, .inl (E 0, 40, .inl (A4 p2)))] H → va_D A [(a_t, .inr (8, [.int (z4 1), .int (z4 o_.1), .int (z4 o_.2.1), .int (z4 o_.2.2.1), .int (z4 o_.2.2.2)])), (a_p1, .inr (6, [.int (z4 p1_size), .ref a_p1_times, .ref a_p1_signs])), (a_p1_signs, .inl (E 0, 40, .inl (A4 p1_signs))), (a_p2, .inl (E 0, 40, .inl (A4 p2)))] → va_S A s.heap H locs → W p l e rm_X8_search s m args below meth c H locs 0 0 Q (F0 m 132 ls []) := by
    intro o_ ho_ H locs ls hl hP hD hS
    subst ho_
    obtain rfl := Option.some.inj hr1
    exact ret _ _ _ _ hP hD hS dX8_search_132
  have L1 : ∀ (k_ : Nat) (v18_3 : Int) (t_size_l18 : Int) (t_first_l18 : Int) (t_most_l18 : Int) (t_fewest_l18 : Int), ∀ (H : Heap) (locs : List Loc) (ls : Array Slot), lv_has ls 7 [(0, .ref a_t), (1, .ref a_p1), (2, .ref a_p2), (3, .int (z4 v18_3))] → va_P D vwCl [(a_t, .inr (8, [.int (z4 1), .int (z4 t_size_l18), .int (z4 t_first_l18), .int (z4 t_most_l18), .int (z4 t_fewest_l18)])), (a_p1, .inr (6, [.int (z4 p1_size), .ref a_p1_times, .ref a_p1_signs])), (a_p1_signs, .inl (E 0, 40, .inl (A4 p1_signs))), (a_p2, .inl (E 0, 40, .inl (A4 p2)))] H → va_D A [(a_t, .inr (8, [.int (z4 1), .int (z4 t_size_l18), .int (z4 t_first_l18), .int (z4 t_most_l18), .int (z4 t_fewest_l18)])), (a_p1, .inr (6, [.int (z4 p1_size), .ref a_p1_times, .ref a_p1_signs])), (a_p1_signs, .inl (E 0, 40, .inl (A4 p1_signs))), (a_p2, .inl (E 0, 40, .inl (A4 p2)))] → va_S A s.heap H locs → lp_ (fun (q : Int × Int × Int × Int × Int) => F_X8_search_L18 n p1_size p1_signs p2 q.1 q.2.1 q.2.2.1 q.2.2.2.1 q.2.2.2.2) k_ (v18_3, t_size_l18, t_first_l18, t_most_l18, t_fewest_l18) = some o1 → W p l e rm_X8_search s m args below meth c H locs 0 0 Q (F0 m 18 ls []) := by
    intro k_
    induction k_ with
    | zero =>
      intro v18_3 t_size_l18 t_first_l18 t_most_l18 t_fewest_l18 H locs ls hl hP hD hS hq_; exact (lp_zero hq_).elim
    | succ k_ ih1 =>
      intro v18_3 t_size_l18 t_first_l18 t_most_l18 t_fewest_l18 H locs ls hl hP hD hS hq_
      obtain ⟨t_1, hb1, hq1⟩ := lp_some hq_
      replace hb1 : F_X8_search_L18 n p1_size p1_signs p2 v18_3 t_size_l18 t_first_l18 t_most_l18 t_fewest_l18 = some t_1 := hb1
      unfold F_X8_search_L18 at hb1
      refine lv_iload_n hx hb dX8_search_18 rfl (lv_at hl 3 rfl) ?_
      refine m_iconst X dX8_search_19 ?_
      obtain ⟨h2, hb1⟩ := ck_some hb1
      refine m_icmp_gt X ⟨h2, ⟨by decide, by decide⟩⟩ dX8_search_20 (tgt := 132) (by decide) (fun (hc_ : 4 < v18_3) => ?_) (fun (hc_ : ¬ (4 < v18_3)) => ?_)
      · rw [if_pos hc_] at hb1
        obtain rfl := Option.some.inj hb1
        exact E1_0 _ (Option.some.inj hq1).symm _ _ _ (lv_sub hl [] rfl) hP hD hS
      · rw [if_neg hc_] at hb1
        refine m_iconst X dX8_search_23 ?_
        refine lv_istore (lv' := [(4, .int (z4 1)), (0, .ref a_t), (1, .ref a_p1), (2, .ref a_p2), (3, .int (z4 v18_3))]) hx hb dX8_search_24 hl (by decide) rfl (fun ls hl => ?_)
        obtain ⟨o3, hj3, hr3⟩ := bd_some hb1
        have E3_0 : ∀ (o_ : Int × Int × Int × Int), o3 = o_ → ∀ (H : Heap) (locs : List Loc) (ls : Array Slot), lv_has ls 7 [(0, .ref a_t), (1, .ref a_p1), (2, .ref a_p2), (3, .int (z4 v18_3))] → va_P D vwCl [(a_t, .inr (8, [.int (z4 1), .int (z4 o_.1), .int (z4 o_.2.1), .int (z4 o_.2.2.1), .int (z4 o_.2.2.2)])), (a_p1, .inr (6, [.int (z4 p1_size), .ref a_p1_times, .ref a_p1_signs])), (a_p1_signs, .inl (E 0, 40, .inl (A4 p1_signs))), (a_p2, .inl (E 0, 40, .inl (A4 p2)))] H → va_D A [(a_t, .inr (8, [.int (z4 1), .int (z4 o_.1), .int (z4 o_.2.1), .int (z4 o_.2.2.1), .int (z4 o_.2.2.2)])), (a_p1, .inr (6, [.int (z4 p1_size), .ref a_p1_times, .ref a_p1_signs])), (a_p1_signs, .inl (E 0, 40, .inl (A4 p1_signs))), (a_p2, .inl (E 0, 40, .inl (A4 p2)))] → va_S A s.heap H locs → W p l e rm_X8_search s m args below meth c H locs 0 0 Q (F0 m 126 ls []) := by
          intro o_ ho_ H locs ls hl hP hD hS
          subst ho_
          refine m_iinc X 3 [(3, .int (z4 (v18_3 + 1))), (0, .ref a_t), (1, .ref a_p1), (2, .ref a_p2)] dX8_search_126 hl rfl (by decide) rfl (fun ls hl => ?_)
          refine lv_goto (tgt := 18) hx hb dX8_search_129 (by decide) ?_
          obtain rfl := Option.some.inj hr3
          exact ih1 _ _ _ _ _ _ _ _ (lv_sub hl [1, 2, 3, 0] rfl) hP hD hS hq1
        have L3 : ∀ (k_ : Nat) (v26_4 : Int) (t_size_l26 : Int) (t_first_l26 : Int) (t_most_l26 : Int) (t_fewest_l26 : Int), ∀ (H : Heap) (locs : List Loc) (ls : Array Slot), lv_has ls 7 [(0, .ref a_t), (1, .ref a_p1), (2, .ref a_p2), (3, .int (z4 v18_3)), (4, .int (z4 v26_4))] → va_P D vwCl [(a_t, .inr (8, [.int (z4 1), .int (z4 t_size_l26), .int (z4 t_first_l26), .int (z4 t_most_l26), .int (z4 t_fewest_l26)])), (a_p1, .inr (6, [.int (z4 p1_size), .ref a_p1_times, .ref a_p1_signs])), (a_p1_signs, .inl (E 0, 40, .inl (A4 p1_signs))), (a_p2, .inl (E 0, 40, .inl (A4 p2)))] H → va_D A [(a_t, .inr (8, [.int (z4 1), .int (z4 t_size_l26), .int (z4 t_first_l26), .int (z4 t_most_l26), .int (z4 t_fewest_l26)])), (a_p1, .inr (6, [.int (z4 p1_size), .ref a_p1_times, .ref a_p1_signs])), (a_p1_signs, .inl (E 0, 40, .inl (A4 p1_signs))), (a_p2, .inl (E 0, 40, .inl (A4 p2)))] → va_S A s.heap H locs → lp_ (fun (q : Int × Int × Int × Int × Int) => F_X8_search_L26 n p1_size p1_signs p2 v18_3 q.1 q.2.1 q.2.2.1 q.2.2.2.1 q.2.2.2.2) k_ (v26_4, t_size_l26, t_first_l26, t_most_l26, t_fewest_l26) = some o3 → W p l e rm_X8_search s m args below meth c H locs 0 0 Q (F0 m 26 ls []) := by
          intro k_
          induction k_ with
          | zero =>
            intro v26_4 t_size_l26 t_first_l26 t_most_l26 t_fewest_l26 H locs ls hl hP hD hS hq_; exact (lp_zero hq_).elim
          | succ k_ ih3 =>
            intro v26_4 t_size_l26 t_first_l26 t_most_l26 t_fewest_l26 H locs ls hl hP hD hS hq_
            obtain ⟨t_3, hb3, hq3⟩ := lp_some hq_
            replace hb3 : F_X8_search_L26 n p1_size p1_signs p2 v18_3 v26_4 t_size_l26 t_first_l26 t_most_l26 t_fewest_l26 = some t_3 := hb3
            unfold F_X8_search_L26 at hb3
            refine lv_iload hx hb dX8_search_26 (lv_at hl 4 rfl) ?_
            refine m_bipush X dX8_search_28 (by decide) ?_
            obtain ⟨h4, hb3⟩ := ck_some hb3
            refine m_icmp_gt X ⟨h4, ⟨by decide, by decide⟩⟩ dX8_search_30 (tgt := 126) (by decide) (fun (hc_ : 31 < v26_4) => ?_) (fun (hc_ : ¬ (31 < v26_4)) => ?_)
            · rw [if_pos hc_] at hb3
              obtain rfl := Option.some.inj hb3
              exact E3_0 _ (Option.some.inj hq3).symm _ _ _ (lv_sub hl [0, 1, 2, 3] rfl) hP hD hS
            · rw [if_neg hc_] at hb3
              refine lv_aload_n hx hb dX8_search_33 rfl (lv_at hl 0 rfl) ?_
              refine lv_aload_n hx hb dX8_search_34 rfl (lv_at hl 1 rfl) ?_
              refine lv_aload_n hx hb dX8_search_35 rfl (lv_at hl 2 rfl) ?_
              refine lv_iload_n hx hb dX8_search_36 rfl (lv_at hl 3 rfl) ?_
              refine lv_iload hx hb dX8_search_37 (lv_at hl 4 rfl) ?_
              obtain ⟨o5, ho, hb3⟩ := bd_some hb3
              refine m_cVW X hK hP hD hS hA (wr := []) (k_X8_weigh n a_t a_p1 a_p1_times a_p1_signs a_p2 1 t_size_l26 t_first_l26 t_most_l26 t_fewest_l26 p1_size p1_signs p2 v18_3 v26_4 o5 ho) [0, 1, 2, 3] [] [0, 1, 2, 3] [(a_t, .inr (8, [.int (z4 1), .int (z4 t_size_l26), .int (z4 t_first_l26), .int (z4 o5.1), .int (z4 o5.2)])), (a_p1, .inr (6, [.int (z4 p1_size), .ref a_p1_times, .ref a_p1_signs])), (a_p1_signs, .inl (E 0, 40, .inl (A4 p1_signs))), (a_p2, .inl (E 0, 40, .inl (A4 p2)))] rfl rfl rfl rfl (by decide) rfl rfl rfl cl_X8 lk_X8_22 co_X8_weigh dy_X8_weigh rfl rfl ⟨Nat.le_of_ble_eq_true rfl, Nat.le_of_ble_eq_true rfl⟩ hl.1 rfl (Nat.le_of_ble_eq_true rfl) dX8_search_39 (Nat.zero_le _) (Nat.zero_le _) (fun H locs hP hD hS => ?_)
              refine lv_aload_n hx hb dX8_search_42 rfl (lv_at hl 0 rfl) ?_
              refine m_get X hK hP cl_X8 iT_X8 3 (by decide) fl_X8_26 0 rfl rfl dX8_search_43 ?_
              refine m_iconst X dX8_search_46 ?_
              refine m_iadd X dX8_search_47 ?_
              refine lv_istore (lv' := [(5, .int (z4 (o5.1 + 1))), (0, .ref a_t), (1, .ref a_p1), (2, .ref a_p2), (3, .int (z4 v18_3)), (4, .int (z4 v26_4))]) hx hb dX8_search_48 hl (by decide) rfl (fun ls hl => ?_)
              refine lv_iload hx hb dX8_search_50 (lv_at hl 0 rfl) ?_
              refine lv_aload_n hx hb dX8_search_52 rfl (lv_at hl 1 rfl) ?_
              refine m_get X hK hP cl_X8 iT_X8 4 (by decide) fl_X8_29 0 rfl rfl dX8_search_53 ?_
              obtain ⟨o6, hj6, hr6⟩ := bd_some hb3
              have J6 : ∀ (o_ : Int × Int), o6 = o_ → ∀ (H : Heap) (locs : List Loc) (ls : Array Slot), lv_has ls 7 [(0, .ref a_t), (1, .ref a_p1), (2, .ref a_p2), (3, .int (z4 v18_3)), (4, .int (z4 v26_4))] → va_P D vwCl [(a_t, .inr (8, [.int (z4 1), .int (z4 o_.1), .int (z4 o_.2), .int (z4 o5.1), .int (z4 o5.2)])), (a_p1, .inr (6, [.int (z4 p1_size), .ref a_p1_times, .ref a_p1_signs])), (a_p1_signs, .inl (E 0, 40, .inl (A4 p1_signs))), (a_p2, .inl (E 0, 40, .inl (A4 p2)))] H → va_D A [(a_t, .inr (8, [.int (z4 1), .int (z4 o_.1), .int (z4 o_.2), .int (z4 o5.1), .int (z4 o5.2)])), (a_p1, .inr (6, [.int (z4 p1_size), .ref a_p1_times, .ref a_p1_signs])), (a_p1_signs, .inl (E 0, 40, .inl (A4 p1_signs))), (a_p2, .inl (E 0, 40, .inl (A4 p2)))] → va_S A s.heap H locs → W p l e rm_X8_search s m args below meth c H locs 0 0 Q (F0 m 120 ls []) := by
                intro o_ ho_ H locs ls hl hP hD hS
                subst ho_
                refine m_iinc X 4 [(4, .int (z4 (v26_4 + 1))), (0, .ref a_t), (1, .ref a_p1), (2, .ref a_p2), (3, .int (z4 v18_3))] dX8_search_120 hl rfl (by decide) rfl (fun ls hl => ?_)
                refine lv_goto (tgt := 26) hx hb dX8_search_123 (by decide) ?_
                obtain rfl := Option.some.inj hr6
                exact ih3 _ _ _ _ _ _ _ _ (lv_sub hl [1, 2, 3, 4, 0] rfl) hP hD hS hq3
              obtain ⟨h7, hj6⟩ := ck_some hj6
              refine m_icmp_gt X h7 dX8_search_56 (tgt := 120) (by decide) (fun (hc_ : o5.2 < o5.1 + 1) => ?_) (fun (hc_ : ¬ (o5.2 < o5.1 + 1)) => ?_)
              · rw [if_pos hc_] at hj6
                exact J6 _ (Option.some.inj hj6).symm _ _ _ (lv_sub hl [1, 2, 3, 4, 5] rfl) hP hD hS
              · rw [if_neg hc_] at hj6
                refine lv_aload_n hx hb dX8_search_59 rfl (lv_at hl 1 rfl) ?_
                refine lv_dup hx hb dX8_search_60 rfl ?_
                refine m_get X hK hP cl_X8 iT_X8 1 (by decide) fl_X8_15 0 rfl rfl dX8_search_61 ?_
                refine lv_aload_n hx hb dX8_search_64 rfl (lv_at hl 1 rfl) ?_
                refine m_get X hK hP cl_X8 iT_X8 4 (by decide) fl_X8_29 0 rfl rfl dX8_search_65 ?_
                refine lv_aload_n hx hb dX8_search_68 rfl (lv_at hl 1 rfl) ?_
                refine m_get X hK hP cl_X8 iT_X8 3 (by decide) fl_X8_26 0 rfl rfl dX8_search_69 ?_
                refine m_isub X dX8_search_72 ?_
                refine m_iadd X dX8_search_73 ?_
                refine m_put X hK hP hD hS cl_X8 iT_X8 tyX8 tyX8_ok nmX8 1 (by decide) fl_X8_15 rfl 0 rfl rfl rfl (Nat.le_of_ble_eq_true rfl) [(a_t, .inr (8, [.int (z4 1), .int (z4 (t_size_l26 + (o5.2 - o5.1))), .int (z4 t_first_l26), .int (z4 o5.1), .int (z4 o5.2)])), (a_p1, .inr (6, [.int (z4 p1_size), .ref a_p1_times, .ref a_p1_signs])), (a_p1_signs, .inl (E 0, 40, .inl (A4 p1_signs))), (a_p2, .inl (E 0, 40, .inl (A4 p2)))] rfl dX8_search_74 (fun H locs hP hD hS => ?_)
                refine m_sipush X dX8_search_77 (by decide) ?_
                refine lv_iload_n hx hb dX8_search_80 rfl (lv_at hl 4 rfl) ?_
                refine m_imul X dX8_search_81 ?_
                refine m_bipush X dX8_search_82 (by decide) ?_
                refine lv_iload hx hb dX8_search_84 (lv_at hl 0 rfl) ?_
                refine m_imul X dX8_search_86 ?_
                refine m_iadd X dX8_search_87 ?_
                refine lv_iload hx hb dX8_search_88 (lv_at hl 5 rfl) ?_
                refine m_iadd X dX8_search_90 ?_
                refine lv_istore (lv' := [(6, .int (z4 (((1000 * v18_3) + (100 * (o5.1 + 1))) + v26_4))), (5, .int (z4 (o5.1 + 1))), (0, .ref a_t), (1, .ref a_p1), (2, .ref a_p2), (3, .int (z4 v18_3)), (4, .int (z4 v26_4))]) hx hb dX8_search_91 hl (by decide) rfl (fun ls hl => ?_)
                refine lv_aload_n hx hb dX8_search_93 rfl (lv_at hl 2 rfl) ?_
                refine lv_aload_n hx hb dX8_search_94 rfl (lv_at hl 2 rfl) ?_
                refine m_get X hK hP cl_X8 iT_X8 2 (by decide) fl_X8_19 0 rfl rfl dX8_search_95 ?_
                refine m_bipush X dX8_search_98 (by decide) ?_
                obtain ⟨o8, hj8, hr8⟩ := bd_some hj6
                have J8 : ∀ (o_ : Int), o8 = o_ → ∀ (H : Heap) (locs : List Loc) (ls : Array Slot), lv_has ls 7 [(0, .ref a_t), (1, .ref a_p1), (2, .ref a_p2), (3, .int (z4 v18_3)), (4, .int (z4 v26_4))] → va_P D vwCl [(a_t, .inr (8, [.int (z4 1), .int (z4 (t_size_l26 + (o5.2 - o5.1))), .int (z4 t_first_l26), .int (z4 o5.1), .int (z4 o5.2)])), (a_p1, .inr (6, [.int (z4 p1_size), .ref a_p1_times, .ref a_p1_signs])), (a_p1_signs, .inl (E 0, 40, .inl (A4 p1_signs))), (a_p2, .inl (E 0, 40, .inl (A4 p2)))] H → va_D A [(a_t, .inr (8, [.int (z4 1), .int (z4 (t_size_l26 + (o5.2 - o5.1))), .int (z4 t_first_l26), .int (z4 o5.1), .int (z4 o5.2)])), (a_p1, .inr (6, [.int (z4 p1_size), .ref a_p1_times, .ref a_p1_signs])), (a_p1_signs, .inl (E 0, 40, .inl (A4 p1_signs))), (a_p2, .inl (E 0, 40, .inl (A4 p2)))] → va_S A s.heap H locs → W p l e rm_X8_search s m args below meth c H locs 0 0 Q (F0 m 117 ls [.int (z4 o_), .ref a_t]) := by
                  intro o_ ho_ H locs ls hl hP hD hS
                  subst ho_
                  refine m_put X hK hP hD hS cl_X8 iT_X8 tyX8 tyX8_ok nmX8 2 (by decide) fl_X8_19 rfl 0 rfl rfl rfl (Nat.le_of_ble_eq_true rfl) [(a_t, .inr (8, [.int (z4 1), .int (z4 (t_size_l26 + (o5.2 - o5.1))), .int (z4 o8), .int (z4 o5.1), .int (z4 o5.2)])), (a_p1, .inr (6, [.int (z4 p1_size), .ref a_p1_times, .ref a_p1_signs])), (a_p1_signs, .inl (E 0, 40, .inl (A4 p1_signs))), (a_p2, .inl (E 0, 40, .inl (A4 p2)))] rfl dX8_search_117 (fun H locs hP hD hS => ?_)
                  exact J6 _ (Option.some.inj hr8).symm _ _ _ (lv_sub hl [0, 1, 2, 3, 4] rfl) hP hD hS
                obtain ⟨h9, hj8⟩ := ck_some hj8
                refine m_icmp_ne X ⟨h9, ⟨by decide, by decide⟩⟩ dX8_search_100 (tgt := 108) (by decide) (fun (hc_ : ¬ (t_first_l26 = (-9))) => ?_) (fun (hc_ : t_first_l26 = (-9)) => ?_)
                · rw [if_neg hc_] at hj8
                  refine lv_aload_n hx hb dX8_search_108 rfl (lv_at hl 2 rfl) ?_
                  refine m_get X hK hP cl_X8 iT_X8 2 (by decide) fl_X8_19 0 rfl rfl dX8_search_109 ?_
                  refine lv_iload hx hb dX8_search_112 (lv_at hl 0 rfl) ?_
                  obtain ⟨h10, hj8⟩ := ck_some hj8
                  refine m_min X ml_X8_32 st_min in_Math cd_min hl.1 (Nat.le_of_ble_eq_true rfl) (Nat.le_of_ble_eq_true rfl) (Nat.zero_le _) (Nat.zero_le _) h10 dX8_search_114 ?_
                  exact J8 _ (Option.some.inj hj8).symm _ _ _ (lv_sub hl [2, 3, 4, 5, 6] rfl) hP hD hS
                · rw [if_pos hc_] at hj8
                  refine lv_iload hx hb dX8_search_103 (lv_at hl 0 rfl) ?_
                  refine lv_goto (tgt := 117) hx hb dX8_search_105 (by decide) ?_
                  exact J8 _ (Option.some.inj hj8).symm _ _ _ (lv_sub hl [2, 3, 4, 5, 6] rfl) hP hD hS
        exact L3 n _ _ _ _ _ _ _ _ (lv_sub hl [1, 2, 3, 4, 0] rfl) hP hD hS hj3
  exact L1 n _ _ _ _ _ _ _ _ (lv_sub hl [1, 2, 3, 0] rfl) hP hD hS hj1
