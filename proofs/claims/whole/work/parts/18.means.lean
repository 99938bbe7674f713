theorem nf_ {x : Int} (h : x = 0 ∨ x = 1) : fits .boolean (.int (z4 x)) = true := by rcases h with rfl | rfl <;> rfl
def F_X2_inverseOf_L9 (n : Nat) (v9_1 : Int) (v9_3 : Int) (v9_5 : Int) : Option ((Int × Int × Int) ⊕ (Int)) :=
  ck (r4 v9_5) <|
  if 0 < v9_5 then
    ck (nn v9_5 ∧ nn 1) <|
    Option.bind (α := Int) (
      ck (r4 (an_ v9_5 1)) <|
      if an_ v9_5 1 = 0 then
        some v9_1
      else
        ck (d8_ (v9_1 * v9_3) 1000003) <|
        some ((v9_1 * v9_3) % 1000003)) fun o5 =>
    ck (d8_ (v9_3 * v9_3) 1000003) <|
    ck (hR_ v9_5 1) <|
    some (.inl (o5, (v9_3 * v9_3) % 1000003, sr_ v9_5 1))
  else
    some (.inr v9_1)
def F_X2_inverseOf (n : Nat)   (x0 : Int) : Option (Int) :=
  ck (r4 x0) <|
  (lp_ (fun (q : Int × Int × Int) => F_X2_inverseOf_L9 n q.1 q.2.1 q.2.2) n (1, x0, 1000001)).bind fun o2 =>
  some o2
def rm_X2_inverseOf : Room := { frames := 0, cells := 0, slots := 0, locals := 0 }
set_option maxHeartbeats 4000000 in
set_option maxRecDepth 100000 in
theorem k_X2_inverseOf {l : Launch} {D : va_G} {E : Nat → ClassId} (n : Nat) (x0 : Int) (res : Int) (hf : F_X2_inverseOf n x0 = some res) : MR l yX2_inverseOf (.code yX2_inverseOf cX2_inverseOf 6 (some .long)) rm_X2_inverseOf D E [.int (z4 x0)] [] (some (.long (z8 res))) := by
  refine MRl (by decide) (Nat.le_of_ble_eq_true rfl) ?_
  intro p e s m args below meth c Q X hK hP ret ls hl
  have hx := X.1
  have hb := X.2.1
  have hl : lv_has ls 6 [(0, .int (z4 x0))] := hl
  unfold F_X2_inverseOf at hf
  refine m_lconst X 1 rfl dX2_inverseOf_0 ?_
  refine lv_lstore_n (lv' := [(1, .long (z8 1)), (0, .int (z4 x0))]) hx hb dX2_inverseOf_1 rfl hl (by decide) rfl (fun ls hl => ?_)
  refine lv_iload_n hx hb dX2_inverseOf_2 rfl (lv_at hl 1 rfl) ?_
  obtain ⟨h1, hf⟩ := ck_some hf
  refine m_i2l X h1 dX2_inverseOf_3 ?_
  refine lv_lstore_n (lv' := [(3, .long (z8 x0)), (1, .long (z8 1)), (0, .int (z4 x0))]) hx hb dX2_inverseOf_4 rfl hl (by decide) rfl (fun ls hl => ?_)
  refine m_ldc X 1000001 co_X2_111 dX2_inverseOf_5 ?_
  refine lv_istore (lv' := [(5, .int (z4 1000001)), (3, .long (z8 x0)), (1, .long (z8 1)), (0, .int (z4 x0))]) hx hb dX2_inverseOf_7 hl (by decide) rfl (fun ls hl => ?_)
  obtain ⟨o2, hj2, hr2⟩ := bd_some hf
  have E2_0 : ∀ (o_ : Int), o2 = o_ → ∀ (ls : Array Slot), lv_has ls 6 [(1, .long (z8 o_))] → W p l e rm_X2_inverseOf s m args below meth c s.heap [] 0 0 Q (F0 m 46 ls []) := by
    intro o_ ho_ ls hl 
    subst ho_
    refine lv_lload_n hx hb dX2_inverseOf_46 rfl (lv_at hl 0 rfl) ?_
    obtain rfl := Option.some.inj hr2
    exact ret _ _ dX2_inverseOf_47
  have L2 : ∀ (k_ : Nat) (v9_1 : Int) (v9_3 : Int) (v9_5 : Int), ∀ (ls : Array Slot), lv_has ls 6 [(1, .long (z8 v9_1)), (3, .long (z8 v9_3)), (5, .int (z4 v9_5))] → lp_ (fun (q : Int × Int × Int) => F_X2_inverseOf_L9 n q.1 q.2.1 q.2.2) k_ (v9_1, v9_3, v9_5) = some o2 → W p l e rm_X2_inverseOf s m args below meth c s.heap [] 0 0 Q (F0 m 9 ls []) := by
    intro k_
    induction k_ with
    | zero =>
      intro v9_1 v9_3 v9_5 ls hl  hq_; exact (lp_zero hq_).elim
    | succ k_ ih2 =>
      intro v9_1 v9_3 v9_5 ls hl  hq_
      obtain ⟨t_2, hb2, hq2⟩ := lp_some hq_
      replace hb2 : F_X2_inverseOf_L9 n v9_1 v9_3 v9_5 = some t_2 := hb2
      unfold F_X2_inverseOf_L9 at hb2
      refine lv_iload hx hb dX2_inverseOf_9 (lv_at hl 2 rfl) ?_
      obtain ⟨h3, hb2⟩ := ck_some hb2
      refine m_if_le X h3 dX2_inverseOf_11 (tgt := 46) (by decide) (fun (hc_ : ¬ (0 < v9_5)) => ?_) (fun (hc_ : 0 < v9_5) => ?_)
      · rw [if_neg hc_] at hb2
        obtain rfl := Option.some.inj hb2
        exact E2_0 _ (Option.some.inj hq2).symm _ (lv_sub hl [0] rfl) 
      · rw [if_pos hc_] at hb2
        refine lv_iload hx hb dX2_inverseOf_14 (lv_at hl 2 rfl) ?_
        refine m_iconst X dX2_inverseOf_16 ?_
        obtain ⟨h4, hb2⟩ := ck_some hb2
        refine m_iand X h4 dX2_inverseOf_17 ?_
        obtain ⟨o5, hj5, hr5⟩ := bd_some hb2
        have J5 : ∀ (o_ : Int), o5 = o_ → ∀ (ls : Array Slot), lv_has ls 6 [(1, .long (z8 o_)), (3, .long (z8 v9_3)), (5, .int (z4 v9_5))] → W p l e rm_X2_inverseOf s m args below meth c s.heap [] 0 0 Q (F0 m 29 ls []) := by
          intro o_ ho_ ls hl 
          subst ho_
          refine lv_lload_n hx hb dX2_inverseOf_29 rfl (lv_at hl 1 rfl) ?_
          refine lv_lload_n hx hb dX2_inverseOf_30 rfl (lv_at hl 1 rfl) ?_
          refine m_lmul X dX2_inverseOf_31 ?_
          refine m_ldc2 X 1000003 co_X2_109 dX2_inverseOf_32 ?_
          obtain ⟨h8, hr5⟩ := ck_some hr5
          refine m_lrem X h8 dX2_inverseOf_35 ?_
          refine lv_lstore_n (lv' := [(3, .long (z8 ((v9_3 * v9_3) % 1000003))), (1, .long (z8 o5)), (5, .int (z4 v9_5))]) hx hb dX2_inverseOf_36 rfl hl (by decide) rfl (fun ls hl => ?_)
          refine lv_iload hx hb dX2_inverseOf_37 (lv_at hl 2 rfl) ?_
          refine m_iconst X dX2_inverseOf_39 ?_
          obtain ⟨h9, hr5⟩ := ck_some hr5
          refine m_ishr X h9 dX2_inverseOf_40 ?_
          refine lv_istore (lv' := [(5, .int (z4 (sr_ v9_5 1))), (3, .long (z8 ((v9_3 * v9_3) % 1000003))), (1, .long (z8 o5))]) hx hb dX2_inverseOf_41 hl (by decide) rfl (fun ls hl => ?_)
          refine lv_goto (tgt := 9) hx hb dX2_inverseOf_43 (by decide) ?_
          obtain rfl := Option.some.inj hr5
          exact ih2 _ _ _ _ (lv_sub hl [2, 1, 0] rfl)  hq2
        obtain ⟨h6, hj5⟩ := ck_some hj5
        refine m_if_eq X h6 dX2_inverseOf_18 (tgt := 29) (by decide) (fun (hc_ : an_ v9_5 1 = 0) => ?_) (fun (hc_ : ¬ (an_ v9_5 1 = 0)) => ?_)
        · rw [if_pos hc_] at hj5
          exact J5 _ (Option.some.inj hj5).symm _ (lv_sub hl [0, 1, 2] rfl) 
        · rw [if_neg hc_] at hj5
          refine lv_lload_n hx hb dX2_inverseOf_21 rfl (lv_at hl 0 rfl) ?_
          refine lv_lload_n hx hb dX2_inverseOf_22 rfl (lv_at hl 1 rfl) ?_
          refine m_lmul X dX2_inverseOf_23 ?_
          refine m_ldc2 X 1000003 co_X2_109 dX2_inverseOf_24 ?_
          obtain ⟨h7, hj5⟩ := ck_some hj5
          refine m_lrem X h7 dX2_inverseOf_27 ?_
          refine lv_lstore_n (lv' := [(1, .long (z8 ((v9_1 * v9_3) % 1000003))), (3, .long (z8 v9_3)), (5, .int (z4 v9_5))]) hx hb dX2_inverseOf_28 rfl hl (by decide) rfl (fun ls hl => ?_)
          exact J5 _ (Option.some.inj hj5).symm _ (lv_sub hl [0, 1, 2] rfl) 
  exact L2 n _ _ _ _ (lv_sub hl [2, 1, 0] rfl)  hj2
def F_X2_bringUp_L2 (n : Nat) (t_lines_g : Nat → Nat) (L_ : List Nat) (x1 : Int) (t_lines_pr : Nat → Nat → Int) (v2_2 : Int) : Option ((Int) ⊕ ((Unit) ⊕ (Int))) :=
  ck (r4 v2_2) <|
  if v2_2 < 0 then
    some (.inr (.inl ()))
  else
    ck (ix_ v2_2 64) <|
    ck ((t_lines_g (v2_2).toNat) ∈ L_) <|
    ck (ix_ x1 65) <|
    ck (r4 (t_lines_pr (t_lines_g (v2_2).toNat) (x1).toNat)) <|
    if t_lines_pr (t_lines_g (v2_2).toNat) (x1).toNat = 0 then
      some (.inl (v2_2 + (-1)))
    else
      some (.inr (.inr v2_2))
def F_X2_bringUp (n : Nat) (L_ : List Nat)  (t_lines_g : Nat → Nat) (t_lines_pr : Nat → Nat → Int) (x1 : Int) : Option (Int × (Nat → Nat) × (Nat → Nat → Int)) :=
  (lp_ (fun (q : Int) => F_X2_bringUp_L2 n t_lines_g L_ x1 t_lines_pr q) n x1).bind fun o1 => match o1 with
  | .inl o1_0 =>
    some (0, t_lines_g, t_lines_pr)
  | .inr o1_1 =>
    ck (ix_ o1_1 64) <|
    ck (ix_ x1 64) <|
    ck (ix_ o1_1 64) <|
    ck ((t_lines_g (x1).toNat) ∈ L_) <|
    ck (ix_ x1 64) <|
    ck ((t_lines_g (o1_1).toNat) ∈ L_) <|
    some (1, up_ (up_ t_lines_g (o1_1).toNat (t_lines_g (x1).toNat)) (x1).toNat (t_lines_g (o1_1).toNat), t_lines_pr)
def rm_X2_bringUp : Room := { frames := 0, cells := 0, slots := 0, locals := 0 }
set_option maxHeartbeats 4000000 in
set_option maxRecDepth 100000 in
theorem k_X2_bringUp {l : Launch} {D : va_G} {E : Nat → ClassId} (n : Nat) (a_t a_t_plan a_t_lines a_t_columns a_t_numbers : Nat) (L_ : List Nat) (t_solved : Int) (t_size : Int) (t_known : Int) (t_lines_g : Nat → Nat) (t_lines_pr : Nat → Nat → Int) (x1 : Int) (res : Int × (Nat → Nat) × (Nat → Nat → Int)) (hf : F_X2_bringUp n L_ t_lines_g t_lines_pr x1 = some res) : MW l yX2_bringUp (.code yX2_bringUp cX2_bringUp 4 (some .boolean)) rm_X2_bringUp D E [.ref a_t, .int (z4 x1)] ([(a_t, .inr (2, [.ref a_t_plan, .int (z4 t_solved), .int (z4 t_size), .ref a_t_lines, .ref a_t_columns, .ref a_t_numbers, .int (z4 t_known)])), (a_t_lines, .inl (E 4, 64, .inr (.inr (.inr (.inr (OG t_lines_g))))))] ++ va_pl L_ (GP E t_lines_pr)) (some (.int (z4 res.1))) ([(a_t, .inr (2, [.ref a_t_plan, .int (z4 t_solved), .int (z4 t_size), .ref a_t_lines, .ref a_t_columns, .ref a_t_numbers, .int (z4 t_known)])), (a_t_lines, .inl (E 4, 64, .inr (.inr (.inr (.inr (OG res.2.1))))))] ++ va_pl L_ (GP E res.2.2)) := by
  refine MWz (by decide) (Nat.le_of_ble_eq_true rfl) ?_
  intro p e s m args below meth c A Q X hK hP hD hA ret ls hl
  have hS : va_S A s.heap s.heap [] := va_S.rf
  have hx := X.1
  have hb := X.2.1
  have hl : lv_has ls 4 [(0, .ref a_t), (1, .int (z4 x1))] := hl
  unfold F_X2_bringUp at hf
  refine lv_iload_n hx hb dX2_bringUp_0 rfl (lv_at hl 1 rfl) ?_
  refine lv_istore_n (lv' := [(2, .int (z4 x1)), (0, .ref a_t), (1, .int (z4 x1))]) hx hb dX2_bringUp_1 rfl hl (by decide) rfl (fun ls hl => ?_)
  obtain ⟨o1, hj1, hr1⟩ := bd_some hf
  have E1_0 : ∀ (o_ : Unit), o1 = (.inl o_) → ∀ (H : Heap) (locs : List Loc) (ls : Array Slot), lv_has ls 4 [] → va_P D vwCl ([(a_t, .inr (2, [.ref a_t_plan, .int (z4 t_solved), .int (z4 t_size), .ref a_t_lines, .ref a_t_columns, .ref a_t_numbers, .int (z4 t_known)])), (a_t_lines, .inl (E 4, 64, .inr (.inr (.inr (.inr (OG t_lines_g))))))] ++ va_pl L_ (GP E t_lines_pr)) H → va_D A ([(a_t, .inr (2, [.ref a_t_plan, .int (z4 t_solved), .int (z4 t_size), .ref a_t_lines, .ref a_t_columns, .ref a_t_numbers, .int (z4 t_known)])), (a_t_lines, .inl (E 4, 64, .inr (.inr (.inr (.inr (OG t_lines_g))))))] ++ va_pl L_ (GP E t_lines_pr)) → va_S A s.heap H locs → W p l e rm_X2_bringUp s m args below meth c H locs 0 0 Q (F0 m 51 ls []) := by
    intro o1_0 ho_ H locs ls hl hP hD hS
    subst ho_
    refine m_iconst X dX2_bringUp_51 ?_
    obtain rfl := Option.some.inj hr1
    exact ret _ _ _ _ (Or.inl rfl) hP hD hS dX2_bringUp_52
  have E1_1 : ∀ (o_ : Int), o1 = (.inr o_) → ∀ (H : Heap) (locs : List Loc) (ls : Array Slot), lv_has ls 4 [(0, .ref a_t), (1, .int (z4 x1)), (2, .int (z4 o_))] → va_P D vwCl ([(a_t, .inr (2, [.ref a_t_plan, .int (z4 t_solved), .int (z4 t_size), .ref a_t_lines, .ref a_t_columns, .ref a_t_numbers, .int (z4 t_known)])), (a_t_lines, .inl (E 4, 64, .inr (.inr (.inr (.inr (OG t_lines_g))))))] ++ va_pl L_ (GP E t_lines_pr)) H → va_D A ([(a_t, .inr (2, [.ref a_t_plan, .int (z4 t_solved), .int (z4 t_size), .ref a_t_lines, .ref a_t_columns, .ref a_t_numbers, .int (z4 t_known)])), (a_t_lines, .inl (E 4, 64, .inr (.inr (.inr (.inr (OG t_lines_g))))))] ++ va_pl L_ (GP E t_lines_pr)) → va_S A s.heap H locs → W p l e rm_X2_bringUp s m args below meth c H locs 0 0 Q (F0 m 17 ls []) := by
    intro o1_1 ho_ H locs ls hl hP hD hS
    subst ho_
    refine lv_aload_n hx hb dX2_bringUp_17 rfl (lv_at hl 0 rfl) ?_
    refine m_get X hK hP cl_X2 iT_X2 3 (by decide) fl_X2_24 0 rfl rfl dX2_bringUp_18 ?_
    refine lv_iload_n hx hb dX2_bringUp_21 rfl (lv_at hl 2 rfl) ?_
    obtain ⟨h7, hr1⟩ := ck_some hr1
    refine m_aaldG X hK hP 1 rfl (by decide) h7 dX2_bringUp_22 ?_
    refine lv_astore_n (lv' := [(3, .ref (t_lines_g (o1_1).toNat)), (0, .ref a_t), (1, .int (z4 x1)), (2, .int (z4 o1_1))]) hx hb dX2_bringUp_23 rfl hl (by decide) rfl (fun ls hl => ?_)
    refine lv_aload_n hx hb dX2_bringUp_24 rfl (lv_at hl 1 rfl) ?_
    refine m_get X hK hP cl_X2 iT_X2 3 (by decide) fl_X2_24 0 rfl rfl dX2_bringUp_25 ?_
    refine lv_iload_n hx hb dX2_bringUp_28 rfl (lv_at hl 3 rfl) ?_
    refine lv_aload_n hx hb dX2_bringUp_29 rfl (lv_at hl 1 rfl) ?_
    refine m_get X hK hP cl_X2 iT_X2 3 (by decide) fl_X2_24 0 rfl rfl dX2_bringUp_30 ?_
    refine lv_iload_n hx hb dX2_bringUp_33 rfl (lv_at hl 2 rfl) ?_
    obtain ⟨h8, hr1⟩ := ck_some hr1
    refine m_aaldG X hK hP 1 rfl (by decide) h8 dX2_bringUp_34 ?_
    obtain ⟨h9, hr1⟩ := ck_some hr1
    obtain ⟨h10, hr1⟩ := ck_some hr1
    refine m_aastG X hK hP hD hS 1 rfl (by decide) h9 h10 ([(a_t, .inr (2, [.ref a_t_plan, .int (z4 t_solved), .int (z4 t_size), .ref a_t_lines, .ref a_t_columns, .ref a_t_numbers, .int (z4 t_known)])), (a_t_lines, .inl (E 4, 64, .inr (.inr (.inr (.inr (OG (up_ t_lines_g (o1_1).toNat (t_lines_g (x1).toNat))))))))] ++ va_pl L_ (GP E t_lines_pr)) rfl dX2_bringUp_35 (fun H locs hP hD hS => ?_)
    refine lv_aload_n hx hb dX2_bringUp_36 rfl (lv_at hl 1 rfl) ?_
    refine m_get X hK hP cl_X2 iT_X2 3 (by decide) fl_X2_24 0 rfl rfl dX2_bringUp_37 ?_
    refine lv_iload_n hx hb dX2_bringUp_40 rfl (lv_at hl 2 rfl) ?_
    refine lv_aload_n hx hb dX2_bringUp_41 rfl (lv_at hl 0 rfl) ?_
    obtain ⟨h11, hr1⟩ := ck_some hr1
    obtain ⟨h12, hr1⟩ := ck_some hr1
    refine m_aastG X hK hP hD hS 1 rfl (by decide) h11 h12 ([(a_t, .inr (2, [.ref a_t_plan, .int (z4 t_solved), .int (z4 t_size), .ref a_t_lines, .ref a_t_columns, .ref a_t_numbers, .int (z4 t_known)])), (a_t_lines, .inl (E 4, 64, .inr (.inr (.inr (.inr (OG (up_ (up_ t_lines_g (o1_1).toNat (t_lines_g (x1).toNat)) (x1).toNat (t_lines_g (o1_1).toNat))))))))] ++ va_pl L_ (GP E t_lines_pr)) rfl dX2_bringUp_42 (fun H locs hP hD hS => ?_)
    refine m_iconst X dX2_bringUp_43 ?_
    obtain rfl := Option.some.inj hr1
    exact ret _ _ _ _ (Or.inr rfl) hP hD hS dX2_bringUp_44
  have L1 : ∀ (k_ : Nat) (v2_2 : Int), ∀ (H : Heap) (locs : List Loc) (ls : Array Slot), lv_has ls 4 [(0, .ref a_t), (1, .int (z4 x1)), (2, .int (z4 v2_2))] → va_P D vwCl ([(a_t, .inr (2, [.ref a_t_plan, .int (z4 t_solved), .int (z4 t_size), .ref a_t_lines, .ref a_t_columns, .ref a_t_numbers, .int (z4 t_known)])), (a_t_lines, .inl (E 4, 64, .inr (.inr (.inr (.inr (OG t_lines_g))))))] ++ va_pl L_ (GP E t_lines_pr)) H → va_D A ([(a_t, .inr (2, [.ref a_t_plan, .int (z4 t_solved), .int (z4 t_size), .ref a_t_lines, .ref a_t_columns, .ref a_t_numbers, .int (z4 t_known)])), (a_t_lines, .inl (E 4, 64, .inr (.inr (.inr (.inr (OG t_lines_g))))))] ++ va_pl L_ (GP E t_lines_pr)) → va_S A s.heap H locs → lp_ (fun (q : Int) => F_X2_bringUp_L2 n t_lines_g L_ x1 t_lines_pr q) k_ v2_2 = some o1 → W p l e rm_X2_bringUp s m args below meth c H locs 0 0 Q (F0 m 2 ls []) := by
    intro k_
    induction k_ with
    | zero =>
      intro v2_2 H locs ls hl hP hD hS hq_; exact (lp_zero hq_).elim
    | succ k_ ih1 =>
      intro v2_2 H locs ls hl hP hD hS hq_
      obtain ⟨t_1, hb1, hq1⟩ := lp_some hq_
      replace hb1 : F_X2_bringUp_L2 n t_lines_g L_ x1 t_lines_pr v2_2 = some t_1 := hb1
      unfold F_X2_bringUp_L2 at hb1
      refine lv_iload_n hx hb dX2_bringUp_2 rfl (lv_at hl 2 rfl) ?_
      obtain ⟨h2, hb1⟩ := ck_some hb1
      refine m_if_lt X h2 dX2_bringUp_3 (tgt := 51) (by decide) (fun (hc_ : v2_2 < 0) => ?_) (fun (hc_ : ¬ (v2_2 < 0)) => ?_)
      · rw [if_pos hc_] at hb1
        obtain rfl := Option.some.inj hb1
        exact E1_0 _ (Option.some.inj hq1).symm _ _ _ (lv_sub hl [] rfl) hP hD hS
      · rw [if_neg hc_] at hb1
        refine lv_aload_n hx hb dX2_bringUp_6 rfl (lv_at hl 0 rfl) ?_
        refine m_get X hK hP cl_X2 iT_X2 3 (by decide) fl_X2_24 0 rfl rfl dX2_bringUp_7 ?_
        refine lv_iload_n hx hb dX2_bringUp_10 rfl (lv_at hl 2 rfl) ?_
        obtain ⟨h3, hb1⟩ := ck_some hb1
        refine m_aaldG X hK hP 1 rfl (by decide) h3 dX2_bringUp_11 ?_
        refine lv_iload_n hx hb dX2_bringUp_12 rfl (lv_at hl 1 rfl) ?_
        obtain ⟨h4, hb1⟩ := ck_some hb1
        obtain ⟨h5, hb1⟩ := ck_some hb1
        refine m_raldG X hK hP h4 h5 dX2_bringUp_13 ?_
        obtain ⟨h6, hb1⟩ := ck_some hb1
        refine m_if_eq X h6 dX2_bringUp_14 (tgt := 45) (by decide) (fun (hc_ : t_lines_pr (t_lines_g (v2_2).toNat) (x1).toNat = 0) => ?_) (fun (hc_ : ¬ (t_lines_pr (t_lines_g (v2_2).toNat) (x1).toNat = 0)) => ?_)
        · rw [if_pos hc_] at hb1
          refine m_iinc X 2 [(2, .int (z4 (v2_2 + (-1)))), (0, .ref a_t), (1, .int (z4 x1))] dX2_bringUp_45 hl rfl (by decide) rfl (fun ls hl => ?_)
          refine lv_goto (tgt := 2) hx hb dX2_bringUp_48 (by decide) ?_
          obtain rfl := Option.some.inj hb1
          exact ih1 _ _ _ _ (lv_sub hl [1, 2, 0] rfl) hP hD hS hq1
        · rw [if_neg hc_] at hb1
          obtain rfl := Option.some.inj hb1
          exact E1_1 _ (Option.some.inj hq1).symm _ _ _ (lv_sub hl [0, 1, 2] rfl) hP hD hS
  exact L1 n _ _ _ _ (lv_sub hl [1, 2, 0] rfl) hP hD hS hj1
def F_X2_makeOne_L20 (n : Nat) (t_size : Int) (t_lines_g : Nat → Nat) (x1 : Int) (L_ : List Nat) (o4 : Int) (v20_5 : Int) (v20_6 : Int) (t_lines_pr_l20 : Nat → Nat → Int) (t_columns_l20 : Nat → Int) : Option ((Int × Int × (Nat → Nat → Int) × (Nat → Int)) ⊕ (Int × (Nat → Nat → Int) × (Nat → Int))) :=
  ck (r4 v20_6 ∧ r4 t_size) <|
  if t_size < v20_6 then
    some (.inr (v20_5, t_lines_pr_l20, t_columns_l20))
  else
    ck ((t_lines_g (x1).toNat) ∈ L_) <|
    ck (ix_ v20_6 65) <|
    Option.bind (α := Int × (Nat → Nat → Int) × (Nat → Int)) (
      ck (r4 (t_lines_pr_l20 (t_lines_g (x1).toNat) (v20_6).toNat)) <|
      if t_lines_pr_l20 (t_lines_g (x1).toNat) (v20_6).toNat = 0 then
        some (v20_5, t_lines_pr_l20, t_columns_l20)
      else
        ck ((t_lines_g (x1).toNat) ∈ L_) <|
        ck (ix_ v20_6 65) <|
        ck (r4 (t_lines_pr_l20 (t_lines_g (x1).toNat) (v20_6).toNat)) <|
        ck (d8_ ((t_lines_pr_l20 (t_lines_g (x1).toNat) (v20_6).toNat) * o4) 1000003) <|
        ck ((t_lines_g (x1).toNat) ∈ L_) <|
        ck (ix_ v20_6 65) <|
        ck (r4 v20_6 ∧ r4 x1) <|
        if v20_6 = x1 then
          some (v20_5, u2_ t_lines_pr_l20 (t_lines_g (x1).toNat) (v20_6).toNat (((t_lines_pr_l20 (t_lines_g (x1).toNat) (v20_6).toNat) * o4) % 1000003), t_columns_l20)
        else
          ck (ix_ v20_5 65) <|
          some (v20_5 + 1, u2_ t_lines_pr_l20 (t_lines_g (x1).toNat) (v20_6).toNat (((t_lines_pr_l20 (t_lines_g (x1).toNat) (v20_6).toNat) * o4) % 1000003), up_ t_columns_l20 (v20_5).toNat v20_6)) fun o9 =>
    some (.inl (o9.1, v20_6 + 1, o9.2.1, o9.2.2))
def F_X2_makeOne (n : Nat) (L_ : List Nat)  (t_size : Int) (t_lines_g : Nat → Nat) (t_lines_pr : Nat → Nat → Int) (t_columns : Nat → Int) (x1 : Int) : Option (Int × (Nat → Nat) × (Nat → Nat → Int) × (Nat → Int)) :=
  ck (ix_ x1 64) <|
  ck ((t_lines_g (x1).toNat) ∈ L_) <|
  ck (ix_ x1 65) <|
  (F_X2_inverseOf n (t_lines_pr (t_lines_g (x1).toNat) (x1).toNat)).bind fun o4 =>
  (lp_ (fun (q : Int × Int × (Nat → Nat → Int) × (Nat → Int)) => F_X2_makeOne_L20 n t_size t_lines_g x1 L_ o4 q.1 q.2.1 q.2.2.1 q.2.2.2) n (0, 0, t_lines_pr, t_columns)).bind fun o5 =>
  some (o5.1, t_lines_g, o5.2.1, o5.2.2)
def rm_X2_makeOne : Room := { frames := 1, cells := 0, slots := 0, locals := 25 }
set_option maxHeartbeats 4000000 in
set_option maxRecDepth 100000 in
theorem k_X2_makeOne {l : Launch} {D : va_G} {E : Nat → ClassId} (n : Nat) (a_t a_t_plan a_t_lines a_t_columns a_t_numbers : Nat) (L_ : List Nat) (t_solved : Int) (t_size : Int) (t_known : Int) (t_lines_g : Nat → Nat) (t_lines_pr : Nat → Nat → Int) (t_columns : Nat → Int) (x1 : Int) (res : Int × (Nat → Nat) × (Nat → Nat → Int) × (Nat → Int)) (hf : F_X2_makeOne n L_ t_size t_lines_g t_lines_pr t_columns x1 = some res) : MW l yX2_makeOne (.code yX2_makeOne cX2_makeOne 7 (some .int)) rm_X2_makeOne D E [.ref a_t, .int (z4 x1)] ([(a_t, .inr (2, [.ref a_t_plan, .int (z4 t_solved), .int (z4 t_size), .ref a_t_lines, .ref a_t_columns, .ref a_t_numbers, .int (z4 t_known)])), (a_t_lines, .inl (E 4, 64, .inr (.inr (.inr (.inr (OG t_lines_g)))))), (a_t_columns, .inl (E 0, 65, .inl (A4 t_columns)))] ++ va_pl L_ (GP E t_lines_pr)) (some (.int (z4 res.1))) ([(a_t, .inr (2, [.ref a_t_plan, .int (z4 t_solved), .int (z4 t_size), .ref a_t_lines, .ref a_t_columns, .ref a_t_numbers, .int (z4 t_known)])), (a_t_lines, .inl (E 4, 64, .inr (.inr (.inr (.inr (OG res.2.1)))))), (a_t_columns, .inl (E 0, 65, .inl (A4 res.2.2.2)))] ++ va_pl L_ (GP E res.2.2.1)) := by
  refine MWi (by decide) (Nat.le_of_ble_eq_true rfl) ?_
  intro p e s m args below meth c A Q X hK hP hD hA ret ls hl
  have hS : va_S A s.heap s.heap [] := va_S.rf
  have hx := X.1
  have hb := X.2.1
  have hl : lv_has ls 7 [(0, .ref a_t), (1, .int (z4 x1))] := hl
  unfold F_X2_makeOne at hf
  refine lv_aload_n hx hb dX2_makeOne_0 rfl (lv_at hl 0 rfl) ?_
  refine m_get X hK hP cl_X2 iT_X2 3 (by decide) fl_X2_24 0 rfl rfl dX2_makeOne_1 ?_
  refine lv_iload_n hx hb dX2_makeOne_4 rfl (lv_at hl 1 rfl) ?_
  obtain ⟨h1, hf⟩ := ck_some hf
  refine m_aaldG X hK hP 1 rfl (by decide) h1 dX2_makeOne_5 ?_
  refine lv_astore_n (lv' := [(2, .ref (t_lines_g (x1).toNat)), (0, .ref a_t), (1, .int (z4 x1))]) hx hb dX2_makeOne_6 rfl hl (by decide) rfl (fun ls hl => ?_)
  refine lv_aload_n hx hb dX2_makeOne_7 rfl (lv_at hl 0 rfl) ?_
  refine lv_iload_n hx hb dX2_makeOne_8 rfl (lv_at hl 2 rfl) ?_
  obtain ⟨h2, hf⟩ := ck_some hf
  obtain ⟨h3, hf⟩ := ck_some hf
  refine m_raldG X hK hP h2 h3 dX2_makeOne_9 ?_
  obtain ⟨o4, ho, hf⟩ := bd_some hf
  refine m_cSR X hK (k_X2_inverseOf n (t_lines_pr (t_lines_g (x1).toNat) (x1).toNat) o4 ho) (hP.sub (ws' := []) [] rfl) lk_X2_105 co_X2_inverseOf dy_X2_inverseOf rfl rfl ⟨Nat.le_of_ble_eq_true rfl, Nat.le_of_ble_eq_true rfl⟩ hl.1 rfl (Nat.le_of_ble_eq_true rfl) dX2_makeOne_10 (Nat.zero_le _) (Nat.zero_le _) ?_
  refine lv_lstore_n (lv' := [(3, .long (z8 o4)), (2, .ref (t_lines_g (x1).toNat)), (0, .ref a_t), (1, .int (z4 x1))]) hx hb dX2_makeOne_13 rfl hl (by decide) rfl (fun ls hl => ?_)
  refine m_iconst X dX2_makeOne_14 ?_
  refine lv_istore (lv' := [(5, .int (z4 0)), (3, .long (z8 o4)), (2, .ref (t_lines_g (x1).toNat)), (0, .ref a_t), (1, .int (z4 x1))]) hx hb dX2_makeOne_15 hl (by decide) rfl (fun ls hl => ?_)
  refine m_iconst X dX2_makeOne_17 ?_
  refine lv_istore (lv' := [(6, .int (z4 0)), (5, .int (z4 0)), (3, .long (z8 o4)), (2, .ref (t_lines_g (x1).toNat)), (0, .ref a_t), (1, .int (z4 x1))]) hx hb dX2_makeOne_18 hl (by decide) rfl (fun ls hl => ?_)
  obtain ⟨o5, hj5, hr5⟩ := bd_some hf
  have E5_0 : ∀ (o_ : Int × (Nat → Nat → Int) × (Nat → Int)), o5 = o_ → ∀ (H : Heap) (locs : List Loc) (ls : Array Slot), lv_has ls 7 [(5, .int (z4 o_.1))] → va_P D vwCl ([(a_t, .inr (2, [.ref a_t_plan, .int (z4 t_solved), .int (z4 t_size), .ref a_t_lines, .ref a_t_columns, .ref a_t_numbers, .int (z4 t_known)])), (a_t_lines, .inl (E 4, 64, .inr (.inr (.inr (.inr (OG t_lines_g)))))), (a_t_columns, .inl (E 0, 65, .inl (A4 o_.2.2)))] ++ va_pl L_ (GP E o_.2.1)) H → va_D A ([(a_t, .inr (2, [.ref a_t_plan, .int (z4 t_solved), .int (z4 t_size), .ref a_t_lines, .ref a_t_columns, .ref a_t_numbers, .int (z4 t_known)])), (a_t_lines, .inl (E 4, 64, .inr (.inr (.inr (.inr (OG t_lines_g)))))), (a_t_columns, .inl (E 0, 65, .inl (A4 o_.2.2)))] ++ va_pl L_ (GP E o_.2.1)) → va_S A s.heap H locs → W p l e rm_X2_makeOne s m args below meth c H locs 0 0 Q (F0 m 76 ls []) := by
    intro o_ ho_ H locs ls hl hP hD hS
    subst ho_
    refine lv_iload hx hb dX2_makeOne_76 (lv_at hl 0 rfl) ?_
    obtain rfl := Option.some.inj hr5
    exact ret _ _ _ _ hP hD hS dX2_makeOne_78
  have L5 : ∀ (k_ : Nat) (v20_5 : Int) (v20_6 : Int) (t_lines_pr_l20 : Nat → Nat → Int) (t_columns_l20 : Nat → Int), ∀ (H : Heap) (locs : List Loc) (ls : Array Slot), lv_has ls 7 [(0, .ref a_t), (1, .int (z4 x1)), (2, .ref (t_lines_g (x1).toNat)), (3, .long (z8 o4)), (5, .int (z4 v20_5)), (6, .int (z4 v20_6))] → va_P D vwCl ([(a_t, .inr (2, [.ref a_t_plan, .int (z4 t_solved), .int (z4 t_size), .ref a_t_lines, .ref a_t_columns, .ref a_t_numbers, .int (z4 t_known)])), (a_t_lines, .inl (E 4, 64, .inr (.inr (.inr (.inr (OG t_lines_g)))))), (a_t_columns, .inl (E 0, 65, .inl (A4 t_columns_l20)))] ++ va_pl L_ (GP E t_lines_pr_l20)) H → va_D A ([(a_t, .inr (2, [.ref a_t_plan, .int (z4 t_solved), .int (z4 t_size), .ref a_t_lines, .ref a_t_columns, .ref a_t_numbers, .int (z4 t_known)])), (a_t_lines, .inl (E 4, 64, .inr (.inr (.inr (.inr (OG t_lines_g)))))), (a_t_columns, .inl (E 0, 65, .inl (A4 t_columns_l20)))] ++ va_pl L_ (GP E t_lines_pr_l20)) → va_S A s.heap H locs → lp_ (fun (q : Int × Int × (Nat → Nat → Int) × (Nat → Int)) => F_X2_makeOne_L20 n t_size t_lines_g x1 L_ o4 q.1 q.2.1 q.2.2.1 q.2.2.2) k_ (v20_5, v20_6, t_lines_pr_l20, t_columns_l20) = some o5 → W p l e rm_X2_makeOne s m args below meth c H locs 0 0 Q (F0 m 20 ls []) := by
    intro k_
    induction k_ with
    | zero =>
      intro v20_5 v20_6 t_lines_pr_l20 t_columns_l20 H locs ls hl hP hD hS hq_; exact (lp_zero hq_).elim
    | succ k_ ih5 =>
      intro v20_5 v20_6 t_lines_pr_l20 t_columns_l20 H locs ls hl hP hD hS hq_
      obtain ⟨t_5, hb5, hq5⟩ := lp_some hq_
      replace hb5 : F_X2_makeOne_L20 n t_size t_lines_g x1 L_ o4 v20_5 v20_6 t_lines_pr_l20 t_columns_l20 = some t_5 := hb5
      unfold F_X2_makeOne_L20 at hb5
      refine lv_iload hx hb dX2_makeOne_20 (lv_at hl 5 rfl) ?_
      refine lv_aload_n hx hb dX2_makeOne_22 rfl (lv_at hl 0 rfl) ?_
      refine m_get X hK hP cl_X2 iT_X2 2 (by decide) fl_X2_71 0 rfl rfl dX2_makeOne_23 ?_
      obtain ⟨h6, hb5⟩ := ck_some hb5
      refine m_icmp_gt X h6 dX2_makeOne_26 (tgt := 76) (by decide) (fun (hc_ : t_size < v20_6) => ?_) (fun (hc_ : ¬ (t_size < v20_6)) => ?_)
      · rw [if_pos hc_] at hb5
        obtain rfl := Option.some.inj hb5
        exact E5_0 _ (Option.some.inj hq5).symm _ _ _ (lv_sub hl [4] rfl) hP hD hS
      · rw [if_neg hc_] at hb5
        refine lv_aload_n hx hb dX2_makeOne_29 rfl (lv_at hl 2 rfl) ?_
        refine lv_iload hx hb dX2_makeOne_30 (lv_at hl 5 rfl) ?_
        obtain ⟨h7, hb5⟩ := ck_some hb5
        obtain ⟨h8, hb5⟩ := ck_some hb5
        refine m_raldG X hK hP h7 h8 dX2_makeOne_32 ?_
        obtain ⟨o9, hj9, hr9⟩ := bd_some hb5
        have J9 : ∀ (o_ : Int × (Nat → Nat → Int) × (Nat → Int)), o9 = o_ → ∀ (H : Heap) (locs : List Loc) (ls : Array Slot), lv_has ls 7 [(0, .ref a_t), (1, .int (z4 x1)), (2, .ref (t_lines_g (x1).toNat)), (3, .long (z8 o4)), (5, .int (z4 o_.1)), (6, .int (z4 v20_6))] → va_P D vwCl ([(a_t, .inr (2, [.ref a_t_plan, .int (z4 t_solved), .int (z4 t_size), .ref a_t_lines, .ref a_t_columns, .ref a_t_numbers, .int (z4 t_known)])), (a_t_lines, .inl (E 4, 64, .inr (.inr (.inr (.inr (OG t_lines_g)))))), (a_t_columns, .inl (E 0, 65, .inl (A4 o_.2.2)))] ++ va_pl L_ (GP E o_.2.1)) H → va_D A ([(a_t, .inr (2, [.ref a_t_plan, .int (z4 t_solved), .int (z4 t_size), .ref a_t_lines, .ref a_t_columns, .ref a_t_numbers, .int (z4 t_known)])), (a_t_lines, .inl (E 4, 64, .inr (.inr (.inr (.inr (OG t_lines_g)))))), (a_t_columns, .inl (E 0, 65, .inl (A4 o_.2.2)))] ++ va_pl L_ (GP E o_.2.1)) → va_S A s.heap H locs → W p l e rm_X2_makeOne s m args below meth c H locs 0 0 Q (F0 m 70 ls []) := by
          intro o_ ho_ H locs ls hl hP hD hS
          subst ho_
          refine m_iinc X 5 [(6, .int (z4 (v20_6 + 1))), (0, .ref a_t), (1, .int (z4 x1)), (2, .ref (t_lines_g (x1).toNat)), (3, .long (z8 o4)), (5, .int (z4 o9.1))] dX2_makeOne_70 hl rfl (by decide) rfl (fun ls hl => ?_)
          refine lv_goto (tgt := 20) hx hb dX2_makeOne_73 (by decide) ?_
          obtain rfl := Option.some.inj hr9
          exact ih5 _ _ _ _ _ _ _ (lv_sub hl [1, 2, 3, 4, 5, 0] rfl) hP hD hS hq5
        obtain ⟨h10, hj9⟩ := ck_some hj9
        refine m_if_eq X h10 dX2_makeOne_33 (tgt := 70) (by decide) (fun (hc_ : t_lines_pr_l20 (t_lines_g (x1).toNat) (v20_6).toNat = 0) => ?_) (fun (hc_ : ¬ (t_lines_pr_l20 (t_lines_g (x1).toNat) (v20_6).toNat = 0)) => ?_)
        · rw [if_pos hc_] at hj9
          exact J9 _ (Option.some.inj hj9).symm _ _ _ (lv_sub hl [0, 1, 2, 3, 4, 5] rfl) hP hD hS
        · rw [if_neg hc_] at hj9
          refine lv_aload_n hx hb dX2_makeOne_36 rfl (lv_at hl 2 rfl) ?_
          refine lv_iload hx hb dX2_makeOne_37 (lv_at hl 5 rfl) ?_
          refine lv_aload_n hx hb dX2_makeOne_39 rfl (lv_at hl 2 rfl) ?_
          refine lv_iload hx hb dX2_makeOne_40 (lv_at hl 5 rfl) ?_
          obtain ⟨h11, hj9⟩ := ck_some hj9
          obtain ⟨h12, hj9⟩ := ck_some hj9
          refine m_raldG X hK hP h11 h12 dX2_makeOne_42 ?_
          obtain ⟨h13, hj9⟩ := ck_some hj9
          refine m_i2l X h13 dX2_makeOne_43 ?_
          refine lv_lload_n hx hb dX2_makeOne_44 rfl (lv_at hl 3 rfl) ?_
          refine m_lmul X dX2_makeOne_45 ?_
          refine m_ldc2 X 1000003 co_X2_109 dX2_makeOne_46 ?_
          obtain ⟨h14, hj9⟩ := ck_some hj9
          refine m_lrem X h14 dX2_makeOne_49 ?_
          refine m_l2i X dX2_makeOne_50 ?_
          obtain ⟨h15, hj9⟩ := ck_some hj9
          obtain ⟨h16, hj9⟩ := ck_some hj9
          refine m_rastG X hK hP hD hS h15 h16 dX2_makeOne_51 (fun H locs hP hD hS => ?_)
          refine lv_iload hx hb dX2_makeOne_52 (lv_at hl 5 rfl) ?_
          refine lv_iload_n hx hb dX2_makeOne_54 rfl (lv_at hl 1 rfl) ?_
          obtain ⟨h17, hj9⟩ := ck_some hj9
          refine m_icmp_eq X h17 dX2_makeOne_55 (tgt := 70) (by decide) (fun (hc_ : v20_6 = x1) => ?_) (fun (hc_ : ¬ (v20_6 = x1)) => ?_)
          · rw [if_pos hc_] at hj9
            exact J9 _ (Option.some.inj hj9).symm _ _ _ (lv_sub hl [0, 1, 2, 3, 4, 5] rfl) hP hD hS
          · rw [if_neg hc_] at hj9
            refine lv_aload_n hx hb dX2_makeOne_58 rfl (lv_at hl 0 rfl) ?_
            refine m_get X hK hP cl_X2 iT_X2 4 (by decide) fl_X2_27 0 rfl rfl dX2_makeOne_59 ?_
            refine lv_iload hx hb dX2_makeOne_62 (lv_at hl 4 rfl) ?_
            refine lv_iload hx hb dX2_makeOne_64 (lv_at hl 5 rfl) ?_
            obtain ⟨h18, hj9⟩ := ck_some hj9
            refine m_iast X hK hP hD hS 2 rfl (by decide) h18 ([(a_t, .inr (2, [.ref a_t_plan, .int (z4 t_solved), .int (z4 t_size), .ref a_t_lines, .ref a_t_columns, .ref a_t_numbers, .int (z4 t_known)])), (a_t_lines, .inl (E 4, 64, .inr (.inr (.inr (.inr (OG t_lines_g)))))), (a_t_columns, .inl (E 0, 65, .inl (A4 (up_ t_columns_l20 (v20_5).toNat v20_6))))] ++ va_pl L_ (GP E (u2_ t_lines_pr_l20 (t_lines_g (x1).toNat) (v20_6).toNat (((t_lines_pr_l20 (t_lines_g (x1).toNat) (v20_6).toNat) * o4) % 1000003)))) rfl dX2_makeOne_66 (fun H locs hP hD hS => ?_)
            refine m_iinc X 4 [(5, .int (z4 (v20_5 + 1))), (0, .ref a_t), (1, .int (z4 x1)), (2, .ref (t_lines_g (x1).toNat)), (3, .long (z8 o4)), (6, .int (z4 v20_6))] dX2_makeOne_67 hl rfl (by decide) rfl (fun ls hl => ?_)
            exact J9 _ (Option.some.inj hj9).symm _ _ _ (lv_sub hl [1, 2, 3, 4, 0, 5] rfl) hP hD hS
  exact L5 n _ _ _ _ _ _ _ (lv_sub hl [4, 5, 3, 2, 1, 0] rfl) hP hD hS hj5
def F_X2_takeAway_L29 (n : Nat) (x3 : Int) (t_size : Int) (t_columns : Nat → Int) (t_lines_g : Nat → Nat) (x2 : Int) (L_ : List Nat) (x1 : Int) (t_lines_pr : Nat → Nat → Int) (v29_8 : Int) (t_lines_pr_l29 : Nat → Nat → Int) : Option ((Int × (Nat → Nat → Int)) ⊕ ((Nat → Nat → Int))) :=
  ck (r4 v29_8 ∧ r4 x3) <|
  if v29_8 < x3 then
    ck (r4 v29_8 ∧ r4 t_size) <|
    if t_size < v29_8 then
      some (.inr t_lines_pr_l29)
    else
      ck (ix_ v29_8 65) <|
      Option.bind (α := (Nat → Nat → Int)) (
        ck (r4 (t_columns (v29_8).toNat)) <|
        if t_columns (v29_8).toNat < 0 then
          some t_lines_pr_l29
        else
          ck (r4 (t_columns (v29_8).toNat) ∧ r4 t_size) <|
          if t_size < t_columns (v29_8).toNat then
            some t_lines_pr_l29
          else
            ck ((t_lines_g (x2).toNat) ∈ L_) <|
            ck (ix_ (t_columns (v29_8).toNat) 65) <|
            ck (r4 (t_lines_pr_l29 (t_lines_g (x2).toNat) (t_columns (v29_8).toNat).toNat)) <|
            ck ((t_lines_g (x1).toNat) ∈ L_) <|
            ck (ix_ (t_columns (v29_8).toNat) 65) <|
            ck (r4 (t_lines_pr_l29 (t_lines_g (x1).toNat) (t_columns (v29_8).toNat).toNat)) <|
            ck (d8_ ((t_lines_pr_l29 (t_lines_g (x2).toNat) (t_columns (v29_8).toNat).toNat) + ((1000003 - (t_lines_pr (t_lines_g (x2).toNat) (x1).toNat)) * (t_lines_pr_l29 (t_lines_g (x1).toNat) (t_columns (v29_8).toNat).toNat))) 1000003) <|
            ck ((t_lines_g (x2).toNat) ∈ L_) <|
            ck (ix_ (t_columns (v29_8).toNat) 65) <|
            some (u2_ t_lines_pr_l29 (t_lines_g (x2).toNat) (t_columns (v29_8).toNat).toNat (((t_lines_pr_l29 (t_lines_g (x2).toNat) (t_columns (v29_8).toNat).toNat) + ((1000003 - (t_lines_pr (t_lines_g (x2).toNat) (x1).toNat)) * (t_lines_pr_l29 (t_lines_g (x1).toNat) (t_columns (v29_8).toNat).toNat))) % 1000003))) fun o10 =>
      some (.inl (v29_8 + 1, o10))
  else
    some (.inr t_lines_pr_l29)
def F_X2_takeAway (n : Nat) (L_ : List Nat)  (t_size : Int) (t_lines_g : Nat → Nat) (t_lines_pr : Nat → Nat → Int) (t_columns : Nat → Int) (x1 : Int) (x2 : Int) (x3 : Int) : Option ((Nat → Nat) × (Nat → Nat → Int)) :=
  ck (ix_ x2 64) <|
  ck (ix_ x1 64) <|
  ck ((t_lines_g (x2).toNat) ∈ L_) <|
  ck (ix_ x1 65) <|
  ck (r4 (1000003 - (t_lines_pr (t_lines_g (x2).toNat) (x1).toNat))) <|
  (lp_ (fun (q : Int × (Nat → Nat → Int)) => F_X2_takeAway_L29 n x3 t_size t_columns t_lines_g x2 L_ x1 t_lines_pr q.1 q.2) n (0, t_lines_pr)).bind fun o6 =>
  ck ((t_lines_g (x2).toNat) ∈ L_) <|
  ck (ix_ x1 65) <|
  some (t_lines_g, u2_ o6 (t_lines_g (x2).toNat) (x1).toNat 0)
def rm_X2_takeAway : Room := { frames := 0, cells := 0, slots := 0, locals := 0 }
set_option maxHeartbeats 4000000 in
set_option maxRecDepth 100000 in
theorem k_X2_takeAway {l : Launch} {D : va_G} {E : Nat → ClassId} (n : Nat) (a_t a_t_plan a_t_lines a_t_columns a_t_numbers : Nat) (L_ : List Nat) (t_solved : Int) (t_size : Int) (t_known : Int) (t_lines_g : Nat → Nat) (t_lines_pr : Nat → Nat → Int) (t_columns : Nat → Int) (x1 : Int) (x2 : Int) (x3 : Int) (res : (Nat → Nat) × (Nat → Nat → Int)) (hf : F_X2_takeAway n L_ t_size t_lines_g t_lines_pr t_columns x1 x2 x3 = some res) : MW l yX2_takeAway (.code yX2_takeAway cX2_takeAway 10 none) rm_X2_takeAway D E [.ref a_t, .int (z4 x1), .int (z4 x2), .int (z4 x3)] ([(a_t, .inr (2, [.ref a_t_plan, .int (z4 t_solved), .int (z4 t_size), .ref a_t_lines, .ref a_t_columns, .ref a_t_numbers, .int (z4 t_known)])), (a_t_lines, .inl (E 4, 64, .inr (.inr (.inr (.inr (OG t_lines_g)))))), (a_t_columns, .inl (E 0, 65, .inl (A4 t_columns)))] ++ va_pl L_ (GP E t_lines_pr)) none ([(a_t, .inr (2, [.ref a_t_plan, .int (z4 t_solved), .int (z4 t_size), .ref a_t_lines, .ref a_t_columns, .ref a_t_numbers, .int (z4 t_known)])), (a_t_lines, .inl (E 4, 64, .inr (.inr (.inr (.inr (OG res.1)))))), (a_t_columns, .inl (E 0, 65, .inl (A4 t_columns)))] ++ va_pl L_ (GP E res.2)) := by
  refine MWv (by decide) (Nat.le_of_ble_eq_true rfl) ?_
  intro p e s m args below meth c A Q X hK hP hD hA ret ls hl
  have hS : va_S A s.heap s.heap [] := va_S.rf
  have hx := X.1
  have hb := X.2.1
  have hl : lv_has ls 10 [(0, .ref a_t), (1, .int (z4 x1)), (2, .int (z4 x2)), (3, .int (z4 x3))] := hl
  unfold F_X2_takeAway at hf
  refine lv_aload_n hx hb dX2_takeAway_0 rfl (lv_at hl 0 rfl) ?_
  refine m_get X hK hP cl_X2 iT_X2 3 (by decide) fl_X2_24 0 rfl rfl dX2_takeAway_1 ?_
  refine lv_iload_n hx hb dX2_takeAway_4 rfl (lv_at hl 2 rfl) ?_
  obtain ⟨h1, hf⟩ := ck_some hf
  refine m_aaldG X hK hP 1 rfl (by decide) h1 dX2_takeAway_5 ?_
  refine lv_astore (lv' := [(4, .ref (t_lines_g (x2).toNat)), (0, .ref a_t), (1, .int (z4 x1)), (2, .int (z4 x2)), (3, .int (z4 x3))]) hx hb dX2_takeAway_6 hl (by decide) rfl (fun ls hl => ?_)
  refine lv_aload_n hx hb dX2_takeAway_8 rfl (lv_at hl 1 rfl) ?_
  refine m_get X hK hP cl_X2 iT_X2 3 (by decide) fl_X2_24 0 rfl rfl dX2_takeAway_9 ?_
  refine lv_iload_n hx hb dX2_takeAway_12 rfl (lv_at hl 2 rfl) ?_
  obtain ⟨h2, hf⟩ := ck_some hf
  refine m_aaldG X hK hP 1 rfl (by decide) h2 dX2_takeAway_13 ?_
  refine lv_astore (lv' := [(5, .ref (t_lines_g (x1).toNat)), (4, .ref (t_lines_g (x2).toNat)), (0, .ref a_t), (1, .int (z4 x1)), (2, .int (z4 x2)), (3, .int (z4 x3))]) hx hb dX2_takeAway_14 hl (by decide) rfl (fun ls hl => ?_)
  refine m_ldc X 1000003 co_X2_90 dX2_takeAway_16 ?_
  refine lv_aload hx hb dX2_takeAway_18 (lv_at hl 1 rfl) ?_
  refine lv_iload_n hx hb dX2_takeAway_20 rfl (lv_at hl 3 rfl) ?_
  obtain ⟨h3, hf⟩ := ck_some hf
  obtain ⟨h4, hf⟩ := ck_some hf
  refine m_raldG X hK hP h3 h4 dX2_takeAway_21 ?_
  refine m_isub X dX2_takeAway_22 ?_
  obtain ⟨h5, hf⟩ := ck_some hf
  refine m_i2l X h5 dX2_takeAway_23 ?_
  refine lv_lstore (lv' := [(6, .long (z8 (1000003 - (t_lines_pr (t_lines_g (x2).toNat) (x1).toNat)))), (5, .ref (t_lines_g (x1).toNat)), (4, .ref (t_lines_g (x2).toNat)), (0, .ref a_t), (1, .int (z4 x1)), (2, .int (z4 x2)), (3, .int (z4 x3))]) hx hb dX2_takeAway_24 hl (by decide) rfl (fun ls hl => ?_)
  refine m_iconst X dX2_takeAway_26 ?_
  refine lv_istore (lv' := [(8, .int (z4 0)), (6, .long (z8 (1000003 - (t_lines_pr (t_lines_g (x2).toNat) (x1).toNat)))), (5, .ref (t_lines_g (x1).toNat)), (4, .ref (t_lines_g (x2).toNat)), (0, .ref a_t), (1, .int (z4 x1)), (2, .int (z4 x2)), (3, .int (z4 x3))]) hx hb dX2_takeAway_27 hl (by decide) rfl (fun ls hl => ?_)
  obtain ⟨o6, hj6, hr6⟩ := bd_some hf
  have E6_0 : ∀ (o_ : (Nat → Nat → Int)), o6 = o_ → ∀ (H : Heap) (locs : List Loc) (ls : Array Slot), lv_has ls 10 [(1, .int (z4 x1)), (4, .ref (t_lines_g (x2).toNat))] → va_P D vwCl ([(a_t, .inr (2, [.ref a_t_plan, .int (z4 t_solved), .int (z4 t_size), .ref a_t_lines, .ref a_t_columns, .ref a_t_numbers, .int (z4 t_known)])), (a_t_lines, .inl (E 4, 64, .inr (.inr (.inr (.inr (OG t_lines_g)))))), (a_t_columns, .inl (E 0, 65, .inl (A4 t_columns)))] ++ va_pl L_ (GP E o_)) H → va_D A ([(a_t, .inr (2, [.ref a_t_plan, .int (z4 t_solved), .int (z4 t_size), .ref a_t_lines, .ref a_t_columns, .ref a_t_numbers, .int (z4 t_known)])), (a_t_lines, .inl (E 4, 64, .inr (.inr (.inr (.inr (OG t_lines_g)))))), (a_t_columns, .inl (E 0, 65, .inl (A4 t_columns)))] ++ va_pl L_ (GP E o_)) → va_S A s.heap H locs → W p l e rm_X2_takeAway s m args below meth c H locs 0 0 Q (F0 m 99 ls []) := by
    intro o_ ho_ H locs ls hl hP hD hS
    subst ho_
    refine lv_aload hx hb dX2_takeAway_99 (lv_at hl 1 rfl) ?_
    refine lv_iload_n hx hb dX2_takeAway_101 rfl (lv_at hl 0 rfl) ?_
    refine m_iconst X dX2_takeAway_102 ?_
    obtain ⟨h22, hr6⟩ := ck_some hr6
    obtain ⟨h23, hr6⟩ := ck_some hr6
    refine m_rastG X hK hP hD hS h22 h23 dX2_takeAway_103 (fun H locs hP hD hS => ?_)
    obtain rfl := Option.some.inj hr6
    exact ret _ _ _ _ hP hD hS dX2_takeAway_104
  have L6 : ∀ (k_ : Nat) (v29_8 : Int) (t_lines_pr_l29 : Nat → Nat → Int), ∀ (H : Heap) (locs : List Loc) (ls : Array Slot), lv_has ls 10 [(0, .ref a_t), (1, .int (z4 x1)), (3, .int (z4 x3)), (4, .ref (t_lines_g (x2).toNat)), (5, .ref (t_lines_g (x1).toNat)), (6, .long (z8 (1000003 - (t_lines_pr (t_lines_g (x2).toNat) (x1).toNat)))), (8, .int (z4 v29_8))] → va_P D vwCl ([(a_t, .inr (2, [.ref a_t_plan, .int (z4 t_solved), .int (z4 t_size), .ref a_t_lines, .ref a_t_columns, .ref a_t_numbers, .int (z4 t_known)])), (a_t_lines, .inl (E 4, 64, .inr (.inr (.inr (.inr (OG t_lines_g)))))), (a_t_columns, .inl (E 0, 65, .inl (A4 t_columns)))] ++ va_pl L_ (GP E t_lines_pr_l29)) H → va_D A ([(a_t, .inr (2, [.ref a_t_plan, .int (z4 t_solved), .int (z4 t_size), .ref a_t_lines, .ref a_t_columns, .ref a_t_numbers, .int (z4 t_known)])), (a_t_lines, .inl (E 4, 64, .inr (.inr (.inr (.inr (OG t_lines_g)))))), (a_t_columns, .inl (E 0, 65, .inl (A4 t_columns)))] ++ va_pl L_ (GP E t_lines_pr_l29)) → va_S A s.heap H locs → lp_ (fun (q : Int × (Nat → Nat → Int)) => F_X2_takeAway_L29 n x3 t_size t_columns t_lines_g x2 L_ x1 t_lines_pr q.1 q.2) k_ (v29_8, t_lines_pr_l29) = some o6 → W p l e rm_X2_takeAway s m args below meth c H locs 0 0 Q (F0 m 29 ls []) := by
    intro k_
    induction k_ with
    | zero =>
      intro v29_8 t_lines_pr_l29 H locs ls hl hP hD hS hq_; exact (lp_zero hq_).elim
    | succ k_ ih6 =>
      intro v29_8 t_lines_pr_l29 H locs ls hl hP hD hS hq_
      obtain ⟨t_6, hb6, hq6⟩ := lp_some hq_
      replace hb6 : F_X2_takeAway_L29 n x3 t_size t_columns t_lines_g x2 L_ x1 t_lines_pr v29_8 t_lines_pr_l29 = some t_6 := hb6
      unfold F_X2_takeAway_L29 at hb6
      refine lv_iload hx hb dX2_takeAway_29 (lv_at hl 6 rfl) ?_
      refine lv_iload_n hx hb dX2_takeAway_31 rfl (lv_at hl 2 rfl) ?_
      obtain ⟨h7, hb6⟩ := ck_some hb6
      refine m_icmp_ge X h7 dX2_takeAway_32 (tgt := 99) (by decide) (fun (hc_ : ¬ (v29_8 < x3)) => ?_) (fun (hc_ : v29_8 < x3) => ?_)
      · rw [if_neg hc_] at hb6
        obtain rfl := Option.some.inj hb6
        exact E6_0 _ (Option.some.inj hq6).symm _ _ _ (lv_sub hl [1, 3] rfl) hP hD hS
      · rw [if_pos hc_] at hb6
        refine lv_iload hx hb dX2_takeAway_35 (lv_at hl 6 rfl) ?_
        refine lv_aload_n hx hb dX2_takeAway_37 rfl (lv_at hl 0 rfl) ?_
        refine m_get X hK hP cl_X2 iT_X2 2 (by decide) fl_X2_71 0 rfl rfl dX2_takeAway_38 ?_
        obtain ⟨h8, hb6⟩ := ck_some hb6
        refine m_icmp_gt X h8 dX2_takeAway_41 (tgt := 99) (by decide) (fun (hc_ : t_size < v29_8) => ?_) (fun (hc_ : ¬ (t_size < v29_8)) => ?_)
        · rw [if_pos hc_] at hb6
          obtain rfl := Option.some.inj hb6
          exact E6_0 _ (Option.some.inj hq6).symm _ _ _ (lv_sub hl [1, 3] rfl) hP hD hS
        · rw [if_neg hc_] at hb6
          refine lv_aload_n hx hb dX2_takeAway_44 rfl (lv_at hl 0 rfl) ?_
          refine m_get X hK hP cl_X2 iT_X2 4 (by decide) fl_X2_27 0 rfl rfl dX2_takeAway_45 ?_
          refine lv_iload hx hb dX2_takeAway_48 (lv_at hl 6 rfl) ?_
          obtain ⟨h9, hb6⟩ := ck_some hb6
          refine m_iald X hK hP 2 rfl (by decide) h9 dX2_takeAway_50 ?_
          refine lv_istore (lv' := [(9, .int (z4 (t_columns (v29_8).toNat))), (0, .ref a_t), (1, .int (z4 x1)), (3, .int (z4 x3)), (4, .ref (t_lines_g (x2).toNat)), (5, .ref (t_lines_g (x1).toNat)), (6, .long (z8 (1000003 - (t_lines_pr (t_lines_g (x2).toNat) (x1).toNat)))), (8, .int (z4 v29_8))]) hx hb dX2_takeAway_51 hl (by decide) rfl (fun ls hl => ?_)
          refine lv_iload hx hb dX2_takeAway_53 (lv_at hl 0 rfl) ?_
          obtain ⟨o10, hj10, hr10⟩ := bd_some hb6
          have J10 : ∀ (o_ : (Nat → Nat → Int)), o10 = o_ → ∀ (H : Heap) (locs : List Loc) (ls : Array Slot), lv_has ls 10 [(0, .ref a_t), (1, .int (z4 x1)), (3, .int (z4 x3)), (4, .ref (t_lines_g (x2).toNat)), (5, .ref (t_lines_g (x1).toNat)), (6, .long (z8 (1000003 - (t_lines_pr (t_lines_g (x2).toNat) (x1).toNat)))), (8, .int (z4 v29_8))] → va_P D vwCl ([(a_t, .inr (2, [.ref a_t_plan, .int (z4 t_solved), .int (z4 t_size), .ref a_t_lines, .ref a_t_columns, .ref a_t_numbers, .int (z4 t_known)])), (a_t_lines, .inl (E 4, 64, .inr (.inr (.inr (.inr (OG t_lines_g)))))), (a_t_columns, .inl (E 0, 65, .inl (A4 t_columns)))] ++ va_pl L_ (GP E o_)) H → va_D A ([(a_t, .inr (2, [.ref a_t_plan, .int (z4 t_solved), .int (z4 t_size), .ref a_t_lines, .ref a_t_columns, .ref a_t_numbers, .int (z4 t_known)])), (a_t_lines, .inl (E 4, 64, .inr (.inr (.inr (.inr (OG t_lines_g)))))), (a_t_columns, .inl (E 0, 65, .inl (A4 t_columns)))] ++ va_pl L_ (GP E o_)) → va_S A s.heap H locs → W p l e rm_X2_takeAway s m args below meth c H locs 0 0 Q (F0 m 93 ls []) := by
            intro o_ ho_ H locs ls hl hP hD hS
            subst ho_
            refine m_iinc X 6 [(8, .int (z4 (v29_8 + 1))), (0, .ref a_t), (1, .int (z4 x1)), (3, .int (z4 x3)), (4, .ref (t_lines_g (x2).toNat)), (5, .ref (t_lines_g (x1).toNat)), (6, .long (z8 (1000003 - (t_lines_pr (t_lines_g (x2).toNat) (x1).toNat))))] dX2_takeAway_93 hl rfl (by decide) rfl (fun ls hl => ?_)
            refine lv_goto (tgt := 29) hx hb dX2_takeAway_96 (by decide) ?_
            obtain rfl := Option.some.inj hr10
            exact ih6 _ _ _ _ _ (lv_sub hl [1, 2, 3, 4, 5, 6, 0] rfl) hP hD hS hq6
          obtain ⟨h11, hj10⟩ := ck_some hj10
          refine m_if_lt X h11 dX2_takeAway_55 (tgt := 93) (by decide) (fun (hc_ : t_columns (v29_8).toNat < 0) => ?_) (fun (hc_ : ¬ (t_columns (v29_8).toNat < 0)) => ?_)
          · rw [if_pos hc_] at hj10
            exact J10 _ (Option.some.inj hj10).symm _ _ _ (lv_sub hl [1, 2, 3, 4, 5, 6, 7] rfl) hP hD hS
          · rw [if_neg hc_] at hj10
            refine lv_iload hx hb dX2_takeAway_58 (lv_at hl 0 rfl) ?_
            refine lv_aload_n hx hb dX2_takeAway_60 rfl (lv_at hl 1 rfl) ?_
            refine m_get X hK hP cl_X2 iT_X2 2 (by decide) fl_X2_71 0 rfl rfl dX2_takeAway_61 ?_
            obtain ⟨h12, hj10⟩ := ck_some hj10
            refine m_icmp_gt X h12 dX2_takeAway_64 (tgt := 93) (by decide) (fun (hc_ : t_size < t_columns (v29_8).toNat) => ?_) (fun (hc_ : ¬ (t_size < t_columns (v29_8).toNat)) => ?_)
            · rw [if_pos hc_] at hj10
              exact J10 _ (Option.some.inj hj10).symm _ _ _ (lv_sub hl [1, 2, 3, 4, 5, 6, 7] rfl) hP hD hS
            · rw [if_neg hc_] at hj10
              refine lv_aload hx hb dX2_takeAway_67 (lv_at hl 4 rfl) ?_
              refine lv_iload hx hb dX2_takeAway_69 (lv_at hl 0 rfl) ?_
              refine lv_aload hx hb dX2_takeAway_71 (lv_at hl 4 rfl) ?_
              refine lv_iload hx hb dX2_takeAway_73 (lv_at hl 0 rfl) ?_
              obtain ⟨h13, hj10⟩ := ck_some hj10
              obtain ⟨h14, hj10⟩ := ck_some hj10
              refine m_raldG X hK hP h13 h14 dX2_takeAway_75 ?_
              obtain ⟨h15, hj10⟩ := ck_some hj10
              refine m_i2l X h15 dX2_takeAway_76 ?_
              refine lv_lload hx hb dX2_takeAway_77 (lv_at hl 6 rfl) ?_
              refine lv_aload hx hb dX2_takeAway_79 (lv_at hl 5 rfl) ?_
              refine lv_iload hx hb dX2_takeAway_81 (lv_at hl 0 rfl) ?_
              obtain ⟨h16, hj10⟩ := ck_some hj10
              obtain ⟨h17, hj10⟩ := ck_some hj10
              refine m_raldG X hK hP h16 h17 dX2_takeAway_83 ?_
              obtain ⟨h18, hj10⟩ := ck_some hj10
              refine m_i2l X h18 dX2_takeAway_84 ?_
              refine m_lmul X dX2_takeAway_85 ?_
              refine m_ladd X dX2_takeAway_86 ?_
              refine m_ldc2 X 1000003 co_X2_109 dX2_takeAway_87 ?_
              obtain ⟨h19, hj10⟩ := ck_some hj10
              refine m_lrem X h19 dX2_takeAway_90 ?_
              refine m_l2i X dX2_takeAway_91 ?_
              obtain ⟨h20, hj10⟩ := ck_some hj10
              obtain ⟨h21, hj10⟩ := ck_some hj10
              refine m_rastG X hK hP hD hS h20 h21 dX2_takeAway_92 (fun H locs hP hD hS => ?_)
              exact J10 _ (Option.some.inj hj10).symm _ _ _ (lv_sub hl [1, 2, 3, 4, 5, 6, 7] rfl) hP hD hS
  exact L6 n _ _ _ _ _ (lv_sub hl [4, 5, 7, 3, 2, 1, 0] rfl) hP hD hS hj6
def F_X2_eliminate_L29 (n : Nat) (v7_1 : Int) (L_ : List Nat) (t_size : Int) (o5 : Int × (Nat → Nat) × (Nat → Nat → Int) × (Nat → Int)) (v29_3 : Int) (t_lines_g_l29 : Nat → Nat) (t_lines_pr_l29 : Nat → Nat → Int) : Option ((Int × (Nat → Nat) × (Nat → Nat → Int)) ⊕ ((Nat → Nat) × (Nat → Nat → Int))) :=
  ck (r4 v29_3 ∧ r4 v7_1) <|
  if v29_3 < v7_1 then
    ck (ix_ v29_3 64) <|
    ck ((t_lines_g_l29 (v29_3).toNat) ∈ L_) <|
    ck (ix_ v7_1 65) <|
    Option.bind (α := (Nat → Nat) × (Nat → Nat → Int)) (
      ck (r4 (t_lines_pr_l29 (t_lines_g_l29 (v29_3).toNat) (v7_1).toNat)) <|
      if t_lines_pr_l29 (t_lines_g_l29 (v29_3).toNat) (v7_1).toNat = 0 then
        some (t_lines_g_l29, t_lines_pr_l29)
      else
        (F_X2_takeAway n L_ t_size t_lines_g_l29 t_lines_pr_l29 o5.2.2.2 v7_1 v29_3 o5.1).bind fun o13 =>
        some (o13.1, o13.2)) fun o11 =>
    some (.inl (v29_3 + 1, o11.1, o11.2))
  else
    some (.inr (t_lines_g_l29, t_lines_pr_l29))
def F_X2_eliminate_L7 (n : Nat) (L_ : List Nat) (t_size : Int) (v7_1 : Int) (t_lines_g_l7 : Nat → Nat) (t_lines_pr_l7 : Nat → Nat → Int) (t_columns_l7 : Nat → Int) : Option ((Int × (Nat → Nat) × (Nat → Nat → Int) × (Nat → Int)) ⊕ (((Nat → Nat) × (Nat → Nat → Int) × (Nat → Int)) ⊕ ((Nat → Nat) × (Nat → Nat → Int) × (Nat → Int)))) :=
  ck (r4 v7_1) <|
  if v7_1 < 0 then
    some (.inr (.inl (t_lines_g_l7, t_lines_pr_l7, t_columns_l7)))
  else
    (F_X2_bringUp n L_ t_lines_g_l7 t_lines_pr_l7 v7_1).bind fun o3 =>
    ck (r4 o3.1) <|
    if o3.1 = 0 then
      some (.inr (.inr (o3.2.1, o3.2.2, t_columns_l7)))
    else
      (F_X2_makeOne n L_ t_size o3.2.1 o3.2.2 t_columns_l7 v7_1).bind fun o5 =>
      (lp_ (fun (q : Int × (Nat → Nat) × (Nat → Nat → Int)) => F_X2_eliminate_L29 n v7_1 L_ t_size o5 q.1 q.2.1 q.2.2) n (0, o5.2.1, o5.2.2.1)).bind fun o6 =>
      some (.inl (v7_1 + (-1), o6.1, o6.2, o5.2.2.2))
def F_X2_eliminate (n : Nat) (L_ : List Nat)  (t_size : Int) (t_lines_g : Nat → Nat) (t_lines_pr : Nat → Nat → Int) (t_columns : Nat → Int)  : Option (Int × (Nat → Nat) × (Nat → Nat → Int) × (Nat → Int)) :=
  (lp_ (fun (q : Int × (Nat → Nat) × (Nat → Nat → Int) × (Nat → Int)) => F_X2_eliminate_L7 n L_ t_size q.1 q.2.1 q.2.2.1 q.2.2.2) n (t_size - 1, t_lines_g, t_lines_pr, t_columns)).bind fun o1 => match o1 with
  | .inl o1_0 =>
    some (1, o1_0.1, o1_0.2.1, o1_0.2.2)
  | .inr o1_1 =>
    some (0, o1_1.1, o1_1.2.1, o1_1.2.2)
def rm_X2_eliminate : Room := { frames := 2, cells := 0, slots := 0, locals := 51 }
set_option maxHeartbeats 4000000 in
set_option maxRecDepth 100000 in
theorem k_X2_eliminate {l : Launch} {D : va_G} {E : Nat → ClassId} (n : Nat) (a_t a_t_plan a_t_lines a_t_columns a_t_numbers : Nat) (L_ : List Nat) (t_solved : Int) (t_size : Int) (t_known : Int) (t_lines_g : Nat → Nat) (t_lines_pr : Nat → Nat → Int) (t_columns : Nat → Int) (res : Int × (Nat → Nat) × (Nat → Nat → Int) × (Nat → Int)) (hf : F_X2_eliminate n L_ t_size t_lines_g t_lines_pr t_columns = some res) : MW l yX2_eliminate (.code yX2_eliminate cX2_eliminate 4 (some .boolean)) rm_X2_eliminate D E [.ref a_t] ([(a_t, .inr (2, [.ref a_t_plan, .int (z4 t_solved), .int (z4 t_size), .ref a_t_lines, .ref a_t_columns, .ref a_t_numbers, .int (z4 t_known)])), (a_t_lines, .inl (E 4, 64, .inr (.inr (.inr (.inr (OG t_lines_g)))))), (a_t_columns, .inl (E 0, 65, .inl (A4 t_columns)))] ++ va_pl L_ (GP E t_lines_pr)) (some (.int (z4 res.1))) ([(a_t, .inr (2, [.ref a_t_plan, .int (z4 t_solved), .int (z4 t_size), .ref a_t_lines, .ref a_t_columns, .ref a_t_numbers, .int (z4 t_known)])), (a_t_lines, .inl (E 4, 64, .inr (.inr (.inr (.inr (OG res.2.1)))))), (a_t_columns, .inl (E 0, 65, .inl (A4 res.2.2.2)))] ++ va_pl L_ (GP E res.2.2.1)) := by
  refine MWz (by decide) (Nat.le_of_ble_eq_true rfl) ?_
  intro p e s m args below meth c A Q X hK hP hD hA ret ls hl
  have hS : va_S A s.heap s.heap [] := va_S.rf
  have hx := X.1
  have hb := X.2.1
  have hl : lv_has ls 4 [(0, .ref a_t)] := hl
  unfold F_X2_eliminate at hf
  refine lv_aload_n hx hb dX2_eliminate_0 rfl (lv_at hl 0 rfl) ?_
  refine m_get X hK hP cl_X2 iT_X2 2 (by decide) fl_X2_71 0 rfl rfl dX2_eliminate_1 ?_
  refine m_iconst X dX2_eliminate_4 ?_
  refine m_isub X dX2_eliminate_5 ?_
  refine lv_istore_n (lv' := [(1, .int (z4 (t_size - 1))), (0, .ref a_t)]) hx hb dX2_eliminate_6 rfl hl (by decide) rfl (fun ls hl => ?_)
  obtain ⟨o1, hj1, hr1⟩ := bd_some hf
  have E1_0 : ∀ (o_ : (Nat → Nat) × (Nat → Nat → Int) × (Nat → Int)), o1 = (.inl o_) → ∀ (H : Heap) (locs : List Loc) (ls : Array Slot), lv_has ls 4 [] → va_P D vwCl ([(a_t, .inr (2, [.ref a_t_plan, .int (z4 t_solved), .int (z4 t_size), .ref a_t_lines, .ref a_t_columns, .ref a_t_numbers, .int (z4 t_known)])), (a_t_lines, .inl (E 4, 64, .inr (.inr (.inr (.inr (OG o_.1)))))), (a_t_columns, .inl (E 0, 65, .inl (A4 o_.2.2)))] ++ va_pl L_ (GP E o_.2.1)) H → va_D A ([(a_t, .inr (2, [.ref a_t_plan, .int (z4 t_solved), .int (z4 t_size), .ref a_t_lines, .ref a_t_columns, .ref a_t_numbers, .int (z4 t_known)])), (a_t_lines, .inl (E 4, 64, .inr (.inr (.inr (.inr (OG o_.1)))))), (a_t_columns, .inl (E 0, 65, .inl (A4 o_.2.2)))] ++ va_pl L_ (GP E o_.2.1)) → va_S A s.heap H locs → W p l e rm_X2_eliminate s m args below meth c H locs 0 0 Q (F0 m 64 ls []) := by
    intro o1_0 ho_ H locs ls hl hP hD hS
    subst ho_
    refine m_iconst X dX2_eliminate_64 ?_
    obtain rfl := Option.some.inj hr1
    exact ret _ _ _ _ (Or.inr rfl) hP hD hS dX2_eliminate_65
  have E1_1 : ∀ (o_ : (Nat → Nat) × (Nat → Nat → Int) × (Nat → Int)), o1 = (.inr o_) → ∀ (H : Heap) (locs : List Loc) (ls : Array Slot), lv_has ls 4 [] → va_P D vwCl ([(a_t, .inr (2, [.ref a_t_plan, .int (z4 t_solved), .int (z4 t_size), .ref a_t_lines, .ref a_t_columns, .ref a_t_numbers, .int (z4 t_known)])), (a_t_lines, .inl (E 4, 64, .inr (.inr (.inr (.inr (OG o_.1)))))), (a_t_columns, .inl (E 0, 65, .inl (A4 o_.2.2)))] ++ va_pl L_ (GP E o_.2.1)) H → va_D A ([(a_t, .inr (2, [.ref a_t_plan, .int (z4 t_solved), .int (z4 t_size), .ref a_t_lines, .ref a_t_columns, .ref a_t_numbers, .int (z4 t_known)])), (a_t_lines, .inl (E 4, 64, .inr (.inr (.inr (.inr (OG o_.1)))))), (a_t_columns, .inl (E 0, 65, .inl (A4 o_.2.2)))] ++ va_pl L_ (GP E o_.2.1)) → va_S A s.heap H locs → W p l e rm_X2_eliminate s m args below meth c H locs 0 0 Q (F0 m 19 ls []) := by
    intro o1_1 ho_ H locs ls hl hP hD hS
    subst ho_
    refine m_iconst X dX2_eliminate_19 ?_
    obtain rfl := Option.some.inj hr1
    exact ret _ _ _ _ (Or.inl rfl) hP hD hS dX2_eliminate_20
  have L1 : ∀ (k_ : Nat) (v7_1 : Int) (t_lines_g_l7 : Nat → Nat) (t_lines_pr_l7 : Nat → Nat → Int) (t_columns_l7 : Nat → Int), ∀ (H : Heap) (locs : List Loc) (ls : Array Slot), lv_has ls 4 [(0, .ref a_t), (1, .int (z4 v7_1))] → va_P D vwCl ([(a_t, .inr (2, [.ref a_t_plan, .int (z4 t_solved), .int (z4 t_size), .ref a_t_lines, .ref a_t_columns, .ref a_t_numbers, .int (z4 t_known)])), (a_t_lines, .inl (E 4, 64, .inr (.inr (.inr (.inr (OG t_lines_g_l7)))))), (a_t_columns, .inl (E 0, 65, .inl (A4 t_columns_l7)))] ++ va_pl L_ (GP E t_lines_pr_l7)) H → va_D A ([(a_t, .inr (2, [.ref a_t_plan, .int (z4 t_solved), .int (z4 t_size), .ref a_t_lines, .ref a_t_columns, .ref a_t_numbers, .int (z4 t_known)])), (a_t_lines, .inl (E 4, 64, .inr (.inr (.inr (.inr (OG t_lines_g_l7)))))), (a_t_columns, .inl (E 0, 65, .inl (A4 t_columns_l7)))] ++ va_pl L_ (GP E t_lines_pr_l7)) → va_S A s.heap H locs → lp_ (fun (q : Int × (Nat → Nat) × (Nat → Nat → Int) × (Nat → Int)) => F_X2_eliminate_L7 n L_ t_size q.1 q.2.1 q.2.2.1 q.2.2.2) k_ (v7_1, t_lines_g_l7, t_lines_pr_l7, t_columns_l7) = some o1 → W p l e rm_X2_eliminate s m args below meth c H locs 0 0 Q (F0 m 7 ls []) := by
    intro k_
    induction k_ with
    | zero =>
      intro v7_1 t_lines_g_l7 t_lines_pr_l7 t_columns_l7 H locs ls hl hP hD hS hq_; exact (lp_zero hq_).elim
    | succ k_ ih1 =>
      intro v7_1 t_lines_g_l7 t_lines_pr_l7 t_columns_l7 H locs ls hl hP hD hS hq_
      obtain ⟨t_1, hb1, hq1⟩ := lp_some hq_
      replace hb1 : F_X2_eliminate_L7 n L_ t_size v7_1 t_lines_g_l7 t_lines_pr_l7 t_columns_l7 = some t_1 := hb1
      unfold F_X2_eliminate_L7 at hb1
      refine lv_iload_n hx hb dX2_eliminate_7 rfl (lv_at hl 1 rfl) ?_
      obtain ⟨h2, hb1⟩ := ck_some hb1
      refine m_if_lt X h2 dX2_eliminate_8 (tgt := 64) (by decide) (fun (hc_ : v7_1 < 0) => ?_) (fun (hc_ : ¬ (v7_1 < 0)) => ?_)
      · rw [if_pos hc_] at hb1
        obtain rfl := Option.some.inj hb1
        exact E1_0 _ (Option.some.inj hq1).symm _ _ _ (lv_sub hl [] rfl) hP hD hS
      · rw [if_neg hc_] at hb1
        refine lv_aload_n hx hb dX2_eliminate_11 rfl (lv_at hl 0 rfl) ?_
        refine lv_iload_n hx hb dX2_eliminate_12 rfl (lv_at hl 1 rfl) ?_
        obtain ⟨o3, ho, hb1⟩ := bd_some hb1
        refine m_cVWq X hK hP hD hS hA (wr := [(a_t_columns, .inl (E 0, 65, .inl (A4 t_columns_l7)))]) (k_X2_bringUp n a_t a_t_plan a_t_lines a_t_columns a_t_numbers L_ t_solved t_size t_known t_lines_g_l7 t_lines_pr_l7 v7_1 o3 ho) [0, 1] [2] [1, 2, 0] [(a_t, .inr (2, [.ref a_t_plan, .int (z4 t_solved), .int (z4 t_size), .ref a_t_lines, .ref a_t_columns, .ref a_t_numbers, .int (z4 t_known)])), (a_t_lines, .inl (E 4, 64, .inr (.inr (.inr (.inr (OG o3.2.1)))))), (a_t_columns, .inl (E 0, 65, .inl (A4 t_columns_l7)))] rfl rfl rfl rfl (by decide) rfl rfl rfl cl_X2 lk_X2_94 co_X2_bringUp dy_X2_bringUp rfl rfl ⟨Nat.le_of_ble_eq_true rfl, Nat.le_of_ble_eq_true rfl⟩ hl.1 rfl (Nat.le_of_ble_eq_true rfl) dX2_eliminate_13 (Nat.zero_le _) (Nat.zero_le _) (fun H locs hP hD hS => ?_)
        obtain ⟨h4, hb1⟩ := ck_some hb1
        refine m_if_ne X h4 dX2_eliminate_16 (tgt := 21) (by decide) (fun (hc_ : ¬ (o3.1 = 0)) => ?_) (fun (hc_ : o3.1 = 0) => ?_)
        · rw [if_neg hc_] at hb1
          refine lv_aload_n hx hb dX2_eliminate_21 rfl (lv_at hl 0 rfl) ?_
          refine lv_iload_n hx hb dX2_eliminate_22 rfl (lv_at hl 1 rfl) ?_
          obtain ⟨o5, ho, hb1⟩ := bd_some hb1
          refine m_cVWq X hK hP hD hS hA (wr := []) (k_X2_makeOne n a_t a_t_plan a_t_lines a_t_columns a_t_numbers L_ t_solved t_size t_known o3.2.1 o3.2.2 t_columns_l7 v7_1 o5 ho) [0, 1, 2] [] [0, 1, 2] [(a_t, .inr (2, [.ref a_t_plan, .int (z4 t_solved), .int (z4 t_size), .ref a_t_lines, .ref a_t_columns, .ref a_t_numbers, .int (z4 t_known)])), (a_t_lines, .inl (E 4, 64, .inr (.inr (.inr (.inr (OG o5.2.1)))))), (a_t_columns, .inl (E 0, 65, .inl (A4 o5.2.2.2)))] rfl rfl rfl rfl (by decide) rfl rfl rfl cl_X2 lk_X2_97 co_X2_makeOne dy_X2_makeOne rfl rfl ⟨Nat.le_of_ble_eq_true rfl, Nat.le_of_ble_eq_true rfl⟩ hl.1 rfl (Nat.le_of_ble_eq_true rfl) dX2_eliminate_23 (Nat.zero_le _) (Nat.zero_le _) (fun H locs hP hD hS => ?_)
          refine lv_istore_n (lv' := [(2, .int (z4 o5.1)), (0, .ref a_t), (1, .int (z4 v7_1))]) hx hb dX2_eliminate_26 rfl hl (by decide) rfl (fun ls hl => ?_)
          refine m_iconst X dX2_eliminate_27 ?_
          refine lv_istore_n (lv' := [(3, .int (z4 0)), (2, .int (z4 o5.1)), (0, .ref a_t), (1, .int (z4 v7_1))]) hx hb dX2_eliminate_28 rfl hl (by decide) rfl (fun ls hl => ?_)
          obtain ⟨o6, hj6, hr6⟩ := bd_some hb1
          have E6_0 : ∀ (o_ : (Nat → Nat) × (Nat → Nat → Int)), o6 = o_ → ∀ (H : Heap) (locs : List Loc) (ls : Array Slot), lv_has ls 4 [(0, .ref a_t), (1, .int (z4 v7_1))] → va_P D vwCl ([(a_t, .inr (2, [.ref a_t_plan, .int (z4 t_solved), .int (z4 t_size), .ref a_t_lines, .ref a_t_columns, .ref a_t_numbers, .int (z4 t_known)])), (a_t_lines, .inl (E 4, 64, .inr (.inr (.inr (.inr (OG o_.1)))))), (a_t_columns, .inl (E 0, 65, .inl (A4 o5.2.2.2)))] ++ va_pl L_ (GP E o_.2)) H → va_D A ([(a_t, .inr (2, [.ref a_t_plan, .int (z4 t_solved), .int (z4 t_size), .ref a_t_lines, .ref a_t_columns, .ref a_t_numbers, .int (z4 t_known)])), (a_t_lines, .inl (E 4, 64, .inr (.inr (.inr (.inr (OG o_.1)))))), (a_t_columns, .inl (E 0, 65, .inl (A4 o5.2.2.2)))] ++ va_pl L_ (GP E o_.2)) → va_S A s.heap H locs → W p l e rm_X2_eliminate s m args below meth c H locs 0 0 Q (F0 m 58 ls []) := by
            intro o_ ho_ H locs ls hl hP hD hS
            subst ho_
            refine m_iinc X 1 [(1, .int (z4 (v7_1 + (-1)))), (0, .ref a_t)] dX2_eliminate_58 hl rfl (by decide) rfl (fun ls hl => ?_)
            refine lv_goto (tgt := 7) hx hb dX2_eliminate_61 (by decide) ?_
            obtain rfl := Option.some.inj hr6
            exact ih1 _ _ _ _ _ _ _ (lv_sub hl [1, 0] rfl) hP hD hS hq1
          have L6 : ∀ (k_ : Nat) (v29_3 : Int) (t_lines_g_l29 : Nat → Nat) (t_lines_pr_l29 : Nat → Nat → Int), ∀ (H : Heap) (locs : List Loc) (ls : Array Slot), lv_has ls 4 [(0, .ref a_t), (1, .int (z4 v7_1)), (2, .int (z4 o5.1)), (3, .int (z4 v29_3))] → va_P D vwCl ([(a_t, .inr (2, [.ref a_t_plan, .int (z4 t_solved), .int (z4 t_size), .ref a_t_lines, .ref a_t_columns, .ref a_t_numbers, .int (z4 t_known)])), (a_t_lines, .inl (E 4, 64, .inr (.inr (.inr (.inr (OG t_lines_g_l29)))))), (a_t_columns, .inl (E 0, 65, .inl (A4 o5.2.2.2)))] ++ va_pl L_ (GP E t_lines_pr_l29)) H → va_D A ([(a_t, .inr (2, [.ref a_t_plan, .int (z4 t_solved), .int (z4 t_size), .ref a_t_lines, .ref a_t_columns, .ref a_t_numbers, .int (z4 t_known)])), (a_t_lines, .inl (E 4, 64, .inr (.inr (.inr (.inr (OG t_lines_g_l29)))))), (a_t_columns, .inl (E 0, 65, .inl (A4 o5.2.2.2)))] ++ va_pl L_ (GP E t_lines_pr_l29)) → va_S A s.heap H locs → lp_ (fun (q : Int × (Nat → Nat) × (Nat → Nat → Int)) => F_X2_eliminate_L29 n v7_1 L_ t_size o5 q.1 q.2.1 q.2.2) k_ (v29_3, t_lines_g_l29, t_lines_pr_l29) = some o6 → W p l e rm_X2_eliminate s m args below meth c H locs 0 0 Q (F0 m 29 ls []) := by
            intro k_
            induction k_ with
            | zero =>
              intro v29_3 t_lines_g_l29 t_lines_pr_l29 H locs ls hl hP hD hS hq_; exact (lp_zero hq_).elim
            | succ k_ ih6 =>
              intro v29_3 t_lines_g_l29 t_lines_pr_l29 H locs ls hl hP hD hS hq_
              obtain ⟨t_6, hb6, hq6⟩ := lp_some hq_
              replace hb6 : F_X2_eliminate_L29 n v7_1 L_ t_size o5 v29_3 t_lines_g_l29 t_lines_pr_l29 = some t_6 := hb6
              unfold F_X2_eliminate_L29 at hb6
              refine lv_iload_n hx hb dX2_eliminate_29 rfl (lv_at hl 3 rfl) ?_
              refine lv_iload_n hx hb dX2_eliminate_30 rfl (lv_at hl 1 rfl) ?_
              obtain ⟨h7, hb6⟩ := ck_some hb6
              refine m_icmp_ge X h7 dX2_eliminate_31 (tgt := 58) (by decide) (fun (hc_ : ¬ (v29_3 < v7_1)) => ?_) (fun (hc_ : v29_3 < v7_1) => ?_)
              · rw [if_neg hc_] at hb6
                obtain rfl := Option.some.inj hb6
                exact E6_0 _ (Option.some.inj hq6).symm _ _ _ (lv_sub hl [0, 1] rfl) hP hD hS
              · rw [if_pos hc_] at hb6
                refine lv_aload_n hx hb dX2_eliminate_34 rfl (lv_at hl 0 rfl) ?_
                refine m_get X hK hP cl_X2 iT_X2 3 (by decide) fl_X2_24 0 rfl rfl dX2_eliminate_35 ?_
                refine lv_iload_n hx hb dX2_eliminate_38 rfl (lv_at hl 3 rfl) ?_
                obtain ⟨h8, hb6⟩ := ck_some hb6
                refine m_aaldG X hK hP 1 rfl (by decide) h8 dX2_eliminate_39 ?_
                refine lv_iload_n hx hb dX2_eliminate_40 rfl (lv_at hl 1 rfl) ?_
                obtain ⟨h9, hb6⟩ := ck_some hb6
                obtain ⟨h10, hb6⟩ := ck_some hb6
                refine m_raldG X hK hP h9 h10 dX2_eliminate_41 ?_
                obtain ⟨o11, hj11, hr11⟩ := bd_some hb6
                have J11 : ∀ (o_ : (Nat → Nat) × (Nat → Nat → Int)), o11 = o_ → ∀ (H : Heap) (locs : List Loc) (ls : Array Slot), lv_has ls 4 [(0, .ref a_t), (1, .int (z4 v7_1)), (2, .int (z4 o5.1)), (3, .int (z4 v29_3))] → va_P D vwCl ([(a_t, .inr (2, [.ref a_t_plan, .int (z4 t_solved), .int (z4 t_size), .ref a_t_lines, .ref a_t_columns, .ref a_t_numbers, .int (z4 t_known)])), (a_t_lines, .inl (E 4, 64, .inr (.inr (.inr (.inr (OG o_.1)))))), (a_t_columns, .inl (E 0, 65, .inl (A4 o5.2.2.2)))] ++ va_pl L_ (GP E o_.2)) H → va_D A ([(a_t, .inr (2, [.ref a_t_plan, .int (z4 t_solved), .int (z4 t_size), .ref a_t_lines, .ref a_t_columns, .ref a_t_numbers, .int (z4 t_known)])), (a_t_lines, .inl (E 4, 64, .inr (.inr (.inr (.inr (OG o_.1)))))), (a_t_columns, .inl (E 0, 65, .inl (A4 o5.2.2.2)))] ++ va_pl L_ (GP E o_.2)) → va_S A s.heap H locs → W p l e rm_X2_eliminate s m args below meth c H locs 0 0 Q (F0 m 52 ls []) := by
                  intro o_ ho_ H locs ls hl hP hD hS
                  subst ho_
                  refine m_iinc X 3 [(3, .int (z4 (v29_3 + 1))), (0, .ref a_t), (1, .int (z4 v7_1)), (2, .int (z4 o5.1))] dX2_eliminate_52 hl rfl (by decide) rfl (fun ls hl => ?_)
                  refine lv_goto (tgt := 29) hx hb dX2_eliminate_55 (by decide) ?_
                  obtain rfl := Option.some.inj hr11
                  exact ih6 _ _ _ _ _ _ (lv_sub hl [1, 2, 3, 0] rfl) hP hD hS hq6
                obtain ⟨h12, hj11⟩ := ck_some hj11
                refine m_if_eq X h12 dX2_eliminate_42 (tgt := 52) (by decide) (fun (hc_ : t_lines_pr_l29 (t_lines_g_l29 (v29_3).toNat) (v7_1).toNat = 0) => ?_) (fun (hc_ : ¬ (t_lines_pr_l29 (t_lines_g_l29 (v29_3).toNat) (v7_1).toNat = 0)) => ?_)
                · rw [if_pos hc_] at hj11
                  exact J11 _ (Option.some.inj hj11).symm _ _ _ (lv_sub hl [0, 1, 2, 3] rfl) hP hD hS
                · rw [if_neg hc_] at hj11
                  refine lv_aload_n hx hb dX2_eliminate_45 rfl (lv_at hl 0 rfl) ?_
                  refine lv_iload_n hx hb dX2_eliminate_46 rfl (lv_at hl 1 rfl) ?_
                  refine lv_iload_n hx hb dX2_eliminate_47 rfl (lv_at hl 3 rfl) ?_
                  refine lv_iload_n hx hb dX2_eliminate_48 rfl (lv_at hl 2 rfl) ?_
                  obtain ⟨o13, ho, hj11⟩ := bd_some hj11
                  refine m_cVWq X hK hP hD hS hA (wr := []) (k_X2_takeAway n a_t a_t_plan a_t_lines a_t_columns a_t_numbers L_ t_solved t_size t_known t_lines_g_l29 t_lines_pr_l29 o5.2.2.2 v7_1 v29_3 o5.1 o13 ho) [0, 1, 2] [] [0, 1, 2] [(a_t, .inr (2, [.ref a_t_plan, .int (z4 t_solved), .int (z4 t_size), .ref a_t_lines, .ref a_t_columns, .ref a_t_numbers, .int (z4 t_known)])), (a_t_lines, .inl (E 4, 64, .inr (.inr (.inr (.inr (OG o13.1)))))), (a_t_columns, .inl (E 0, 65, .inl (A4 o5.2.2.2)))] rfl rfl rfl rfl (by decide) rfl rfl rfl cl_X2 lk_X2_101 co_X2_takeAway dy_X2_takeAway rfl rfl ⟨Nat.le_of_ble_eq_true rfl, Nat.le_of_ble_eq_true rfl⟩ hl.1 rfl (Nat.le_of_ble_eq_true rfl) dX2_eliminate_49 (Nat.zero_le _) (Nat.zero_le _) (fun H locs hP hD hS => ?_)
                  exact J11 _ (Option.some.inj hj11).symm _ _ _ (lv_sub hl [0, 1, 2, 3] rfl) hP hD hS
          exact L6 n _ _ _ _ _ _ (lv_sub hl [2, 3, 1, 0] rfl) hP hD hS hj6
        · rw [if_pos hc_] at hb1
          obtain rfl := Option.some.inj hb1
          exact E1_1 _ (Option.some.inj hq1).symm _ _ _ (lv_sub hl [] rfl) hP hD hS
  exact L1 n _ _ _ _ _ _ _ (lv_sub hl [1, 0] rfl) hP hD hS hj1
def F_X2_setUp_L51 (n : Nat) (v15_2 : Int) (p1_steps : Nat → Int) (t_lines_g : Nat → Nat) (L_ : List Nat) (t_plan_chances : Nat → Int) (v51_4 : Int) (t_lines_pr_l51 : Nat → Nat → Int) : Option ((Int × (Nat → Nat → Int)) ⊕ ((Nat → Nat → Int))) :=
  ck (r4 v51_4) <|
  if v51_4 < 5 then
    ck (ix_ ((v15_2 * 5) + v51_4) 320) <|
    (F_X11_isPast n (p1_steps ((v15_2 * 5) + v51_4).toNat)).bind fun o14 =>
    Option.bind (α := (Nat → Nat → Int)) (
      ck (r4 o14) <|
      if o14 = 0 then
        some t_lines_pr_l51
      else
        ck ((t_lines_g (v15_2).toNat) ∈ L_) <|
        ck (ix_ (p1_steps ((v15_2 * 5) + v51_4).toNat) 65) <|
        ck (ix_ v51_4 5) <|
        (F_J9_floorMod_7cf53 n ((t_lines_pr_l51 (t_lines_g (v15_2).toNat) (p1_steps ((v15_2 * 5) + v51_4).toNat).toNat) - (t_plan_chances (v51_4).toNat)) 1000003).bind fun o20 =>
        ck ((t_lines_g (v15_2).toNat) ∈ L_) <|
        ck (ix_ (p1_steps ((v15_2 * 5) + v51_4).toNat) 65) <|
        some (u2_ t_lines_pr_l51 (t_lines_g (v15_2).toNat) (p1_steps ((v15_2 * 5) + v51_4).toNat).toNat o20)) fun o15 =>
    some (.inl (v51_4 + 1, o15))
  else
    some (.inr t_lines_pr_l51)
def F_X2_setUp_L15 (n : Nat) (p1_states : Int) (t_lines_g : Nat → Nat) (L_ : List Nat) (p1_steps : Nat → Int) (t_plan_chances : Nat → Int) (v15_2 : Int) (t_lines_pr_l15 : Nat → Nat → Int) : Option ((Int × (Nat → Nat → Int)) ⊕ ((Nat → Nat → Int))) :=
  ck (r4 v15_2 ∧ r4 (min 64 p1_states)) <|
  if v15_2 < min 64 p1_states then
    ck (ix_ v15_2 64) <|
    ck ((t_lines_g (v15_2).toNat) ∈ L_) <|
    (F_J7_fill_53178 n 65 (t_lines_pr_l15 (t_lines_g (v15_2).toNat)) 0).bind fun o5 =>
    ck ((t_lines_g (v15_2).toNat) ∈ L_) <|
    ck (ix_ v15_2 65) <|
    ck ((t_lines_g (v15_2).toNat) ∈ L_) <|
    ck (ix_ (min 64 p1_states) 65) <|
    (lp_ (fun (q : Int × (Nat → Nat → Int)) => F_X2_setUp_L51 n v15_2 p1_steps t_lines_g L_ t_plan_chances q.1 q.2) n (0, u2_ (u2_ (up_ t_lines_pr_l15 (t_lines_g (v15_2).toNat) o5) (t_lines_g (v15_2).toNat) (v15_2).toNat 10) (t_lines_g (v15_2).toNat) (min 64 p1_states).toNat 10)).bind fun o11 =>
    some (.inl (v15_2 + 1, o11))
  else
    some (.inr t_lines_pr_l15)
def F_X2_setUp (n : Nat) (L_ : List Nat)  (p1_states : Int) (t_lines_g : Nat → Nat) (t_lines_pr : Nat → Nat → Int) (p1_steps : Nat → Int) (t_plan_chances : Nat → Int)  : Option (Int × (Nat → Nat) × (Nat → Nat → Int)) :=
  ck (r4 p1_states) <|
  (lp_ (fun (q : Int × (Nat → Nat → Int)) => F_X2_setUp_L15 n p1_states t_lines_g L_ p1_steps t_plan_chances q.1 q.2) n (0, t_lines_pr)).bind fun o2 =>
  some (min 64 p1_states, t_lines_g, o2)
def rm_X2_setUp : Room := { frames := 1, cells := 0, slots := 0, locals := 23 }
set_option maxHeartbeats 4000000 in
set_option maxRecDepth 100000 in
theorem k_X2_setUp {l : Launch} {D : va_G} {E : Nat → ClassId} (n : Nat) (a_t a_t_plan a_t_lines a_t_columns a_t_numbers a_p1 a_p1_plan a_p1_leads a_p1_part a_p1_finer a_p1_keys a_p1_stateOfPart a_p1_pastOfState a_p1_steps a_p1_away a_t_plan_least a_t_plan_of a_t_plan_set a_t_plan_chances : Nat) (L_ : List Nat) (t_solved : Int) (t_size : Int) (t_known : Int) (p1_pasts : Int) (p1_states : Int) (t_lines_g : Nat → Nat) (t_lines_pr : Nat → Nat → Int) (p1_steps : Nat → Int) (t_plan_rules : Int) (t_plan_slack : Int) (t_plan_limit : Int) (t_plan_chances : Nat → Int) (res : Int × (Nat → Nat) × (Nat → Nat → Int)) (hf : F_X2_setUp n L_ p1_states t_lines_g t_lines_pr p1_steps t_plan_chances = some res) : MW l yX2_setUp (.code yX2_setUp cX2_setUp 6 none) rm_X2_setUp D E [.ref a_t, .ref a_p1] ([(a_t, .inr (2, [.ref a_t_plan, .int (z4 t_solved), .int (z4 t_size), .ref a_t_lines, .ref a_t_columns, .ref a_t_numbers, .int (z4 t_known)])), (a_p1, .inr (1, [.ref a_p1_plan, .int (z4 p1_pasts), .ref a_p1_leads, .ref a_p1_part, .ref a_p1_finer, .ref a_p1_keys, .ref a_p1_stateOfPart, .ref a_p1_pastOfState, .int (z4 p1_states), .ref a_p1_steps, .ref a_p1_away])), (a_t_lines, .inl (E 4, 64, .inr (.inr (.inr (.inr (OG t_lines_g)))))), (a_p1_steps, .inl (E 0, 320, .inl (A4 p1_steps))), (a_t_plan, .inr (4, [.int (z4 t_plan_rules), .ref a_t_plan_least, .ref a_t_plan_of, .ref a_t_plan_set, .ref a_t_plan_chances, .int (z4 t_plan_slack), .int (z4 t_plan_limit)])), (a_t_plan_chances, .inl (E 0, 5, .inl (A4 t_plan_chances)))] ++ va_pl L_ (GP E t_lines_pr)) none ([(a_t, .inr (2, [.ref a_t_plan, .int (z4 t_solved), .int (z4 res.1), .ref a_t_lines, .ref a_t_columns, .ref a_t_numbers, .int (z4 t_known)])), (a_p1, .inr (1, [.ref a_p1_plan, .int (z4 p1_pasts), .ref a_p1_leads, .ref a_p1_part, .ref a_p1_finer, .ref a_p1_keys, .ref a_p1_stateOfPart, .ref a_p1_pastOfState, .int (z4 p1_states), .ref a_p1_steps, .ref a_p1_away])), (a_t_lines, .inl (E 4, 64, .inr (.inr (.inr (.inr (OG res.2.1)))))), (a_p1_steps, .inl (E 0, 320, .inl (A4 p1_steps))), (a_t_plan, .inr (4, [.int (z4 t_plan_rules), .ref a_t_plan_least, .ref a_t_plan_of, .ref a_t_plan_set, .ref a_t_plan_chances, .int (z4 t_plan_slack), .int (z4 t_plan_limit)])), (a_t_plan_chances, .inl (E 0, 5, .inl (A4 t_plan_chances)))] ++ va_pl L_ (GP E res.2.2)) := by
  refine MWv (by decide) (Nat.le_of_ble_eq_true rfl) ?_
  intro p e s m args below meth c A Q X hK hP hD hA ret ls hl
  have hS : va_S A s.heap s.heap [] := va_S.rf
  have hx := X.1
  have hb := X.2.1
  have hl : lv_has ls 6 [(0, .ref a_t), (1, .ref a_p1)] := hl
  unfold F_X2_setUp at hf
  refine lv_aload_n hx hb dX2_setUp_0 rfl (lv_at hl 0 rfl) ?_
  refine m_bipush X dX2_setUp_1 (by decide) ?_
  refine lv_aload_n hx hb dX2_setUp_3 rfl (lv_at hl 1 rfl) ?_
  refine m_get X hK hP cl_X1 iT_X1 8 (by decide) fl_X2_59 1 rfl rfl dX2_setUp_4 ?_
  obtain ⟨h1, hf⟩ := ck_some hf
  refine m_min X ml_X2_65 st_min in_Math cd_min hl.1 (Nat.le_of_ble_eq_true rfl) (Nat.le_of_ble_eq_true rfl) (Nat.zero_le _) (Nat.zero_le _) ⟨⟨by decide, by decide⟩, h1⟩ dX2_setUp_7 ?_
  refine m_put X hK hP hD hS cl_X2 iT_X2 tyX2 tyX2_ok nmX2 2 (by decide) fl_X2_71 rfl 0 rfl rfl rfl (Nat.le_of_ble_eq_true rfl) ([(a_t, .inr (2, [.ref a_t_plan, .int (z4 t_solved), .int (z4 (min 64 p1_states)), .ref a_t_lines, .ref a_t_columns, .ref a_t_numbers, .int (z4 t_known)])), (a_p1, .inr (1, [.ref a_p1_plan, .int (z4 p1_pasts), .ref a_p1_leads, .ref a_p1_part, .ref a_p1_finer, .ref a_p1_keys, .ref a_p1_stateOfPart, .ref a_p1_pastOfState, .int (z4 p1_states), .ref a_p1_steps, .ref a_p1_away])), (a_t_lines, .inl (E 4, 64, .inr (.inr (.inr (.inr (OG t_lines_g)))))), (a_p1_steps, .inl (E 0, 320, .inl (A4 p1_steps))), (a_t_plan, .inr (4, [.int (z4 t_plan_rules), .ref a_t_plan_least, .ref a_t_plan_of, .ref a_t_plan_set, .ref a_t_plan_chances, .int (z4 t_plan_slack), .int (z4 t_plan_limit)])), (a_t_plan_chances, .inl (E 0, 5, .inl (A4 t_plan_chances)))] ++ va_pl L_ (GP E t_lines_pr)) rfl dX2_setUp_10 (fun H locs hP hD hS => ?_)
  refine m_iconst X dX2_setUp_13 ?_
  refine lv_istore_n (lv' := [(2, .int (z4 0)), (0, .ref a_t), (1, .ref a_p1)]) hx hb dX2_setUp_14 rfl hl (by decide) rfl (fun ls hl => ?_)
  obtain ⟨o2, hj2, hr2⟩ := bd_some hf
  have E2_0 : ∀ (o_ : (Nat → Nat → Int)), o2 = o_ → ∀ (H : Heap) (locs : List Loc) (ls : Array Slot), lv_has ls 6 [] → va_P D vwCl ([(a_t, .inr (2, [.ref a_t_plan, .int (z4 t_solved), .int (z4 (min 64 p1_states)), .ref a_t_lines, .ref a_t_columns, .ref a_t_numbers, .int (z4 t_known)])), (a_p1, .inr (1, [.ref a_p1_plan, .int (z4 p1_pasts), .ref a_p1_leads, .ref a_p1_part, .ref a_p1_finer, .ref a_p1_keys, .ref a_p1_stateOfPart, .ref a_p1_pastOfState, .int (z4 p1_states), .ref a_p1_steps, .ref a_p1_away])), (a_t_lines, .inl (E 4, 64, .inr (.inr (.inr (.inr (OG t_lines_g)))))), (a_p1_steps, .inl (E 0, 320, .inl (A4 p1_steps))), (a_t_plan, .inr (4, [.int (z4 t_plan_rules), .ref a_t_plan_least, .ref a_t_plan_of, .ref a_t_plan_set, .ref a_t_plan_chances, .int (z4 t_plan_slack), .int (z4 t_plan_limit)])), (a_t_plan_chances, .inl (E 0, 5, .inl (A4 t_plan_chances)))] ++ va_pl L_ (GP E o_)) H → va_D A ([(a_t, .inr (2, [.ref a_t_plan, .int (z4 t_solved), .int (z4 (min 64 p1_states)), .ref a_t_lines, .ref a_t_columns, .ref a_t_numbers, .int (z4 t_known)])), (a_p1, .inr (1, [.ref a_p1_plan, .int (z4 p1_pasts), .ref a_p1_leads, .ref a_p1_part, .ref a_p1_finer, .ref a_p1_keys, .ref a_p1_stateOfPart, .ref a_p1_pastOfState, .int (z4 p1_states), .ref a_p1_steps, .ref a_p1_away])), (a_t_lines, .inl (E 4, 64, .inr (.inr (.inr (.inr (OG t_lines_g)))))), (a_p1_steps, .inl (E 0, 320, .inl (A4 p1_steps))), (a_t_plan, .inr (4, [.int (z4 t_plan_rules), .ref a_t_plan_least, .ref a_t_plan_of, .ref a_t_plan_set, .ref a_t_plan_chances, .int (z4 t_plan_slack), .int (z4 t_plan_limit)])), (a_t_plan_chances, .inl (E 0, 5, .inl (A4 t_plan_chances)))] ++ va_pl L_ (GP E o_)) → va_S A s.heap H locs → W p l e rm_X2_setUp s m args below meth c H locs 0 0 Q (F0 m 114 ls []) := by
    intro o_ ho_ H locs ls hl hP hD hS
    subst ho_
    obtain rfl := Option.some.inj hr2
    exact ret _ _ _ _ hP hD hS dX2_setUp_114
  have L2 : ∀ (k_ : Nat) (v15_2 : Int) (t_lines_pr_l15 : Nat → Nat → Int), ∀ (H : Heap) (locs : List Loc) (ls : Array Slot), lv_has ls 6 [(0, .ref a_t), (1, .ref a_p1), (2, .int (z4 v15_2))] → va_P D vwCl ([(a_t, .inr (2, [.ref a_t_plan, .int (z4 t_solved), .int (z4 (min 64 p1_states)), .ref a_t_lines, .ref a_t_columns, .ref a_t_numbers, .int (z4 t_known)])), (a_p1, .inr (1, [.ref a_p1_plan, .int (z4 p1_pasts), .ref a_p1_leads, .ref a_p1_part, .ref a_p1_finer, .ref a_p1_keys, .ref a_p1_stateOfPart, .ref a_p1_pastOfState, .int (z4 p1_states), .ref a_p1_steps, .ref a_p1_away])), (a_t_lines, .inl (E 4, 64, .inr (.inr (.inr (.inr (OG t_lines_g)))))), (a_p1_steps, .inl (E 0, 320, .inl (A4 p1_steps))), (a_t_plan, .inr (4, [.int (z4 t_plan_rules), .ref a_t_plan_least, .ref a_t_plan_of, .ref a_t_plan_set, .ref a_t_plan_chances, .int (z4 t_plan_slack), .int (z4 t_plan_limit)])), (a_t_plan_chances, .inl (E 0, 5, .inl (A4 t_plan_chances)))] ++ va_pl L_ (GP E t_lines_pr_l15)) H → va_D A ([(a_t, .inr (2, [.ref a_t_plan, .int (z4 t_solved), .int (z4 (min 64 p1_states)), .ref a_t_lines, .ref a_t_columns, .ref a_t_numbers, .int (z4 t_known)])), (a_p1, .inr (1, [.ref a_p1_plan, .int (z4 p1_pasts), .ref a_p1_leads, .ref a_p1_part, .ref a_p1_finer, .ref a_p1_keys, .ref a_p1_stateOfPart, .ref a_p1_pastOfState, .int (z4 p1_states), .ref a_p1_steps, .ref a_p1_away])), (a_t_lines, .inl (E 4, 64, .inr (.inr (.inr (.inr (OG t_lines_g)))))), (a_p1_steps, .inl (E 0, 320, .inl (A4 p1_steps))), (a_t_plan, .inr (4, [.int (z4 t_plan_rules), .ref a_t_plan_least, .ref a_t_plan_of, .ref a_t_plan_set, .ref a_t_plan_chances, .int (z4 t_plan_slack), .int (z4 t_plan_limit)])), (a_t_plan_chances, .inl (E 0, 5, .inl (A4 t_plan_chances)))] ++ va_pl L_ (GP E t_lines_pr_l15)) → va_S A s.heap H locs → lp_ (fun (q : Int × (Nat → Nat → Int)) => F_X2_setUp_L15 n p1_states t_lines_g L_ p1_steps t_plan_chances q.1 q.2) k_ (v15_2, t_lines_pr_l15) = some o2 → W p l e rm_X2_setUp s m args below meth c H locs 0 0 Q (F0 m 15 ls []) := by
    intro k_
    induction k_ with
    | zero =>
      intro v15_2 t_lines_pr_l15 H locs ls hl hP hD hS hq_; exact (lp_zero hq_).elim
    | succ k_ ih2 =>
      intro v15_2 t_lines_pr_l15 H locs ls hl hP hD hS hq_
      obtain ⟨t_2, hb2, hq2⟩ := lp_some hq_
      replace hb2 : F_X2_setUp_L15 n p1_states t_lines_g L_ p1_steps t_plan_chances v15_2 t_lines_pr_l15 = some t_2 := hb2
      unfold F_X2_setUp_L15 at hb2
      refine lv_iload_n hx hb dX2_setUp_15 rfl (lv_at hl 2 rfl) ?_
      refine lv_aload_n hx hb dX2_setUp_16 rfl (lv_at hl 0 rfl) ?_
      refine m_get X hK hP cl_X2 iT_X2 2 (by decide) fl_X2_71 0 rfl rfl dX2_setUp_17 ?_
      obtain ⟨h3, hb2⟩ := ck_some hb2
      refine m_icmp_ge X h3 dX2_setUp_20 (tgt := 114) (by decide) (fun (hc_ : ¬ (v15_2 < min 64 p1_states)) => ?_) (fun (hc_ : v15_2 < min 64 p1_states) => ?_)
      · rw [if_neg hc_] at hb2
        obtain rfl := Option.some.inj hb2
        exact E2_0 _ (Option.some.inj hq2).symm _ _ _ (lv_sub hl [] rfl) hP hD hS
      · rw [if_pos hc_] at hb2
        refine lv_aload_n hx hb dX2_setUp_23 rfl (lv_at hl 0 rfl) ?_
        refine m_get X hK hP cl_X2 iT_X2 3 (by decide) fl_X2_24 0 rfl rfl dX2_setUp_24 ?_
        refine lv_iload_n hx hb dX2_setUp_27 rfl (lv_at hl 2 rfl) ?_
        obtain ⟨h4, hb2⟩ := ck_some hb2
        refine m_aaldG X hK hP 2 rfl (by decide) h4 dX2_setUp_28 ?_
        refine lv_astore_n (lv' := [(3, .ref (t_lines_g (v15_2).toNat)), (0, .ref a_t), (1, .ref a_p1), (2, .int (z4 v15_2))]) hx hb dX2_setUp_29 rfl hl (by decide) rfl (fun ls hl => ?_)
        refine lv_aload_n hx hb dX2_setUp_30 rfl (lv_at hl 0 rfl) ?_
        refine m_iconst X dX2_setUp_31 ?_
        obtain ⟨h6, hb2⟩ := ck_some hb2
        obtain ⟨o5, ho, hb2⟩ := bd_some hb2
        refine m_cSWr X hK hP hD hS hA h6 (k_J7_fill_53178 n (t_lines_g (v15_2).toNat) 65 (by decide) (t_lines_pr_l15 (t_lines_g (v15_2).toNat)) 0 o5 ho) lk_X2_74 co_J7_fill_53178 dy_J7_fill_53178 rfl rfl ⟨Nat.le_of_ble_eq_true rfl, Nat.le_of_ble_eq_true rfl⟩ hl.1 rfl (Nat.le_of_ble_eq_true rfl) dX2_setUp_32 (Nat.zero_le _) (Nat.zero_le _) (fun H locs hP hD hS => ?_)
        refine lv_aload_n hx hb dX2_setUp_35 rfl (lv_at hl 0 rfl) ?_
        refine lv_iload_n hx hb dX2_setUp_36 rfl (lv_at hl 3 rfl) ?_
        refine m_bipush X dX2_setUp_37 (by decide) ?_
        obtain ⟨h7, hb2⟩ := ck_some hb2
        obtain ⟨h8, hb2⟩ := ck_some hb2
        refine m_rastG X hK hP hD hS h7 h8 dX2_setUp_39 (fun H locs hP hD hS => ?_)
        refine lv_aload_n hx hb dX2_setUp_40 rfl (lv_at hl 0 rfl) ?_
        refine lv_aload_n hx hb dX2_setUp_41 rfl (lv_at hl 1 rfl) ?_
        refine m_get X hK hP cl_X2 iT_X2 2 (by decide) fl_X2_71 0 rfl rfl dX2_setUp_42 ?_
        refine m_bipush X dX2_setUp_45 (by decide) ?_
        obtain ⟨h9, hb2⟩ := ck_some hb2
        obtain ⟨h10, hb2⟩ := ck_some hb2
        refine m_rastG X hK hP hD hS h9 h10 dX2_setUp_47 (fun H locs hP hD hS => ?_)
        refine m_iconst X dX2_setUp_48 ?_
        refine lv_istore (lv' := [(4, .int (z4 0)), (3, .ref (t_lines_g (v15_2).toNat)), (0, .ref a_t), (1, .ref a_p1), (2, .int (z4 v15_2))]) hx hb dX2_setUp_49 hl (by decide) rfl (fun ls hl => ?_)
        obtain ⟨o11, hj11, hr11⟩ := bd_some hb2
        have E11_0 : ∀ (o_ : (Nat → Nat → Int)), o11 = o_ → ∀ (H : Heap) (locs : List Loc) (ls : Array Slot), lv_has ls 6 [(0, .ref a_t), (1, .ref a_p1), (2, .int (z4 v15_2))] → va_P D vwCl ([(a_t, .inr (2, [.ref a_t_plan, .int (z4 t_solved), .int (z4 (min 64 p1_states)), .ref a_t_lines, .ref a_t_columns, .ref a_t_numbers, .int (z4 t_known)])), (a_p1, .inr (1, [.ref a_p1_plan, .int (z4 p1_pasts), .ref a_p1_leads, .ref a_p1_part, .ref a_p1_finer, .ref a_p1_keys, .ref a_p1_stateOfPart, .ref a_p1_pastOfState, .int (z4 p1_states), .ref a_p1_steps, .ref a_p1_away])), (a_t_lines, .inl (E 4, 64, .inr (.inr (.inr (.inr (OG t_lines_g)))))), (a_p1_steps, .inl (E 0, 320, .inl (A4 p1_steps))), (a_t_plan, .inr (4, [.int (z4 t_plan_rules), .ref a_t_plan_least, .ref a_t_plan_of, .ref a_t_plan_set, .ref a_t_plan_chances, .int (z4 t_plan_slack), .int (z4 t_plan_limit)])), (a_t_plan_chances, .inl (E 0, 5, .inl (A4 t_plan_chances)))] ++ va_pl L_ (GP E o_)) H → va_D A ([(a_t, .inr (2, [.ref a_t_plan, .int (z4 t_solved), .int (z4 (min 64 p1_states)), .ref a_t_lines, .ref a_t_columns, .ref a_t_numbers, .int (z4 t_known)])), (a_p1, .inr (1, [.ref a_p1_plan, .int (z4 p1_pasts), .ref a_p1_leads, .ref a_p1_part, .ref a_p1_finer, .ref a_p1_keys, .ref a_p1_stateOfPart, .ref a_p1_pastOfState, .int (z4 p1_states), .ref a_p1_steps, .ref a_p1_away])), (a_t_lines, .inl (E 4, 64, .inr (.inr (.inr (.inr (OG t_lines_g)))))), (a_p1_steps, .inl (E 0, 320, .inl (A4 p1_steps))), (a_t_plan, .inr (4, [.int (z4 t_plan_rules), .ref a_t_plan_least, .ref a_t_plan_of, .ref a_t_plan_set, .ref a_t_plan_chances, .int (z4 t_plan_slack), .int (z4 t_plan_limit)])), (a_t_plan_chances, .inl (E 0, 5, .inl (A4 t_plan_chances)))] ++ va_pl L_ (GP E o_)) → va_S A s.heap H locs → W p l e rm_X2_setUp s m args below meth c H locs 0 0 Q (F0 m 108 ls []) := by
          intro o_ ho_ H locs ls hl hP hD hS
          subst ho_
          refine m_iinc X 2 [(2, .int (z4 (v15_2 + 1))), (0, .ref a_t), (1, .ref a_p1)] dX2_setUp_108 hl rfl (by decide) rfl (fun ls hl => ?_)
          refine lv_goto (tgt := 15) hx hb dX2_setUp_111 (by decide) ?_
          obtain rfl := Option.some.inj hr11
          exact ih2 _ _ _ _ _ (lv_sub hl [1, 2, 0] rfl) hP hD hS hq2
        have L11 : ∀ (k_ : Nat) (v51_4 : Int) (t_lines_pr_l51 : Nat → Nat → Int), ∀ (H : Heap) (locs : List Loc) (ls : Array Slot), lv_has ls 6 [(0, .ref a_t), (1, .ref a_p1), (2, .int (z4 v15_2)), (3, .ref (t_lines_g (v15_2).toNat)), (4, .int (z4 v51_4))] → va_P D vwCl ([(a_t, .inr (2, [.ref a_t_plan, .int (z4 t_solved), .int (z4 (min 64 p1_states)), .ref a_t_lines, .ref a_t_columns, .ref a_t_numbers, .int (z4 t_known)])), (a_p1, .inr (1, [.ref a_p1_plan, .int (z4 p1_pasts), .ref a_p1_leads, .ref a_p1_part, .ref a_p1_finer, .ref a_p1_keys, .ref a_p1_stateOfPart, .ref a_p1_pastOfState, .int (z4 p1_states), .ref a_p1_steps, .ref a_p1_away])), (a_t_lines, .inl (E 4, 64, .inr (.inr (.inr (.inr (OG t_lines_g)))))), (a_p1_steps, .inl (E 0, 320, .inl (A4 p1_steps))), (a_t_plan, .inr (4, [.int (z4 t_plan_rules), .ref a_t_plan_least, .ref a_t_plan_of, .ref a_t_plan_set, .ref a_t_plan_chances, .int (z4 t_plan_slack), .int (z4 t_plan_limit)])), (a_t_plan_chances, .inl (E 0, 5, .inl (A4 t_plan_chances)))] ++ va_pl L_ (GP E t_lines_pr_l51)) H → va_D A ([(a_t, .inr (2, [.ref a_t_plan, .int (z4 t_solved), .int (z4 (min 64 p1_states)), .ref a_t_lines, .ref a_t_columns, .ref a_t_numbers, .int (z4 t_known)])), (a_p1, .inr (1, [.ref a_p1_plan, .int (z4 p1_pasts), .ref a_p1_leads, .ref a_p1_part, .ref a_p1_finer, .ref a_p1_keys, .ref a_p1_stateOfPart, .ref a_p1_pastOfState, .int (z4 p1_states), .ref a_p1_steps, .ref a_p1_away])), (a_t_lines, .inl (E 4, 64, .inr (.inr (.inr (.inr (OG t_lines_g)))))), (a_p1_steps, .inl (E 0, 320, .inl (A4 p1_steps))), (a_t_plan, .inr (4, [.int (z4 t_plan_rules), .ref a_t_plan_least, .ref a_t_plan_of, .ref a_t_plan_set, .ref a_t_plan_chances, .int (z4 t_plan_slack), .int (z4 t_plan_limit)])), (a_t_plan_chances, .inl (E 0, 5, .inl (A4 t_plan_chances)))] ++ va_pl L_ (GP E t_lines_pr_l51)) → va_S A s.heap H locs → lp_ (fun (q : Int × (Nat → Nat → Int)) => F_X2_setUp_L51 n v15_2 p1_steps t_lines_g L_ t_plan_chances q.1 q.2) k_ (v51_4, t_lines_pr_l51) = some o11 → W p l e rm_X2_setUp s m args below meth c H locs 0 0 Q (F0 m 51 ls []) := by
          intro k_
          induction k_ with
          | zero =>
            intro v51_4 t_lines_pr_l51 H locs ls hl hP hD hS hq_; exact (lp_zero hq_).elim
          | succ k_ ih11 =>
            intro v51_4 t_lines_pr_l51 H locs ls hl hP hD hS hq_
            obtain ⟨t_11, hb11, hq11⟩ := lp_some hq_
            replace hb11 : F_X2_setUp_L51 n v15_2 p1_steps t_lines_g L_ t_plan_chances v51_4 t_lines_pr_l51 = some t_11 := hb11
            unfold F_X2_setUp_L51 at hb11
            refine lv_iload hx hb dX2_setUp_51 (lv_at hl 4 rfl) ?_
            refine m_iconst X dX2_setUp_53 ?_
            obtain ⟨h12, hb11⟩ := ck_some hb11
            refine m_icmp_ge X ⟨h12, ⟨by decide, by decide⟩⟩ dX2_setUp_54 (tgt := 108) (by decide) (fun (hc_ : ¬ (v51_4 < 5)) => ?_) (fun (hc_ : v51_4 < 5) => ?_)
            · rw [if_neg hc_] at hb11
              obtain rfl := Option.some.inj hb11
              exact E11_0 _ (Option.some.inj hq11).symm _ _ _ (lv_sub hl [0, 1, 2] rfl) hP hD hS
            · rw [if_pos hc_] at hb11
              refine lv_aload_n hx hb dX2_setUp_57 rfl (lv_at hl 1 rfl) ?_
              refine m_get X hK hP cl_X1 iT_X1 9 (by decide) fl_X2_80 1 rfl rfl dX2_setUp_58 ?_
              refine lv_iload_n hx hb dX2_setUp_61 rfl (lv_at hl 2 rfl) ?_
              refine m_iconst X dX2_setUp_62 ?_
              refine m_imul X dX2_setUp_63 ?_
              refine lv_iload hx hb dX2_setUp_64 (lv_at hl 4 rfl) ?_
              refine m_iadd X dX2_setUp_66 ?_
              obtain ⟨h13, hb11⟩ := ck_some hb11
              refine m_iald X hK hP 3 rfl (by decide) h13 dX2_setUp_67 ?_
              refine lv_istore (lv' := [(5, .int (z4 (p1_steps ((v15_2 * 5) + v51_4).toNat))), (0, .ref a_t), (1, .ref a_p1), (2, .int (z4 v15_2)), (3, .ref (t_lines_g (v15_2).toNat)), (4, .int (z4 v51_4))]) hx hb dX2_setUp_68 hl (by decide) rfl (fun ls hl => ?_)
              refine lv_iload hx hb dX2_setUp_70 (lv_at hl 0 rfl) ?_
              obtain ⟨o14, ho, hb11⟩ := bd_some hb11
              refine m_cSRN X hK (k_X11_isPast n (p1_steps ((v15_2 * 5) + v51_4).toNat) o14 ho) (hP.sub (ws' := []) [] rfl) (NK.X2_83 hK.2.2.2) ls_X2_83 co_X11_isPast dy_X11_isPast rfl rfl ⟨Nat.le_of_ble_eq_true rfl, Nat.le_of_ble_eq_true rfl⟩ hl.1 rfl (Nat.le_of_ble_eq_true rfl) dX2_setUp_72 (Nat.zero_le _) (Nat.zero_le _) ?_
              obtain ⟨o15, hj15, hr15⟩ := bd_some hb11
              have J15 : ∀ (o_ : (Nat → Nat → Int)), o15 = o_ → ∀ (H : Heap) (locs : List Loc) (ls : Array Slot), lv_has ls 6 [(0, .ref a_t), (1, .ref a_p1), (2, .int (z4 v15_2)), (3, .ref (t_lines_g (v15_2).toNat)), (4, .int (z4 v51_4))] → va_P D vwCl ([(a_t, .inr (2, [.ref a_t_plan, .int (z4 t_solved), .int (z4 (min 64 p1_states)), .ref a_t_lines, .ref a_t_columns, .ref a_t_numbers, .int (z4 t_known)])), (a_p1, .inr (1, [.ref a_p1_plan, .int (z4 p1_pasts), .ref a_p1_leads, .ref a_p1_part, .ref a_p1_finer, .ref a_p1_keys, .ref a_p1_stateOfPart, .ref a_p1_pastOfState, .int (z4 p1_states), .ref a_p1_steps, .ref a_p1_away])), (a_t_lines, .inl (E 4, 64, .inr (.inr (.inr (.inr (OG t_lines_g)))))), (a_p1_steps, .inl (E 0, 320, .inl (A4 p1_steps))), (a_t_plan, .inr (4, [.int (z4 t_plan_rules), .ref a_t_plan_least, .ref a_t_plan_of, .ref a_t_plan_set, .ref a_t_plan_chances, .int (z4 t_plan_slack), .int (z4 t_plan_limit)])), (a_t_plan_chances, .inl (E 0, 5, .inl (A4 t_plan_chances)))] ++ va_pl L_ (GP E o_)) H → va_D A ([(a_t, .inr (2, [.ref a_t_plan, .int (z4 t_solved), .int (z4 (min 64 p1_states)), .ref a_t_lines, .ref a_t_columns, .ref a_t_numbers, .int (z4 t_known)])), (a_p1, .inr (1, [.ref a_p1_plan, .int (z4 p1_pasts), .ref a_p1_leads, .ref a_p1_part, .ref a_p1_finer, .ref a_p1_keys, .ref a_p1_stateOfPart, .ref a_p1_pastOfState, .int (z4 p1_states), .ref a_p1_steps, .ref a_p1_away])), (a_t_lines, .inl (E 4, 64, .inr (.inr (.inr (.inr (OG t_lines_g)))))), (a_p1_steps, .inl (E 0, 320, .inl (A4 p1_steps))), (a_t_plan, .inr (4, [.int (z4 t_plan_rules), .ref a_t_plan_least, .ref a_t_plan_of, .ref a_t_plan_set, .ref a_t_plan_chances, .int (z4 t_plan_slack), .int (z4 t_plan_limit)])), (a_t_plan_chances, .inl (E 0, 5, .inl (A4 t_plan_chances)))] ++ va_pl L_ (GP E o_)) → va_S A s.heap H locs → W p l e rm_X2_setUp s m args below meth c H locs 0 0 Q (F0 m 102 ls []) := by
                intro o_ ho_ H locs ls hl hP hD hS
                subst ho_
                refine m_iinc X 4 [(4, .int (z4 (v51_4 + 1))), (0, .ref a_t), (1, .ref a_p1), (2, .int (z4 v15_2)), (3, .ref (t_lines_g (v15_2).toNat))] dX2_setUp_102 hl rfl (by decide) rfl (fun ls hl => ?_)
                refine lv_goto (tgt := 51) hx hb dX2_setUp_105 (by decide) ?_
                obtain rfl := Option.some.inj hr15
                exact ih11 _ _ _ _ _ (lv_sub hl [1, 2, 3, 4, 0] rfl) hP hD hS hq11
              obtain ⟨h16, hj15⟩ := ck_some hj15
              refine m_if_eq X h16 dX2_setUp_75 (tgt := 102) (by decide) (fun (hc_ : o14 = 0) => ?_) (fun (hc_ : ¬ (o14 = 0)) => ?_)
              · rw [if_pos hc_] at hj15
                exact J15 _ (Option.some.inj hj15).symm _ _ _ (lv_sub hl [1, 2, 3, 4, 5] rfl) hP hD hS
              · rw [if_neg hc_] at hj15
                refine lv_aload_n hx hb dX2_setUp_78 rfl (lv_at hl 4 rfl) ?_
                refine lv_iload hx hb dX2_setUp_79 (lv_at hl 0 rfl) ?_
                refine lv_aload_n hx hb dX2_setUp_81 rfl (lv_at hl 4 rfl) ?_
                refine lv_iload hx hb dX2_setUp_82 (lv_at hl 0 rfl) ?_
                obtain ⟨h17, hj15⟩ := ck_some hj15
                obtain ⟨h18, hj15⟩ := ck_some hj15
                refine m_raldG X hK hP h17 h18 dX2_setUp_84 ?_
                refine lv_aload_n hx hb dX2_setUp_85 rfl (lv_at hl 1 rfl) ?_
                refine m_get X hK hP cl_X2 iT_X2 0 (by decide) fl_X2_12 0 rfl rfl dX2_setUp_86 ?_
                refine m_get X hK hP cl_X4 iT_X4 4 (by decide) fl_X2_87 4 rfl rfl dX2_setUp_89 ?_
                refine lv_iload hx hb dX2_setUp_92 (lv_at hl 5 rfl) ?_
                obtain ⟨h19, hj15⟩ := ck_some hj15
                refine m_iald X hK hP 5 rfl (by decide) h19 dX2_setUp_94 ?_
                refine m_isub X dX2_setUp_95 ?_
                refine m_ldc X 1000003 co_X2_90 dX2_setUp_96 ?_
                obtain ⟨o20, ho, hj15⟩ := bd_some hj15
                refine m_cSR X hK (k_J9_floorMod_7cf53 n ((t_lines_pr_l51 (t_lines_g (v15_2).toNat) (p1_steps ((v15_2 * 5) + v51_4).toNat).toNat) - (t_plan_chances (v51_4).toNat)) 1000003 o20 ho) (hP.sub (ws' := []) [] rfl) lk_X2_91 co_J9_floorMod_7cf53 dy_J9_floorMod_7cf53 rfl rfl ⟨Nat.le_of_ble_eq_true rfl, Nat.le_of_ble_eq_true rfl⟩ hl.1 rfl (Nat.le_of_ble_eq_true rfl) dX2_setUp_98 (Nat.zero_le _) (Nat.zero_le _) ?_
                obtain ⟨h21, hj15⟩ := ck_some hj15
                obtain ⟨h22, hj15⟩ := ck_some hj15
                refine m_rastG X hK hP hD hS h21 h22 dX2_setUp_101 (fun H locs hP hD hS => ?_)
                exact J15 _ (Option.some.inj hj15).symm _ _ _ (lv_sub hl [1, 2, 3, 4, 5] rfl) hP hD hS
        exact L11 n _ _ _ _ _ (lv_sub hl [2, 3, 4, 1, 0] rfl) hP hD hS hj11
  exact L2 n _ _ _ _ _ (lv_sub hl [1, 2, 0] rfl) hP hD hS hj2
def F_X2_fillIn_L26 (n : Nat) (v2_1 : Int) (t_lines_g : Nat → Nat) (L_ : List Nat) (t_lines_pr : Nat → Nat → Int) (t_numbers_l2 : Nat → Int) (v26_2 : Int) (v26_4 : Int) : Option ((Int × Int) ⊕ (Int)) :=
  ck (r4 v26_4 ∧ r4 v2_1) <|
  if v26_4 < v2_1 then
    ck (ix_ v2_1 64) <|
    ck ((t_lines_g (v2_1).toNat) ∈ L_) <|
    ck (ix_ v26_4 65) <|
    ck (r4 (t_lines_pr (t_lines_g (v2_1).toNat) (v26_4).toNat)) <|
    Option.bind (α := Int) (
      ck (r8 (t_lines_pr (t_lines_g (v2_1).toNat) (v26_4).toNat)) <|
      if t_lines_pr (t_lines_g (v2_1).toNat) (v26_4).toNat = 0 then
        some v26_2
      else
        ck (ix_ v26_4 64) <|
        ck (r4 (t_numbers_l2 (v26_4).toNat)) <|
        ck (d8_ (v26_2 + ((1000003 - (t_lines_pr (t_lines_g (v2_1).toNat) (v26_4).toNat)) * (t_numbers_l2 (v26_4).toNat))) 1000003) <|
        some ((v26_2 + ((1000003 - (t_lines_pr (t_lines_g (v2_1).toNat) (v26_4).toNat)) * (t_numbers_l2 (v26_4).toNat))) % 1000003)) fun o13 =>
    some (.inl (o13, v26_4 + 1))
  else
    some (.inr v26_2)
def F_X2_fillIn_L2 (n : Nat) (t_size : Int) (t_lines_g : Nat → Nat) (L_ : List Nat) (t_lines_pr : Nat → Nat → Int) (v2_1 : Int) (t_numbers_l2 : Nat → Int) : Option ((Int × (Nat → Int)) ⊕ ((Nat → Int))) :=
  ck (r4 v2_1 ∧ r4 t_size) <|
  if v2_1 < t_size then
    ck (ix_ v2_1 64) <|
    ck ((t_lines_g (v2_1).toNat) ∈ L_) <|
    ck (ix_ t_size 65) <|
    ck (r4 (t_lines_pr (t_lines_g (v2_1).toNat) (t_size).toNat)) <|
    (lp_ (fun (q : Int × Int) => F_X2_fillIn_L26 n v2_1 t_lines_g L_ t_lines_pr t_numbers_l2 q.1 q.2) n (t_lines_pr (t_lines_g (v2_1).toNat) (t_size).toNat, 0)).bind fun o7 =>
    ck (ix_ v2_1 64) <|
    some (.inl (v2_1 + 1, up_ t_numbers_l2 (v2_1).toNat o7))
  else
    some (.inr t_numbers_l2)
def F_X2_fillIn (n : Nat) (L_ : List Nat)  (t_size : Int) (t_lines_g : Nat → Nat) (t_lines_pr : Nat → Nat → Int) (t_numbers : Nat → Int)  : Option ((Nat → Int)) :=
  (lp_ (fun (q : Int × (Nat → Int)) => F_X2_fillIn_L2 n t_size t_lines_g L_ t_lines_pr q.1 q.2) n (0, t_numbers)).bind fun o1 =>
  some o1
def rm_X2_fillIn : Room := { frames := 0, cells := 0, slots := 0, locals := 0 }
set_option maxHeartbeats 4000000 in
set_option maxRecDepth 100000 in
theorem k_X2_fillIn {l : Launch} {D : va_G} {E : Nat → ClassId} (n : Nat) (a_t a_t_plan a_t_lines a_t_columns a_t_numbers : Nat) (L_ : List Nat) (t_solved : Int) (t_size : Int) (t_known : Int) (t_lines_g : Nat → Nat) (t_lines_pr : Nat → Nat → Int) (t_numbers : Nat → Int) (res : (Nat → Int)) (hf : F_X2_fillIn n L_ t_size t_lines_g t_lines_pr t_numbers = some res) : MW l yX2_fillIn (.code yX2_fillIn cX2_fillIn 7 none) rm_X2_fillIn D E [.ref a_t] ([(a_t, .inr (2, [.ref a_t_plan, .int (z4 t_solved), .int (z4 t_size), .ref a_t_lines, .ref a_t_columns, .ref a_t_numbers, .int (z4 t_known)])), (a_t_lines, .inl (E 4, 64, .inr (.inr (.inr (.inr (OG t_lines_g)))))), (a_t_numbers, .inl (E 0, 64, .inl (A4 t_numbers)))] ++ va_pl L_ (GP E t_lines_pr)) none ([(a_t, .inr (2, [.ref a_t_plan, .int (z4 t_solved), .int (z4 t_size), .ref a_t_lines, .ref a_t_columns, .ref a_t_numbers, .int (z4 t_known)])), (a_t_lines, .inl (E 4, 64, .inr (.inr (.inr (.inr (OG t_lines_g)))))), (a_t_numbers, .inl (E 0, 64, .inl (A4 res)))] ++ va_pl L_ (GP E t_lines_pr)) := by
  refine MWv (by decide) (Nat.le_of_ble_eq_true rfl) ?_
  intro p e s m args below meth c A Q X hK hP hD hA ret ls hl
  have hS : va_S A s.heap s.heap [] := va_S.rf
  have hx := X.1
  have hb := X.2.1
  have hl : lv_has ls 7 [(0, .ref a_t)] := hl
  unfold F_X2_fillIn at hf
  refine m_iconst X dX2_fillIn_0 ?_
  refine lv_istore_n (lv' := [(1, .int (z4 0)), (0, .ref a_t)]) hx hb dX2_fillIn_1 rfl hl (by decide) rfl (fun ls hl => ?_)
  obtain ⟨o1, hj1, hr1⟩ := bd_some hf
  have E1_0 : ∀ (o_ : (Nat → Int)), o1 = o_ → ∀ (H : Heap) (locs : List Loc) (ls : Array Slot), lv_has ls 7 [] → va_P D vwCl ([(a_t, .inr (2, [.ref a_t_plan, .int (z4 t_solved), .int (z4 t_size), .ref a_t_lines, .ref a_t_columns, .ref a_t_numbers, .int (z4 t_known)])), (a_t_lines, .inl (E 4, 64, .inr (.inr (.inr (.inr (OG t_lines_g)))))), (a_t_numbers, .inl (E 0, 64, .inl (A4 o_)))] ++ va_pl L_ (GP E t_lines_pr)) H → va_D A ([(a_t, .inr (2, [.ref a_t_plan, .int (z4 t_solved), .int (z4 t_size), .ref a_t_lines, .ref a_t_columns, .ref a_t_numbers, .int (z4 t_known)])), (a_t_lines, .inl (E 4, 64, .inr (.inr (.inr (.inr (OG t_lines_g)))))), (a_t_numbers, .inl (E 0, 64, .inl (A4 o_)))] ++ va_pl L_ (GP E t_lines_pr)) → va_S A s.heap H locs → W p l e rm_X2_fillIn s m args below meth c H locs 0 0 Q (F0 m 93 ls []) := by
    intro o_ ho_ H locs ls hl hP hD hS
    subst ho_
    obtain rfl := Option.some.inj hr1
    exact ret _ _ _ _ hP hD hS dX2_fillIn_93
  have L1 : ∀ (k_ : Nat) (v2_1 : Int) (t_numbers_l2 : Nat → Int), ∀ (H : Heap) (locs : List Loc) (ls : Array Slot), lv_has ls 7 [(0, .ref a_t), (1, .int (z4 v2_1))] → va_P D vwCl ([(a_t, .inr (2, [.ref a_t_plan, .int (z4 t_solved), .int (z4 t_size), .ref a_t_lines, .ref a_t_columns, .ref a_t_numbers, .int (z4 t_known)])), (a_t_lines, .inl (E 4, 64, .inr (.inr (.inr (.inr (OG t_lines_g)))))), (a_t_numbers, .inl (E 0, 64, .inl (A4 t_numbers_l2)))] ++ va_pl L_ (GP E t_lines_pr)) H → va_D A ([(a_t, .inr (2, [.ref a_t_plan, .int (z4 t_solved), .int (z4 t_size), .ref a_t_lines, .ref a_t_columns, .ref a_t_numbers, .int (z4 t_known)])), (a_t_lines, .inl (E 4, 64, .inr (.inr (.inr (.inr (OG t_lines_g)))))), (a_t_numbers, .inl (E 0, 64, .inl (A4 t_numbers_l2)))] ++ va_pl L_ (GP E t_lines_pr)) → va_S A s.heap H locs → lp_ (fun (q : Int × (Nat → Int)) => F_X2_fillIn_L2 n t_size t_lines_g L_ t_lines_pr q.1 q.2) k_ (v2_1, t_numbers_l2) = some o1 → W p l e rm_X2_fillIn s m args below meth c H locs 0 0 Q (F0 m 2 ls []) := by
    intro k_
    induction k_ with
    | zero =>
      intro v2_1 t_numbers_l2 H locs ls hl hP hD hS hq_; exact (lp_zero hq_).elim
    | succ k_ ih1 =>
      intro v2_1 t_numbers_l2 H locs ls hl hP hD hS hq_
      obtain ⟨t_1, hb1, hq1⟩ := lp_some hq_
      replace hb1 : F_X2_fillIn_L2 n t_size t_lines_g L_ t_lines_pr v2_1 t_numbers_l2 = some t_1 := hb1
      unfold F_X2_fillIn_L2 at hb1
      refine lv_iload_n hx hb dX2_fillIn_2 rfl (lv_at hl 1 rfl) ?_
      refine lv_aload_n hx hb dX2_fillIn_3 rfl (lv_at hl 0 rfl) ?_
      refine m_get X hK hP cl_X2 iT_X2 2 (by decide) fl_X2_71 0 rfl rfl dX2_fillIn_4 ?_
      obtain ⟨h2, hb1⟩ := ck_some hb1
      refine m_icmp_ge X h2 dX2_fillIn_7 (tgt := 93) (by decide) (fun (hc_ : ¬ (v2_1 < t_size)) => ?_) (fun (hc_ : v2_1 < t_size) => ?_)
      · rw [if_neg hc_] at hb1
        obtain rfl := Option.some.inj hb1
        exact E1_0 _ (Option.some.inj hq1).symm _ _ _ (lv_sub hl [] rfl) hP hD hS
      · rw [if_pos hc_] at hb1
        refine lv_aload_n hx hb dX2_fillIn_10 rfl (lv_at hl 0 rfl) ?_
        refine m_get X hK hP cl_X2 iT_X2 3 (by decide) fl_X2_24 0 rfl rfl dX2_fillIn_11 ?_
        refine lv_iload_n hx hb dX2_fillIn_14 rfl (lv_at hl 1 rfl) ?_
        obtain ⟨h3, hb1⟩ := ck_some hb1
        refine m_aaldG X hK hP 1 rfl (by decide) h3 dX2_fillIn_15 ?_
        refine lv_aload_n hx hb dX2_fillIn_16 rfl (lv_at hl 0 rfl) ?_
        refine m_get X hK hP cl_X2 iT_X2 2 (by decide) fl_X2_71 0 rfl rfl dX2_fillIn_17 ?_
        obtain ⟨h4, hb1⟩ := ck_some hb1
        obtain ⟨h5, hb1⟩ := ck_some hb1
        refine m_raldG X hK hP h4 h5 dX2_fillIn_20 ?_
        obtain ⟨h6, hb1⟩ := ck_some hb1
        refine m_i2l X h6 dX2_fillIn_21 ?_
        refine lv_lstore_n (lv' := [(2, .long (z8 (t_lines_pr (t_lines_g (v2_1).toNat) (t_size).toNat))), (0, .ref a_t), (1, .int (z4 v2_1))]) hx hb dX2_fillIn_22 rfl hl (by decide) rfl (fun ls hl => ?_)
        refine m_iconst X dX2_fillIn_23 ?_
        refine lv_istore (lv' := [(4, .int (z4 0)), (2, .long (z8 (t_lines_pr (t_lines_g (v2_1).toNat) (t_size).toNat))), (0, .ref a_t), (1, .int (z4 v2_1))]) hx hb dX2_fillIn_24 hl (by decide) rfl (fun ls hl => ?_)
        obtain ⟨o7, hj7, hr7⟩ := bd_some hb1
        have E7_0 : ∀ (o_ : Int), o7 = o_ → ∀ (H : Heap) (locs : List Loc) (ls : Array Slot), lv_has ls 7 [(0, .ref a_t), (1, .int (z4 v2_1)), (2, .long (z8 o_))] → va_P D vwCl ([(a_t, .inr (2, [.ref a_t_plan, .int (z4 t_solved), .int (z4 t_size), .ref a_t_lines, .ref a_t_columns, .ref a_t_numbers, .int (z4 t_known)])), (a_t_lines, .inl (E 4, 64, .inr (.inr (.inr (.inr (OG t_lines_g)))))), (a_t_numbers, .inl (E 0, 64, .inl (A4 t_numbers_l2)))] ++ va_pl L_ (GP E t_lines_pr)) H → va_D A ([(a_t, .inr (2, [.ref a_t_plan, .int (z4 t_solved), .int (z4 t_size), .ref a_t_lines, .ref a_t_columns, .ref a_t_numbers, .int (z4 t_known)])), (a_t_lines, .inl (E 4, 64, .inr (.inr (.inr (.inr (OG t_lines_g)))))), (a_t_numbers, .inl (E 0, 64, .inl (A4 t_numbers_l2)))] ++ va_pl L_ (GP E t_lines_pr)) → va_S A s.heap H locs → W p l e rm_X2_fillIn s m args below meth c H locs 0 0 Q (F0 m 79 ls []) := by
          intro o_ ho_ H locs ls hl hP hD hS
          subst ho_
          refine lv_aload_n hx hb dX2_fillIn_79 rfl (lv_at hl 0 rfl) ?_
          refine m_get X hK hP cl_X2 iT_X2 5 (by decide) fl_X2_31 0 rfl rfl dX2_fillIn_80 ?_
          refine lv_iload_n hx hb dX2_fillIn_83 rfl (lv_at hl 1 rfl) ?_
          refine lv_lload_n hx hb dX2_fillIn_84 rfl (lv_at hl 2 rfl) ?_
          refine m_l2i X dX2_fillIn_85 ?_
          obtain ⟨h18, hr7⟩ := ck_some hr7
          refine m_iast X hK hP hD hS 2 rfl (by decide) h18 ([(a_t, .inr (2, [.ref a_t_plan, .int (z4 t_solved), .int (z4 t_size), .ref a_t_lines, .ref a_t_columns, .ref a_t_numbers, .int (z4 t_known)])), (a_t_lines, .inl (E 4, 64, .inr (.inr (.inr (.inr (OG t_lines_g)))))), (a_t_numbers, .inl (E 0, 64, .inl (A4 (up_ t_numbers_l2 (v2_1).toNat o7))))] ++ va_pl L_ (GP E t_lines_pr)) rfl dX2_fillIn_86 (fun H locs hP hD hS => ?_)
          refine m_iinc X 1 [(1, .int (z4 (v2_1 + 1))), (0, .ref a_t), (2, .long (z8 o7))] dX2_fillIn_87 hl rfl (by decide) rfl (fun ls hl => ?_)
          refine lv_goto (tgt := 2) hx hb dX2_fillIn_90 (by decide) ?_
          obtain rfl := Option.some.inj hr7
          exact ih1 _ _ _ _ _ (lv_sub hl [1, 0] rfl) hP hD hS hq1
        have L7 : ∀ (k_ : Nat) (v26_2 : Int) (v26_4 : Int), ∀ (H : Heap) (locs : List Loc) (ls : Array Slot), lv_has ls 7 [(0, .ref a_t), (1, .int (z4 v2_1)), (2, .long (z8 v26_2)), (4, .int (z4 v26_4))] → va_P D vwCl ([(a_t, .inr (2, [.ref a_t_plan, .int (z4 t_solved), .int (z4 t_size), .ref a_t_lines, .ref a_t_columns, .ref a_t_numbers, .int (z4 t_known)])), (a_t_lines, .inl (E 4, 64, .inr (.inr (.inr (.inr (OG t_lines_g)))))), (a_t_numbers, .inl (E 0, 64, .inl (A4 t_numbers_l2)))] ++ va_pl L_ (GP E t_lines_pr)) H → va_D A ([(a_t, .inr (2, [.ref a_t_plan, .int (z4 t_solved), .int (z4 t_size), .ref a_t_lines, .ref a_t_columns, .ref a_t_numbers, .int (z4 t_known)])), (a_t_lines, .inl (E 4, 64, .inr (.inr (.inr (.inr (OG t_lines_g)))))), (a_t_numbers, .inl (E 0, 64, .inl (A4 t_numbers_l2)))] ++ va_pl L_ (GP E t_lines_pr)) → va_S A s.heap H locs → lp_ (fun (q : Int × Int) => F_X2_fillIn_L26 n v2_1 t_lines_g L_ t_lines_pr t_numbers_l2 q.1 q.2) k_ (v26_2, v26_4) = some o7 → W p l e rm_X2_fillIn s m args below meth c H locs 0 0 Q (F0 m 26 ls []) := by
          intro k_
          induction k_ with
          | zero =>
            intro v26_2 v26_4 H locs ls hl hP hD hS hq_; exact (lp_zero hq_).elim
          | succ k_ ih7 =>
            intro v26_2 v26_4 H locs ls hl hP hD hS hq_
            obtain ⟨t_7, hb7, hq7⟩ := lp_some hq_
            replace hb7 : F_X2_fillIn_L26 n v2_1 t_lines_g L_ t_lines_pr t_numbers_l2 v26_2 v26_4 = some t_7 := hb7
            unfold F_X2_fillIn_L26 at hb7
            refine lv_iload hx hb dX2_fillIn_26 (lv_at hl 3 rfl) ?_
            refine lv_iload_n hx hb dX2_fillIn_28 rfl (lv_at hl 1 rfl) ?_
            obtain ⟨h8, hb7⟩ := ck_some hb7
            refine m_icmp_ge X h8 dX2_fillIn_29 (tgt := 79) (by decide) (fun (hc_ : ¬ (v26_4 < v2_1)) => ?_) (fun (hc_ : v26_4 < v2_1) => ?_)
            · rw [if_neg hc_] at hb7
              obtain rfl := Option.some.inj hb7
              exact E7_0 _ (Option.some.inj hq7).symm _ _ _ (lv_sub hl [0, 1, 2] rfl) hP hD hS
            · rw [if_pos hc_] at hb7
              refine lv_aload_n hx hb dX2_fillIn_32 rfl (lv_at hl 0 rfl) ?_
              refine m_get X hK hP cl_X2 iT_X2 3 (by decide) fl_X2_24 0 rfl rfl dX2_fillIn_33 ?_
              refine lv_iload_n hx hb dX2_fillIn_36 rfl (lv_at hl 1 rfl) ?_
              obtain ⟨h9, hb7⟩ := ck_some hb7
              refine m_aaldG X hK hP 1 rfl (by decide) h9 dX2_fillIn_37 ?_
              refine lv_iload hx hb dX2_fillIn_38 (lv_at hl 3 rfl) ?_
              obtain ⟨h10, hb7⟩ := ck_some hb7
              obtain ⟨h11, hb7⟩ := ck_some hb7
              refine m_raldG X hK hP h10 h11 dX2_fillIn_40 ?_
              obtain ⟨h12, hb7⟩ := ck_some hb7
              refine m_i2l X h12 dX2_fillIn_41 ?_
              refine lv_lstore (lv' := [(5, .long (z8 (t_lines_pr (t_lines_g (v2_1).toNat) (v26_4).toNat))), (0, .ref a_t), (1, .int (z4 v2_1)), (2, .long (z8 v26_2)), (4, .int (z4 v26_4))]) hx hb dX2_fillIn_42 hl (by decide) rfl (fun ls hl => ?_)
              refine lv_lload hx hb dX2_fillIn_44 (lv_at hl 0 rfl) ?_
              refine m_lconst X 0 rfl dX2_fillIn_46 ?_
              obtain ⟨o13, hj13, hr13⟩ := bd_some hb7
              have J13 : ∀ (o_ : Int), o13 = o_ → ∀ (H : Heap) (locs : List Loc) (ls : Array Slot), lv_has ls 7 [(0, .ref a_t), (1, .int (z4 v2_1)), (2, .long (z8 o_)), (4, .int (z4 v26_4))] → va_P D vwCl ([(a_t, .inr (2, [.ref a_t_plan, .int (z4 t_solved), .int (z4 t_size), .ref a_t_lines, .ref a_t_columns, .ref a_t_numbers, .int (z4 t_known)])), (a_t_lines, .inl (E 4, 64, .inr (.inr (.inr (.inr (OG t_lines_g)))))), (a_t_numbers, .inl (E 0, 64, .inl (A4 t_numbers_l2)))] ++ va_pl L_ (GP E t_lines_pr)) H → va_D A ([(a_t, .inr (2, [.ref a_t_plan, .int (z4 t_solved), .int (z4 t_size), .ref a_t_lines, .ref a_t_columns, .ref a_t_numbers, .int (z4 t_known)])), (a_t_lines, .inl (E 4, 64, .inr (.inr (.inr (.inr (OG t_lines_g)))))), (a_t_numbers, .inl (E 0, 64, .inl (A4 t_numbers_l2)))] ++ va_pl L_ (GP E t_lines_pr)) → va_S A s.heap H locs → W p l e rm_X2_fillIn s m args below meth c H locs 0 0 Q (F0 m 73 ls []) := by
                intro o_ ho_ H locs ls hl hP hD hS
                subst ho_
                refine m_iinc X 3 [(4, .int (z4 (v26_4 + 1))), (0, .ref a_t), (1, .int (z4 v2_1)), (2, .long (z8 o13))] dX2_fillIn_73 hl rfl (by decide) rfl (fun ls hl => ?_)
                refine lv_goto (tgt := 26) hx hb dX2_fillIn_76 (by decide) ?_
                obtain rfl := Option.some.inj hr13
                exact ih7 _ _ _ _ _ (lv_sub hl [1, 2, 3, 0] rfl) hP hD hS hq7
              obtain ⟨h14, hj13⟩ := ck_some hj13
              refine m_lcmp_eq X ⟨h14, ⟨by decide, by decide⟩⟩ dX2_fillIn_47 dX2_fillIn_48 (tgt := 73) (by decide) (fun (hc_ : t_lines_pr (t_lines_g (v2_1).toNat) (v26_4).toNat = 0) => ?_) (fun (hc_ : ¬ (t_lines_pr (t_lines_g (v2_1).toNat) (v26_4).toNat = 0)) => ?_)
              · rw [if_pos hc_] at hj13
                exact J13 _ (Option.some.inj hj13).symm _ _ _ (lv_sub hl [1, 2, 3, 4] rfl) hP hD hS
              · rw [if_neg hc_] at hj13
                refine lv_lload_n hx hb dX2_fillIn_51 rfl (lv_at hl 3 rfl) ?_
                refine m_ldc2 X 1000003 co_X2_109 dX2_fillIn_52 ?_
                refine lv_lload hx hb dX2_fillIn_55 (lv_at hl 0 rfl) ?_
                refine m_lsub X dX2_fillIn_57 ?_
                refine lv_aload_n hx hb dX2_fillIn_58 rfl (lv_at hl 1 rfl) ?_
                refine m_get X hK hP cl_X2 iT_X2 5 (by decide) fl_X2_31 0 rfl rfl dX2_fillIn_59 ?_
                refine lv_iload hx hb dX2_fillIn_62 (lv_at hl 4 rfl) ?_
                obtain ⟨h15, hj13⟩ := ck_some hj13
                refine m_iald X hK hP 2 rfl (by decide) h15 dX2_fillIn_64 ?_
                obtain ⟨h16, hj13⟩ := ck_some hj13
                refine m_i2l X h16 dX2_fillIn_65 ?_
                refine m_lmul X dX2_fillIn_66 ?_
                refine m_ladd X dX2_fillIn_67 ?_
                refine m_ldc2 X 1000003 co_X2_109 dX2_fillIn_68 ?_
                obtain ⟨h17, hj13⟩ := ck_some hj13
                refine m_lrem X h17 dX2_fillIn_71 ?_
                refine lv_lstore_n (lv' := [(2, .long (z8 ((v26_2 + ((1000003 - (t_lines_pr (t_lines_g (v2_1).toNat) (v26_4).toNat)) * (t_numbers_l2 (v26_4).toNat))) % 1000003))), (5, .long (z8 (t_lines_pr (t_lines_g (v2_1).toNat) (v26_4).toNat))), (0, .ref a_t), (1, .int (z4 v2_1)), (4, .int (z4 v26_4))]) hx hb dX2_fillIn_72 rfl hl (by decide) rfl (fun ls hl => ?_)
                exact J13 _ (Option.some.inj hj13).symm _ _ _ (lv_sub hl [2, 3, 0, 4] rfl) hP hD hS
        exact L7 n _ _ _ _ _ (lv_sub hl [2, 3, 1, 0] rfl) hP hD hS hj7
  exact L1 n _ _ _ _ _ (lv_sub hl [1, 0] rfl) hP hD hS hj1
def F_X2_fit (n : Nat) (L_ : List Nat)  (t_solved : Int) (t_size : Int) (t_known : Int) (t_plan_rules : Int) (t_plan_slack : Int) (t_plan_limit : Int) (p2_rules : Int) (p2_slack : Int) (p2_limit : Int) (p2_least : Nat → Int) (t_plan_least : Nat → Int) (p2_of : Nat → Int) (t_plan_of : Nat → Int) (p2_set : Nat → Int) (t_plan_set : Nat → Int) (p2_chances : Nat → Int) (t_plan_chances : Nat → Int) (p1_states : Int) (t_lines_g : Nat → Nat) (t_lines_pr : Nat → Nat → Int) (p1_steps : Nat → Int) (t_columns : Nat → Int) (t_numbers : Nat → Int)  : Option (Int × Int × Int × Int × Int × Int × (Nat → Int) × (Nat → Int) × (Nat → Int) × (Nat → Int) × (Nat → Nat) × (Nat → Nat → Int) × (Nat → Int) × (Nat → Int)) :=
  ck (r4 t_solved) <|
  if t_solved = 0 then
    (F_X4_take n p2_rules p2_slack p2_limit p2_least t_plan_least p2_of t_plan_of p2_set t_plan_set p2_chances t_plan_chances).bind fun o2 =>
    (F_X2_setUp n L_ p1_states t_lines_g t_lines_pr p1_steps o2.2.2.2.2.2.2).bind fun o3 =>
    (F_X2_eliminate n L_ o3.1 o3.2.1 o3.2.2 t_columns).bind fun o4 =>
    ck (o4.1 = 0 ∨ o4.1 = 1) <|
    Option.bind (α := (Nat → Int)) (
      ck (r4 o4.1) <|
      if o4.1 = 0 then
        some t_numbers
      else
        (F_X2_fillIn n L_ o3.1 o4.2.1 o4.2.2.1 t_numbers).bind fun o8 =>
        some o8) fun o6 =>
    some (1, o3.1, o4.1, o2.1, o2.2.1, o2.2.2.1, o2.2.2.2.1, o2.2.2.2.2.1, o2.2.2.2.2.2.1, o2.2.2.2.2.2.2, o4.2.1, o4.2.2.1, o4.2.2.2, o6)
  else
    (F_X4_hasRulesOf n t_plan_rules p2_rules t_plan_least p2_least t_plan_of p2_of t_plan_set p2_set).bind fun o9 =>
    ck (r4 o9) <|
    if o9 = 0 then
      (F_X4_take n p2_rules p2_slack p2_limit p2_least t_plan_least p2_of t_plan_of p2_set t_plan_set p2_chances t_plan_chances).bind fun o11 =>
      (F_X2_setUp n L_ p1_states t_lines_g t_lines_pr p1_steps o11.2.2.2.2.2.2).bind fun o12 =>
      (F_X2_eliminate n L_ o12.1 o12.2.1 o12.2.2 t_columns).bind fun o13 =>
      ck (o13.1 = 0 ∨ o13.1 = 1) <|
      Option.bind (α := (Nat → Int)) (
        ck (r4 o13.1) <|
        if o13.1 = 0 then
          some t_numbers
        else
          (F_X2_fillIn n L_ o12.1 o13.2.1 o13.2.2.1 t_numbers).bind fun o17 =>
          some o17) fun o15 =>
      some (1, o12.1, o13.1, o11.1, o11.2.1, o11.2.2.1, o11.2.2.2.1, o11.2.2.2.2.1, o11.2.2.2.2.2.1, o11.2.2.2.2.2.2, o13.2.1, o13.2.2.1, o13.2.2.2, o15)
    else
      (F_X4_hasChancesOf n t_plan_chances p2_chances).bind fun o18 =>
      ck (r4 o18) <|
      if o18 = 0 then
        (F_X4_take n p2_rules p2_slack p2_limit p2_least t_plan_least p2_of t_plan_of p2_set t_plan_set p2_chances t_plan_chances).bind fun o20 =>
        (F_X2_setUp n L_ p1_states t_lines_g t_lines_pr p1_steps o20.2.2.2.2.2.2).bind fun o21 =>
        (F_X2_eliminate n L_ o21.1 o21.2.1 o21.2.2 t_columns).bind fun o22 =>
        ck (o22.1 = 0 ∨ o22.1 = 1) <|
        Option.bind (α := (Nat → Int)) (
          ck (r4 o22.1) <|
          if o22.1 = 0 then
            some t_numbers
          else
            (F_X2_fillIn n L_ o21.1 o22.2.1 o22.2.2.1 t_numbers).bind fun o26 =>
            some o26) fun o24 =>
        some (1, o21.1, o22.1, o20.1, o20.2.1, o20.2.2.1, o20.2.2.2.1, o20.2.2.2.2.1, o20.2.2.2.2.2.1, o20.2.2.2.2.2.2, o22.2.1, o22.2.2.1, o22.2.2.2, o24)
      else
        some (t_solved, t_size, t_known, t_plan_rules, t_plan_slack, t_plan_limit, t_plan_least, t_plan_of, t_plan_set, t_plan_chances, t_lines_g, t_lines_pr, t_columns, t_numbers)
def rm_X2_fit : Room := { frames := 3, cells := 0, slots := 0, locals := 74 }
set_option maxHeartbeats 4000000 in
set_option maxRecDepth 100000 in
theorem k_X2_fit {l : Launch} {D : va_G} {E : Nat → ClassId} (n : Nat) (a_t a_t_plan a_t_lines a_t_columns a_t_numbers a_t_plan_least a_t_plan_of a_t_plan_set a_t_plan_chances a_p2 a_p2_least a_p2_of a_p2_set a_p2_chances a_p1 a_p1_plan a_p1_leads a_p1_part a_p1_finer a_p1_keys a_p1_stateOfPart a_p1_pastOfState a_p1_steps a_p1_away : Nat) (L_ : List Nat) (t_solved : Int) (t_size : Int) (t_known : Int) (t_plan_rules : Int) (t_plan_slack : Int) (t_plan_limit : Int) (p2_rules : Int) (p2_slack : Int) (p2_limit : Int) (p2_least : Nat → Int) (t_plan_least : Nat → Int) (p2_of : Nat → Int) (t_plan_of : Nat → Int) (p2_set : Nat → Int) (t_plan_set : Nat → Int) (p2_chances : Nat → Int) (t_plan_chances : Nat → Int) (p1_pasts : Int) (p1_states : Int) (t_lines_g : Nat → Nat) (t_lines_pr : Nat → Nat → Int) (p1_steps : Nat → Int) (t_columns : Nat → Int) (t_numbers : Nat → Int) (res : Int × Int × Int × Int × Int × Int × (Nat → Int) × (Nat → Int) × (Nat → Int) × (Nat → Int) × (Nat → Nat) × (Nat → Nat → Int) × (Nat → Int) × (Nat → Int)) (hf : F_X2_fit n L_ t_solved t_size t_known t_plan_rules t_plan_slack t_plan_limit p2_rules p2_slack p2_limit p2_least t_plan_least p2_of t_plan_of p2_set t_plan_set p2_chances t_plan_chances p1_states t_lines_g t_lines_pr p1_steps t_columns t_numbers = some res) : MW l yX2_fit (.code yX2_fit cX2_fit 3 none) rm_X2_fit D E [.ref a_t, .ref a_p1, .ref a_p2] ([(a_t, .inr (2, [.ref a_t_plan, .int (z4 t_solved), .int (z4 t_size), .ref a_t_lines, .ref a_t_columns, .ref a_t_numbers, .int (z4 t_known)])), (a_t_plan, .inr (4, [.int (z4 t_plan_rules), .ref a_t_plan_least, .ref a_t_plan_of, .ref a_t_plan_set, .ref a_t_plan_chances, .int (z4 t_plan_slack), .int (z4 t_plan_limit)])), (a_p2, .inr (4, [.int (z4 p2_rules), .ref a_p2_least, .ref a_p2_of, .ref a_p2_set, .ref a_p2_chances, .int (z4 p2_slack), .int (z4 p2_limit)])), (a_p2_least, .inl (E 0, 3, .inl (A4 p2_least))), (a_t_plan_least, .inl (E 0, 3, .inl (A4 t_plan_least))), (a_p2_of, .inl (E 0, 3, .inl (A4 p2_of))), (a_t_plan_of, .inl (E 0, 3, .inl (A4 t_plan_of))), (a_p2_set, .inl (E 0, 3, .inl (A4 p2_set))), (a_t_plan_set, .inl (E 0, 3, .inl (A4 t_plan_set))), (a_p2_chances, .inl (E 0, 5, .inl (A4 p2_chances))), (a_t_plan_chances, .inl (E 0, 5, .inl (A4 t_plan_chances))), (a_p1, .inr (1, [.ref a_p1_plan, .int (z4 p1_pasts), .ref a_p1_leads, .ref a_p1_part, .ref a_p1_finer, .ref a_p1_keys, .ref a_p1_stateOfPart, .ref a_p1_pastOfState, .int (z4 p1_states), .ref a_p1_steps, .ref a_p1_away])), (a_t_lines, .inl (E 4, 64, .inr (.inr (.inr (.inr (OG t_lines_g)))))), (a_p1_steps, .inl (E 0, 320, .inl (A4 p1_steps))), (a_t_columns, .inl (E 0, 65, .inl (A4 t_columns))), (a_t_numbers, .inl (E 0, 64, .inl (A4 t_numbers)))] ++ va_pl L_ (GP E t_lines_pr)) none ([(a_t, .inr (2, [.ref a_t_plan, .int (z4 res.1), .int (z4 res.2.1), .ref a_t_lines, .ref a_t_columns, .ref a_t_numbers, .int (z4 res.2.2.1)])), (a_t_plan, .inr (4, [.int (z4 res.2.2.2.1), .ref a_t_plan_least, .ref a_t_plan_of, .ref a_t_plan_set, .ref a_t_plan_chances, .int (z4 res.2.2.2.2.1), .int (z4 res.2.2.2.2.2.1)])), (a_p2, .inr (4, [.int (z4 p2_rules), .ref a_p2_least, .ref a_p2_of, .ref a_p2_set, .ref a_p2_chances, .int (z4 p2_slack), .int (z4 p2_limit)])), (a_p2_least, .inl (E 0, 3, .inl (A4 p2_least))), (a_t_plan_least, .inl (E 0, 3, .inl (A4 res.2.2.2.2.2.2.1))), (a_p2_of, .inl (E 0, 3, .inl (A4 p2_of))), (a_t_plan_of, .inl (E 0, 3, .inl (A4 res.2.2.2.2.2.2.2.1))), (a_p2_set, .inl (E 0, 3, .inl (A4 p2_set))), (a_t_plan_set, .inl (E 0, 3, .inl (A4 res.2.2.2.2.2.2.2.2.1))), (a_p2_chances, .inl (E 0, 5, .inl (A4 p2_chances))), (a_t_plan_chances, .inl (E 0, 5, .inl (A4 res.2.2.2.2.2.2.2.2.2.1))), (a_p1, .inr (1, [.ref a_p1_plan, .int (z4 p1_pasts), .ref a_p1_leads, .ref a_p1_part, .ref a_p1_finer, .ref a_p1_keys, .ref a_p1_stateOfPart, .ref a_p1_pastOfState, .int (z4 p1_states), .ref a_p1_steps, .ref a_p1_away])), (a_t_lines, .inl (E 4, 64, .inr (.inr (.inr (.inr (OG res.2.2.2.2.2.2.2.2.2.2.1)))))), (a_p1_steps, .inl (E 0, 320, .inl (A4 p1_steps))), (a_t_columns, .inl (E 0, 65, .inl (A4 res.2.2.2.2.2.2.2.2.2.2.2.2.1))), (a_t_numbers, .inl (E 0, 64, .inl (A4 res.2.2.2.2.2.2.2.2.2.2.2.2.2)))] ++ va_pl L_ (GP E res.2.2.2.2.2.2.2.2.2.2.2.1)) := by
  refine MWv (by decide) (Nat.le_of_ble_eq_true rfl) ?_
  intro p e s m args below meth c A Q X hK hP hD hA ret ls hl
  have hS : va_S A s.heap s.heap [] := va_S.rf
  have hx := X.1
  have hb := X.2.1
  have hl : lv_has ls 3 [(0, .ref a_t), (1, .ref a_p1), (2, .ref a_p2)] := hl
  unfold F_X2_fit at hf
  refine lv_aload_n hx hb dX2_fit_0 rfl (lv_at hl 0 rfl) ?_
  refine m_get X hK hP cl_X2 iT_X2 1 (by decide) fl_X2_18 0 rfl rfl dX2_fit_1 ?_
  obtain ⟨h1, hf⟩ := ck_some hf
  refine m_if_eq X h1 dX2_fit_4 (tgt := 30) (by decide) (fun (hc_ : t_solved = 0) => ?_) (fun (hc_ : ¬ (t_solved = 0)) => ?_)
  · rw [if_pos hc_] at hf
    refine lv_aload_n hx hb dX2_fit_30 rfl (lv_at hl 0 rfl) ?_
    refine m_get X hK hP cl_X2 iT_X2 0 (by decide) fl_X2_12 0 rfl rfl dX2_fit_31 ?_
    refine lv_aload_n hx hb dX2_fit_34 rfl (lv_at hl 2 rfl) ?_
    obtain ⟨o2, ho, hf⟩ := bd_some hf
    refine m_cVWp X hK hP hD hS hA (wr := [(a_t, .inr (2, [.ref a_t_plan, .int (z4 t_solved), .int (z4 t_size), .ref a_t_lines, .ref a_t_columns, .ref a_t_numbers, .int (z4 t_known)])), (a_p1, .inr (1, [.ref a_p1_plan, .int (z4 p1_pasts), .ref a_p1_leads, .ref a_p1_part, .ref a_p1_finer, .ref a_p1_keys, .ref a_p1_stateOfPart, .ref a_p1_pastOfState, .int (z4 p1_states), .ref a_p1_steps, .ref a_p1_away])), (a_t_lines, .inl (E 4, 64, .inr (.inr (.inr (.inr (OG t_lines_g)))))), (a_p1_steps, .inl (E 0, 320, .inl (A4 p1_steps))), (a_t_columns, .inl (E 0, 65, .inl (A4 t_columns))), (a_t_numbers, .inl (E 0, 64, .inl (A4 t_numbers)))]) (k_X4_take n a_t_plan a_t_plan_least a_t_plan_of a_t_plan_set a_t_plan_chances a_p2 a_p2_least a_p2_of a_p2_set a_p2_chances t_plan_rules t_plan_slack t_plan_limit p2_rules p2_slack p2_limit p2_least t_plan_least p2_of t_plan_of p2_set t_plan_set p2_chances t_plan_chances o2 ho) [1, 2, 3, 4, 5, 6, 7, 8, 9, 10] [0, 11, 12, 13, 14, 15] [0, 6, 7, 8, 9, 10, 11, 12, 13, 14, 15, 1, 2, 3, 4, 5] [(a_t, .inr (2, [.ref a_t_plan, .int (z4 t_solved), .int (z4 t_size), .ref a_t_lines, .ref a_t_columns, .ref a_t_numbers, .int (z4 t_known)])), (a_t_plan, .inr (4, [.int (z4 o2.1), .ref a_t_plan_least, .ref a_t_plan_of, .ref a_t_plan_set, .ref a_t_plan_chances, .int (z4 o2.2.1), .int (z4 o2.2.2.1)])), (a_p2, .inr (4, [.int (z4 p2_rules), .ref a_p2_least, .ref a_p2_of, .ref a_p2_set, .ref a_p2_chances, .int (z4 p2_slack), .int (z4 p2_limit)])), (a_p2_least, .inl (E 0, 3, .inl (A4 p2_least))), (a_t_plan_least, .inl (E 0, 3, .inl (A4 o2.2.2.2.1))), (a_p2_of, .inl (E 0, 3, .inl (A4 p2_of))), (a_t_plan_of, .inl (E 0, 3, .inl (A4 o2.2.2.2.2.1))), (a_p2_set, .inl (E 0, 3, .inl (A4 p2_set))), (a_t_plan_set, .inl (E 0, 3, .inl (A4 o2.2.2.2.2.2.1))), (a_p2_chances, .inl (E 0, 5, .inl (A4 p2_chances))), (a_t_plan_chances, .inl (E 0, 5, .inl (A4 o2.2.2.2.2.2.2))), (a_p1, .inr (1, [.ref a_p1_plan, .int (z4 p1_pasts), .ref a_p1_leads, .ref a_p1_part, .ref a_p1_finer, .ref a_p1_keys, .ref a_p1_stateOfPart, .ref a_p1_pastOfState, .int (z4 p1_states), .ref a_p1_steps, .ref a_p1_away])), (a_t_lines, .inl (E 4, 64, .inr (.inr (.inr (.inr (OG t_lines_g)))))), (a_p1_steps, .inl (E 0, 320, .inl (A4 p1_steps))), (a_t_columns, .inl (E 0, 65, .inl (A4 t_columns))), (a_t_numbers, .inl (E 0, 64, .inl (A4 t_numbers)))] rfl rfl rfl rfl (by decide) rfl rfl rfl cl_X4 lk_X2_44 co_X4_take dy_X4_take rfl rfl ⟨Nat.le_of_ble_eq_true rfl, Nat.le_of_ble_eq_true rfl⟩ hl.1 rfl (Nat.le_of_ble_eq_true rfl) dX2_fit_35 (Nat.zero_le _) (Nat.zero_le _) (fun H locs hP hD hS => ?_)
    refine lv_aload_n hx hb dX2_fit_38 rfl (lv_at hl 0 rfl) ?_
    refine m_iconst X dX2_fit_39 ?_
    refine m_put X hK hP hD hS cl_X2 iT_X2 tyX2 tyX2_ok nmX2 1 (by decide) fl_X2_18 rfl 0 rfl rfl rfl (Nat.le_of_ble_eq_true rfl) ([(a_t, .inr (2, [.ref a_t_plan, .int (z4 1), .int (z4 t_size), .ref a_t_lines, .ref a_t_columns, .ref a_t_numbers, .int (z4 t_known)])), (a_t_plan, .inr (4, [.int (z4 o2.1), .ref a_t_plan_least, .ref a_t_plan_of, .ref a_t_plan_set, .ref a_t_plan_chances, .int (z4 o2.2.1), .int (z4 o2.2.2.1)])), (a_p2, .inr (4, [.int (z4 p2_rules), .ref a_p2_least, .ref a_p2_of, .ref a_p2_set, .ref a_p2_chances, .int (z4 p2_slack), .int (z4 p2_limit)])), (a_p2_least, .inl (E 0, 3, .inl (A4 p2_least))), (a_t_plan_least, .inl (E 0, 3, .inl (A4 o2.2.2.2.1))), (a_p2_of, .inl (E 0, 3, .inl (A4 p2_of))), (a_t_plan_of, .inl (E 0, 3, .inl (A4 o2.2.2.2.2.1))), (a_p2_set, .inl (E 0, 3, .inl (A4 p2_set))), (a_t_plan_set, .inl (E 0, 3, .inl (A4 o2.2.2.2.2.2.1))), (a_p2_chances, .inl (E 0, 5, .inl (A4 p2_chances))), (a_t_plan_chances, .inl (E 0, 5, .inl (A4 o2.2.2.2.2.2.2))), (a_p1, .inr (1, [.ref a_p1_plan, .int (z4 p1_pasts), .ref a_p1_leads, .ref a_p1_part, .ref a_p1_finer, .ref a_p1_keys, .ref a_p1_stateOfPart, .ref a_p1_pastOfState, .int (z4 p1_states), .ref a_p1_steps, .ref a_p1_away])), (a_t_lines, .inl (E 4, 64, .inr (.inr (.inr (.inr (OG t_lines_g)))))), (a_p1_steps, .inl (E 0, 320, .inl (A4 p1_steps))), (a_t_columns, .inl (E 0, 65, .inl (A4 t_columns))), (a_t_numbers, .inl (E 0, 64, .inl (A4 t_numbers)))] ++ va_pl L_ (GP E t_lines_pr)) rfl dX2_fit_40 (fun H locs hP hD hS => ?_)
    refine lv_aload_n hx hb dX2_fit_43 rfl (lv_at hl 0 rfl) ?_
    refine lv_aload_n hx hb dX2_fit_44 rfl (lv_at hl 1 rfl) ?_
    obtain ⟨o3, ho, hf⟩ := bd_some hf
    refine m_cVWq X hK hP hD hS hA (wr := [(a_p2, .inr (4, [.int (z4 p2_rules), .ref a_p2_least, .ref a_p2_of, .ref a_p2_set, .ref a_p2_chances, .int (z4 p2_slack), .int (z4 p2_limit)])), (a_p2_least, .inl (E 0, 3, .inl (A4 p2_least))), (a_t_plan_least, .inl (E 0, 3, .inl (A4 o2.2.2.2.1))), (a_p2_of, .inl (E 0, 3, .inl (A4 p2_of))), (a_t_plan_of, .inl (E 0, 3, .inl (A4 o2.2.2.2.2.1))), (a_p2_set, .inl (E 0, 3, .inl (A4 p2_set))), (a_t_plan_set, .inl (E 0, 3, .inl (A4 o2.2.2.2.2.2.1))), (a_p2_chances, .inl (E 0, 5, .inl (A4 p2_chances))), (a_t_columns, .inl (E 0, 65, .inl (A4 t_columns))), (a_t_numbers, .inl (E 0, 64, .inl (A4 t_numbers)))]) (k_X2_setUp n a_t a_t_plan a_t_lines a_t_columns a_t_numbers a_p1 a_p1_plan a_p1_leads a_p1_part a_p1_finer a_p1_keys a_p1_stateOfPart a_p1_pastOfState a_p1_steps a_p1_away a_t_plan_least a_t_plan_of a_t_plan_set a_t_plan_chances L_ 1 t_size t_known p1_pasts p1_states t_lines_g t_lines_pr p1_steps o2.1 o2.2.1 o2.2.2.1 o2.2.2.2.2.2.2 o3 ho) [0, 11, 12, 13, 1, 10] [2, 3, 4, 5, 6, 7, 8, 9, 14, 15] [10, 14, 0, 1, 2, 3, 4, 5, 6, 7, 15, 11, 12, 13, 8, 9] [(a_t, .inr (2, [.ref a_t_plan, .int (z4 1), .int (z4 o3.1), .ref a_t_lines, .ref a_t_columns, .ref a_t_numbers, .int (z4 t_known)])), (a_t_plan, .inr (4, [.int (z4 o2.1), .ref a_t_plan_least, .ref a_t_plan_of, .ref a_t_plan_set, .ref a_t_plan_chances, .int (z4 o2.2.1), .int (z4 o2.2.2.1)])), (a_p2, .inr (4, [.int (z4 p2_rules), .ref a_p2_least, .ref a_p2_of, .ref a_p2_set, .ref a_p2_chances, .int (z4 p2_slack), .int (z4 p2_limit)])), (a_p2_least, .inl (E 0, 3, .inl (A4 p2_least))), (a_t_plan_least, .inl (E 0, 3, .inl (A4 o2.2.2.2.1))), (a_p2_of, .inl (E 0, 3, .inl (A4 p2_of))), (a_t_plan_of, .inl (E 0, 3, .inl (A4 o2.2.2.2.2.1))), (a_p2_set, .inl (E 0, 3, .inl (A4 p2_set))), (a_t_plan_set, .inl (E 0, 3, .inl (A4 o2.2.2.2.2.2.1))), (a_p2_chances, .inl (E 0, 5, .inl (A4 p2_chances))), (a_t_plan_chances, .inl (E 0, 5, .inl (A4 o2.2.2.2.2.2.2))), (a_p1, .inr (1, [.ref a_p1_plan, .int (z4 p1_pasts), .ref a_p1_leads, .ref a_p1_part, .ref a_p1_finer, .ref a_p1_keys, .ref a_p1_stateOfPart, .ref a_p1_pastOfState, .int (z4 p1_states), .ref a_p1_steps, .ref a_p1_away])), (a_t_lines, .inl (E 4, 64, .inr (.inr (.inr (.inr (OG o3.2.1)))))), (a_p1_steps, .inl (E 0, 320, .inl (A4 p1_steps))), (a_t_columns, .inl (E 0, 65, .inl (A4 t_columns))), (a_t_numbers, .inl (E 0, 64, .inl (A4 t_numbers)))] rfl rfl rfl rfl (by decide) rfl rfl rfl cl_X2 lk_X2_48 co_X2_setUp dy_X2_setUp rfl rfl ⟨Nat.le_of_ble_eq_true rfl, Nat.le_of_ble_eq_true rfl⟩ hl.1 rfl (Nat.le_of_ble_eq_true rfl) dX2_fit_45 (Nat.zero_le _) (Nat.zero_le _) (fun H locs hP hD hS => ?_)
    refine lv_aload_n hx hb dX2_fit_48 rfl (lv_at hl 0 rfl) ?_
    refine lv_aload_n hx hb dX2_fit_49 rfl (lv_at hl 0 rfl) ?_
    obtain ⟨o4, ho, hf⟩ := bd_some hf
    refine m_cVWq X hK hP hD hS hA (wr := [(a_t_plan, .inr (4, [.int (z4 o2.1), .ref a_t_plan_least, .ref a_t_plan_of, .ref a_t_plan_set, .ref a_t_plan_chances, .int (z4 o2.2.1), .int (z4 o2.2.2.1)])), (a_p2, .inr (4, [.int (z4 p2_rules), .ref a_p2_least, .ref a_p2_of, .ref a_p2_set, .ref a_p2_chances, .int (z4 p2_slack), .int (z4 p2_limit)])), (a_p2_least, .inl (E 0, 3, .inl (A4 p2_least))), (a_t_plan_least, .inl (E 0, 3, .inl (A4 o2.2.2.2.1))), (a_p2_of, .inl (E 0, 3, .inl (A4 p2_of))), (a_t_plan_of, .inl (E 0, 3, .inl (A4 o2.2.2.2.2.1))), (a_p2_set, .inl (E 0, 3, .inl (A4 p2_set))), (a_t_plan_set, .inl (E 0, 3, .inl (A4 o2.2.2.2.2.2.1))), (a_p2_chances, .inl (E 0, 5, .inl (A4 p2_chances))), (a_t_plan_chances, .inl (E 0, 5, .inl (A4 o2.2.2.2.2.2.2))), (a_p1, .inr (1, [.ref a_p1_plan, .int (z4 p1_pasts), .ref a_p1_leads, .ref a_p1_part, .ref a_p1_finer, .ref a_p1_keys, .ref a_p1_stateOfPart, .ref a_p1_pastOfState, .int (z4 p1_states), .ref a_p1_steps, .ref a_p1_away])), (a_p1_steps, .inl (E 0, 320, .inl (A4 p1_steps))), (a_t_numbers, .inl (E 0, 64, .inl (A4 t_numbers)))]) (k_X2_eliminate n a_t a_t_plan a_t_lines a_t_columns a_t_numbers L_ 1 o3.1 t_known o3.2.1 o3.2.2 t_columns o4 ho) [0, 12, 14] [1, 2, 3, 4, 5, 6, 7, 8, 9, 10, 11, 13, 15] [13, 0, 1, 2, 3, 4, 5, 6, 7, 8, 9, 10, 14, 11, 15, 12] [(a_t, .inr (2, [.ref a_t_plan, .int (z4 1), .int (z4 o3.1), .ref a_t_lines, .ref a_t_columns, .ref a_t_numbers, .int (z4 t_known)])), (a_t_plan, .inr (4, [.int (z4 o2.1), .ref a_t_plan_least, .ref a_t_plan_of, .ref a_t_plan_set, .ref a_t_plan_chances, .int (z4 o2.2.1), .int (z4 o2.2.2.1)])), (a_p2, .inr (4, [.int (z4 p2_rules), .ref a_p2_least, .ref a_p2_of, .ref a_p2_set, .ref a_p2_chances, .int (z4 p2_slack), .int (z4 p2_limit)])), (a_p2_least, .inl (E 0, 3, .inl (A4 p2_least))), (a_t_plan_least, .inl (E 0, 3, .inl (A4 o2.2.2.2.1))), (a_p2_of, .inl (E 0, 3, .inl (A4 p2_of))), (a_t_plan_of, .inl (E 0, 3, .inl (A4 o2.2.2.2.2.1))), (a_p2_set, .inl (E 0, 3, .inl (A4 p2_set))), (a_t_plan_set, .inl (E 0, 3, .inl (A4 o2.2.2.2.2.2.1))), (a_p2_chances, .inl (E 0, 5, .inl (A4 p2_chances))), (a_t_plan_chances, .inl (E 0, 5, .inl (A4 o2.2.2.2.2.2.2))), (a_p1, .inr (1, [.ref a_p1_plan, .int (z4 p1_pasts), .ref a_p1_leads, .ref a_p1_part, .ref a_p1_finer, .ref a_p1_keys, .ref a_p1_stateOfPart, .ref a_p1_pastOfState, .int (z4 p1_states), .ref a_p1_steps, .ref a_p1_away])), (a_t_lines, .inl (E 4, 64, .inr (.inr (.inr (.inr (OG o4.2.1)))))), (a_p1_steps, .inl (E 0, 320, .inl (A4 p1_steps))), (a_t_columns, .inl (E 0, 65, .inl (A4 o4.2.2.2))), (a_t_numbers, .inl (E 0, 64, .inl (A4 t_numbers)))] rfl rfl rfl rfl (by decide) rfl rfl rfl cl_X2 lk_X2_52 co_X2_eliminate dy_X2_eliminate rfl rfl ⟨Nat.le_of_ble_eq_true rfl, Nat.le_of_ble_eq_true rfl⟩ hl.1 rfl (Nat.le_of_ble_eq_true rfl) dX2_fit_50 (Nat.zero_le _) (Nat.zero_le _) (fun H locs hP hD hS => ?_)
    obtain ⟨h5, hf⟩ := ck_some hf
    refine m_put X hK hP hD hS cl_X2 iT_X2 tyX2 tyX2_ok nmX2 6 (by decide) fl_X2_34 rfl 0 rfl (nb_ h5) (nf_ h5) (Nat.le_of_ble_eq_true rfl) ([(a_t, .inr (2, [.ref a_t_plan, .int (z4 1), .int (z4 o3.1), .ref a_t_lines, .ref a_t_columns, .ref a_t_numbers, .int (z4 o4.1)])), (a_t_plan, .inr (4, [.int (z4 o2.1), .ref a_t_plan_least, .ref a_t_plan_of, .ref a_t_plan_set, .ref a_t_plan_chances, .int (z4 o2.2.1), .int (z4 o2.2.2.1)])), (a_p2, .inr (4, [.int (z4 p2_rules), .ref a_p2_least, .ref a_p2_of, .ref a_p2_set, .ref a_p2_chances, .int (z4 p2_slack), .int (z4 p2_limit)])), (a_p2_least, .inl (E 0, 3, .inl (A4 p2_least))), (a_t_plan_least, .inl (E 0, 3, .inl (A4 o2.2.2.2.1))), (a_p2_of, .inl (E 0, 3, .inl (A4 p2_of))), (a_t_plan_of, .inl (E 0, 3, .inl (A4 o2.2.2.2.2.1))), (a_p2_set, .inl (E 0, 3, .inl (A4 p2_set))), (a_t_plan_set, .inl (E 0, 3, .inl (A4 o2.2.2.2.2.2.1))), (a_p2_chances, .inl (E 0, 5, .inl (A4 p2_chances))), (a_t_plan_chances, .inl (E 0, 5, .inl (A4 o2.2.2.2.2.2.2))), (a_p1, .inr (1, [.ref a_p1_plan, .int (z4 p1_pasts), .ref a_p1_leads, .ref a_p1_part, .ref a_p1_finer, .ref a_p1_keys, .ref a_p1_stateOfPart, .ref a_p1_pastOfState, .int (z4 p1_states), .ref a_p1_steps, .ref a_p1_away])), (a_t_lines, .inl (E 4, 64, .inr (.inr (.inr (.inr (OG o4.2.1)))))), (a_p1_steps, .inl (E 0, 320, .inl (A4 p1_steps))), (a_t_columns, .inl (E 0, 65, .inl (A4 o4.2.2.2))), (a_t_numbers, .inl (E 0, 64, .inl (A4 t_numbers)))] ++ va_pl L_ (GP E o4.2.2.1)) rfl dX2_fit_53 (fun H locs hP hD hS => ?_)
    refine lv_aload_n hx hb dX2_fit_56 rfl (lv_at hl 0 rfl) ?_
    refine m_get X hK hP cl_X2 iT_X2 6 (by decide) fl_X2_34 0 rfl rfl dX2_fit_57 ?_
    obtain ⟨o6, hj6, hr6⟩ := bd_some hf
    have J6 : ∀ (o_ : (Nat → Int)), o6 = o_ → ∀ (H : Heap) (locs : List Loc) (ls : Array Slot), lv_has ls 3 [] → va_P D vwCl ([(a_t, .inr (2, [.ref a_t_plan, .int (z4 1), .int (z4 o3.1), .ref a_t_lines, .ref a_t_columns, .ref a_t_numbers, .int (z4 o4.1)])), (a_t_plan, .inr (4, [.int (z4 o2.1), .ref a_t_plan_least, .ref a_t_plan_of, .ref a_t_plan_set, .ref a_t_plan_chances, .int (z4 o2.2.1), .int (z4 o2.2.2.1)])), (a_p2, .inr (4, [.int (z4 p2_rules), .ref a_p2_least, .ref a_p2_of, .ref a_p2_set, .ref a_p2_chances, .int (z4 p2_slack), .int (z4 p2_limit)])), (a_p2_least, .inl (E 0, 3, .inl (A4 p2_least))), (a_t_plan_least, .inl (E 0, 3, .inl (A4 o2.2.2.2.1))), (a_p2_of, .inl (E 0, 3, .inl (A4 p2_of))), (a_t_plan_of, .inl (E 0, 3, .inl (A4 o2.2.2.2.2.1))), (a_p2_set, .inl (E 0, 3, .inl (A4 p2_set))), (a_t_plan_set, .inl (E 0, 3, .inl (A4 o2.2.2.2.2.2.1))), (a_p2_chances, .inl (E 0, 5, .inl (A4 p2_chances))), (a_t_plan_chances, .inl (E 0, 5, .inl (A4 o2.2.2.2.2.2.2))), (a_p1, .inr (1, [.ref a_p1_plan, .int (z4 p1_pasts), .ref a_p1_leads, .ref a_p1_part, .ref a_p1_finer, .ref a_p1_keys, .ref a_p1_stateOfPart, .ref a_p1_pastOfState, .int (z4 p1_states), .ref a_p1_steps, .ref a_p1_away])), (a_t_lines, .inl (E 4, 64, .inr (.inr (.inr (.inr (OG o4.2.1)))))), (a_p1_steps, .inl (E 0, 320, .inl (A4 p1_steps))), (a_t_columns, .inl (E 0, 65, .inl (A4 o4.2.2.2))), (a_t_numbers, .inl (E 0, 64, .inl (A4 o_)))] ++ va_pl L_ (GP E o4.2.2.1)) H → va_D A ([(a_t, .inr (2, [.ref a_t_plan, .int (z4 1), .int (z4 o3.1), .ref a_t_lines, .ref a_t_columns, .ref a_t_numbers, .int (z4 o4.1)])), (a_t_plan, .inr (4, [.int (z4 o2.1), .ref a_t_plan_least, .ref a_t_plan_of, .ref a_t_plan_set, .ref a_t_plan_chances, .int (z4 o2.2.1), .int (z4 o2.2.2.1)])), (a_p2, .inr (4, [.int (z4 p2_rules), .ref a_p2_least, .ref a_p2_of, .ref a_p2_set, .ref a_p2_chances, .int (z4 p2_slack), .int (z4 p2_limit)])), (a_p2_least, .inl (E 0, 3, .inl (A4 p2_least))), (a_t_plan_least, .inl (E 0, 3, .inl (A4 o2.2.2.2.1))), (a_p2_of, .inl (E 0, 3, .inl (A4 p2_of))), (a_t_plan_of, .inl (E 0, 3, .inl (A4 o2.2.2.2.2.1))), (a_p2_set, .inl (E 0, 3, .inl (A4 p2_set))), (a_t_plan_set, .inl (E 0, 3, .inl (A4 o2.2.2.2.2.2.1))), (a_p2_chances, .inl (E 0, 5, .inl (A4 p2_chances))), (a_t_plan_chances, .inl (E 0, 5, .inl (A4 o2.2.2.2.2.2.2))), (a_p1, .inr (1, [.ref a_p1_plan, .int (z4 p1_pasts), .ref a_p1_leads, .ref a_p1_part, .ref a_p1_finer, .ref a_p1_keys, .ref a_p1_stateOfPart, .ref a_p1_pastOfState, .int (z4 p1_states), .ref a_p1_steps, .ref a_p1_away])), (a_t_lines, .inl (E 4, 64, .inr (.inr (.inr (.inr (OG o4.2.1)))))), (a_p1_steps, .inl (E 0, 320, .inl (A4 p1_steps))), (a_t_columns, .inl (E 0, 65, .inl (A4 o4.2.2.2))), (a_t_numbers, .inl (E 0, 64, .inl (A4 o_)))] ++ va_pl L_ (GP E o4.2.2.1)) → va_S A s.heap H locs → W p l e rm_X2_fit s m args below meth c H locs 0 0 Q (F0 m 67 ls []) := by
      intro o_ ho_ H locs ls hl hP hD hS
      subst ho_
      obtain rfl := Option.some.inj hr6
      exact ret _ _ _ _ hP hD hS dX2_fit_67
    obtain ⟨h7, hj6⟩ := ck_some hj6
    refine m_if_eq X h7 dX2_fit_60 (tgt := 67) (by decide) (fun (hc_ : o4.1 = 0) => ?_) (fun (hc_ : ¬ (o4.1 = 0)) => ?_)
    · rw [if_pos hc_] at hj6
      exact J6 _ (Option.some.inj hj6).symm _ _ _ (lv_sub hl [] rfl) hP hD hS
    · rw [if_neg hc_] at hj6
      refine lv_aload_n hx hb dX2_fit_63 rfl (lv_at hl 0 rfl) ?_
      obtain ⟨o8, ho, hj6⟩ := bd_some hj6
      refine m_cVWq X hK hP hD hS hA (wr := [(a_t_plan, .inr (4, [.int (z4 o2.1), .ref a_t_plan_least, .ref a_t_plan_of, .ref a_t_plan_set, .ref a_t_plan_chances, .int (z4 o2.2.1), .int (z4 o2.2.2.1)])), (a_p2, .inr (4, [.int (z4 p2_rules), .ref a_p2_least, .ref a_p2_of, .ref a_p2_set, .ref a_p2_chances, .int (z4 p2_slack), .int (z4 p2_limit)])), (a_p2_least, .inl (E 0, 3, .inl (A4 p2_least))), (a_t_plan_least, .inl (E 0, 3, .inl (A4 o2.2.2.2.1))), (a_p2_of, .inl (E 0, 3, .inl (A4 p2_of))), (a_t_plan_of, .inl (E 0, 3, .inl (A4 o2.2.2.2.2.1))), (a_p2_set, .inl (E 0, 3, .inl (A4 p2_set))), (a_t_plan_set, .inl (E 0, 3, .inl (A4 o2.2.2.2.2.2.1))), (a_p2_chances, .inl (E 0, 5, .inl (A4 p2_chances))), (a_t_plan_chances, .inl (E 0, 5, .inl (A4 o2.2.2.2.2.2.2))), (a_p1, .inr (1, [.ref a_p1_plan, .int (z4 p1_pasts), .ref a_p1_leads, .ref a_p1_part, .ref a_p1_finer, .ref a_p1_keys, .ref a_p1_stateOfPart, .ref a_p1_pastOfState, .int (z4 p1_states), .ref a_p1_steps, .ref a_p1_away])), (a_p1_steps, .inl (E 0, 320, .inl (A4 p1_steps))), (a_t_columns, .inl (E 0, 65, .inl (A4 o4.2.2.2)))]) (k_X2_fillIn n a_t a_t_plan a_t_lines a_t_columns a_t_numbers L_ 1 o3.1 o4.1 o4.2.1 o4.2.2.1 t_numbers o8 ho) [0, 12, 15] [1, 2, 3, 4, 5, 6, 7, 8, 9, 10, 11, 13, 14] [13, 0, 1, 2, 3, 4, 5, 6, 7, 8, 9, 10, 14, 11, 12, 15] [(a_t, .inr (2, [.ref a_t_plan, .int (z4 1), .int (z4 o3.1), .ref a_t_lines, .ref a_t_columns, .ref a_t_numbers, .int (z4 o4.1)])), (a_t_plan, .inr (4, [.int (z4 o2.1), .ref a_t_plan_least, .ref a_t_plan_of, .ref a_t_plan_set, .ref a_t_plan_chances, .int (z4 o2.2.1), .int (z4 o2.2.2.1)])), (a_p2, .inr (4, [.int (z4 p2_rules), .ref a_p2_least, .ref a_p2_of, .ref a_p2_set, .ref a_p2_chances, .int (z4 p2_slack), .int (z4 p2_limit)])), (a_p2_least, .inl (E 0, 3, .inl (A4 p2_least))), (a_t_plan_least, .inl (E 0, 3, .inl (A4 o2.2.2.2.1))), (a_p2_of, .inl (E 0, 3, .inl (A4 p2_of))), (a_t_plan_of, .inl (E 0, 3, .inl (A4 o2.2.2.2.2.1))), (a_p2_set, .inl (E 0, 3, .inl (A4 p2_set))), (a_t_plan_set, .inl (E 0, 3, .inl (A4 o2.2.2.2.2.2.1))), (a_p2_chances, .inl (E 0, 5, .inl (A4 p2_chances))), (a_t_plan_chances, .inl (E 0, 5, .inl (A4 o2.2.2.2.2.2.2))), (a_p1, .inr (1, [.ref a_p1_plan, .int (z4 p1_pasts), .ref a_p1_leads, .ref a_p1_part, .ref a_p1_finer, .ref a_p1_keys, .ref a_p1_stateOfPart, .ref a_p1_pastOfState, .int (z4 p1_states), .ref a_p1_steps, .ref a_p1_away])), (a_t_lines, .inl (E 4, 64, .inr (.inr (.inr (.inr (OG o4.2.1)))))), (a_p1_steps, .inl (E 0, 320, .inl (A4 p1_steps))), (a_t_columns, .inl (E 0, 65, .inl (A4 o4.2.2.2))), (a_t_numbers, .inl (E 0, 64, .inl (A4 o8)))] rfl rfl rfl rfl (by decide) rfl rfl rfl cl_X2 lk_X2_56 co_X2_fillIn dy_X2_fillIn rfl rfl ⟨Nat.le_of_ble_eq_true rfl, Nat.le_of_ble_eq_true rfl⟩ hl.1 rfl (Nat.le_of_ble_eq_true rfl) dX2_fit_64 (Nat.zero_le _) (Nat.zero_le _) (fun H locs hP hD hS => ?_)
      exact J6 _ (Option.some.inj hj6).symm _ _ _ (lv_sub hl [] rfl) hP hD hS
  · rw [if_neg hc_] at hf
    refine lv_aload_n hx hb dX2_fit_7 rfl (lv_at hl 0 rfl) ?_
    refine m_get X hK hP cl_X2 iT_X2 0 (by decide) fl_X2_12 0 rfl rfl dX2_fit_8 ?_
    refine lv_aload_n hx hb dX2_fit_11 rfl (lv_at hl 2 rfl) ?_
    obtain ⟨o9, ho, hf⟩ := bd_some hf
    refine m_cVR X hK (k_X4_hasRulesOf n a_t_plan a_t_plan_least a_t_plan_of a_t_plan_set a_t_plan_chances a_p2 a_p2_least a_p2_of a_p2_set a_p2_chances t_plan_rules t_plan_slack t_plan_limit p2_rules p2_slack p2_limit t_plan_least p2_least t_plan_of p2_of t_plan_set p2_set o9 ho) (hP.sub [1, 2, 4, 3, 6, 5, 8, 7] rfl) rfl cl_X4 lk_X2_37 co_X4_hasRulesOf dy_X4_hasRulesOf rfl rfl ⟨Nat.le_of_ble_eq_true rfl, Nat.le_of_ble_eq_true rfl⟩ hl.1 rfl (Nat.le_of_ble_eq_true rfl) dX2_fit_12 (Nat.zero_le _) (Nat.zero_le _) ?_
    obtain ⟨h10, hf⟩ := ck_some hf
    refine m_if_eq X h10 dX2_fit_15 (tgt := 30) (by decide) (fun (hc_ : o9 = 0) => ?_) (fun (hc_ : ¬ (o9 = 0)) => ?_)
    · rw [if_pos hc_] at hf
      refine lv_aload_n hx hb dX2_fit_30 rfl (lv_at hl 0 rfl) ?_
      refine m_get X hK hP cl_X2 iT_X2 0 (by decide) fl_X2_12 0 rfl rfl dX2_fit_31 ?_
      refine lv_aload_n hx hb dX2_fit_34 rfl (lv_at hl 2 rfl) ?_
      obtain ⟨o11, ho, hf⟩ := bd_some hf
      refine m_cVWp X hK hP hD hS hA (wr := [(a_t, .inr (2, [.ref a_t_plan, .int (z4 t_solved), .int (z4 t_size), .ref a_t_lines, .ref a_t_columns, .ref a_t_numbers, .int (z4 t_known)])), (a_p1, .inr (1, [.ref a_p1_plan, .int (z4 p1_pasts), .ref a_p1_leads, .ref a_p1_part, .ref a_p1_finer, .ref a_p1_keys, .ref a_p1_stateOfPart, .ref a_p1_pastOfState, .int (z4 p1_states), .ref a_p1_steps, .ref a_p1_away])), (a_t_lines, .inl (E 4, 64, .inr (.inr (.inr (.inr (OG t_lines_g)))))), (a_p1_steps, .inl (E 0, 320, .inl (A4 p1_steps))), (a_t_columns, .inl (E 0, 65, .inl (A4 t_columns))), (a_t_numbers, .inl (E 0, 64, .inl (A4 t_numbers)))]) (k_X4_take n a_t_plan a_t_plan_least a_t_plan_of a_t_plan_set a_t_plan_chances a_p2 a_p2_least a_p2_of a_p2_set a_p2_chances t_plan_rules t_plan_slack t_plan_limit p2_rules p2_slack p2_limit p2_least t_plan_least p2_of t_plan_of p2_set t_plan_set p2_chances t_plan_chances o11 ho) [1, 2, 3, 4, 5, 6, 7, 8, 9, 10] [0, 11, 12, 13, 14, 15] [0, 6, 7, 8, 9, 10, 11, 12, 13, 14, 15, 1, 2, 3, 4, 5] [(a_t, .inr (2, [.ref a_t_plan, .int (z4 t_solved), .int (z4 t_size), .ref a_t_lines, .ref a_t_columns, .ref a_t_numbers, .int (z4 t_known)])), (a_t_plan, .inr (4, [.int (z4 o11.1), .ref a_t_plan_least, .ref a_t_plan_of, .ref a_t_plan_set, .ref a_t_plan_chances, .int (z4 o11.2.1), .int (z4 o11.2.2.1)])), (a_p2, .inr (4, [.int (z4 p2_rules), .ref a_p2_least, .ref a_p2_of, .ref a_p2_set, .ref a_p2_chances, .int (z4 p2_slack), .int (z4 p2_limit)])), (a_p2_least, .inl (E 0, 3, .inl (A4 p2_least))), (a_t_plan_least, .inl (E 0, 3, .inl (A4 o11.2.2.2.1))), (a_p2_of, .inl (E 0, 3, .inl (A4 p2_of))), (a_t_plan_of, .inl (E 0, 3, .inl (A4 o11.2.2.2.2.1))), (a_p2_set, .inl (E 0, 3, .inl (A4 p2_set))), (a_t_plan_set, .inl (E 0, 3, .inl (A4 o11.2.2.2.2.2.1))), (a_p2_chances, .inl (E 0, 5, .inl (A4 p2_chances))), (a_t_plan_chances, .inl (E 0, 5, .inl (A4 o11.2.2.2.2.2.2))), (a_p1, .inr (1, [.ref a_p1_plan, .int (z4 p1_pasts), .ref a_p1_leads, .ref a_p1_part, .ref a_p1_finer, .ref a_p1_keys, .ref a_p1_stateOfPart, .ref a_p1_pastOfState, .int (z4 p1_states), .ref a_p1_steps, .ref a_p1_away])), (a_t_lines, .inl (E 4, 64, .inr (.inr (.inr (.inr (OG t_lines_g)))))), (a_p1_steps, .inl (E 0, 320, .inl (A4 p1_steps))), (a_t_columns, .inl (E 0, 65, .inl (A4 t_columns))), (a_t_numbers, .inl (E 0, 64, .inl (A4 t_numbers)))] rfl rfl rfl rfl (by decide) rfl rfl rfl cl_X4 lk_X2_44 co_X4_take dy_X4_take rfl rfl ⟨Nat.le_of_ble_eq_true rfl, Nat.le_of_ble_eq_true rfl⟩ hl.1 rfl (Nat.le_of_ble_eq_true rfl) dX2_fit_35 (Nat.zero_le _) (Nat.zero_le _) (fun H locs hP hD hS => ?_)
      refine lv_aload_n hx hb dX2_fit_38 rfl (lv_at hl 0 rfl) ?_
      refine m_iconst X dX2_fit_39 ?_
      refine m_put X hK hP hD hS cl_X2 iT_X2 tyX2 tyX2_ok nmX2 1 (by decide) fl_X2_18 rfl 0 rfl rfl rfl (Nat.le_of_ble_eq_true rfl) ([(a_t, .inr (2, [.ref a_t_plan, .int (z4 1), .int (z4 t_size), .ref a_t_lines, .ref a_t_columns, .ref a_t_numbers, .int (z4 t_known)])), (a_t_plan, .inr (4, [.int (z4 o11.1), .ref a_t_plan_least, .ref a_t_plan_of, .ref a_t_plan_set, .ref a_t_plan_chances, .int (z4 o11.2.1), .int (z4 o11.2.2.1)])), (a_p2, .inr (4, [.int (z4 p2_rules), .ref a_p2_least, .ref a_p2_of, .ref a_p2_set, .ref a_p2_chances, .int (z4 p2_slack), .int (z4 p2_limit)])), (a_p2_least, .inl (E 0, 3, .inl (A4 p2_least))), (a_t_plan_least, .inl (E 0, 3, .inl (A4 o11.2.2.2.1))), (a_p2_of, .inl (E 0, 3, .inl (A4 p2_of))), (a_t_plan_of, .inl (E 0, 3, .inl (A4 o11.2.2.2.2.1))), (a_p2_set, .inl (E 0, 3, .inl (A4 p2_set))), (a_t_plan_set, .inl (E 0, 3, .inl (A4 o11.2.2.2.2.2.1))), (a_p2_chances, .inl (E 0, 5, .inl (A4 p2_chances))), (a_t_plan_chances, .inl (E 0, 5, .inl (A4 o11.2.2.2.2.2.2))), (a_p1, .inr (1, [.ref a_p1_plan, .int (z4 p1_pasts), .ref a_p1_leads, .ref a_p1_part, .ref a_p1_finer, .ref a_p1_keys, .ref a_p1_stateOfPart, .ref a_p1_pastOfState, .int (z4 p1_states), .ref a_p1_steps, .ref a_p1_away])), (a_t_lines, .inl (E 4, 64, .inr (.inr (.inr (.inr (OG t_lines_g)))))), (a_p1_steps, .inl (E 0, 320, .inl (A4 p1_steps))), (a_t_columns, .inl (E 0, 65, .inl (A4 t_columns))), (a_t_numbers, .inl (E 0, 64, .inl (A4 t_numbers)))] ++ va_pl L_ (GP E t_lines_pr)) rfl dX2_fit_40 (fun H locs hP hD hS => ?_)
      refine lv_aload_n hx hb dX2_fit_43 rfl (lv_at hl 0 rfl) ?_
      refine lv_aload_n hx hb dX2_fit_44 rfl (lv_at hl 1 rfl) ?_
      obtain ⟨o12, ho, hf⟩ := bd_some hf
      refine m_cVWq X hK hP hD hS hA (wr := [(a_p2, .inr (4, [.int (z4 p2_rules), .ref a_p2_least, .ref a_p2_of, .ref a_p2_set, .ref a_p2_chances, .int (z4 p2_slack), .int (z4 p2_limit)])), (a_p2_least, .inl (E 0, 3, .inl (A4 p2_least))), (a_t_plan_least, .inl (E 0, 3, .inl (A4 o11.2.2.2.1))), (a_p2_of, .inl (E 0, 3, .inl (A4 p2_of))), (a_t_plan_of, .inl (E 0, 3, .inl (A4 o11.2.2.2.2.1))), (a_p2_set, .inl (E 0, 3, .inl (A4 p2_set))), (a_t_plan_set, .inl (E 0, 3, .inl (A4 o11.2.2.2.2.2.1))), (a_p2_chances, .inl (E 0, 5, .inl (A4 p2_chances))), (a_t_columns, .inl (E 0, 65, .inl (A4 t_columns))), (a_t_numbers, .inl (E 0, 64, .inl (A4 t_numbers)))]) (k_X2_setUp n a_t a_t_plan a_t_lines a_t_columns a_t_numbers a_p1 a_p1_plan a_p1_leads a_p1_part a_p1_finer a_p1_keys a_p1_stateOfPart a_p1_pastOfState a_p1_steps a_p1_away a_t_plan_least a_t_plan_of a_t_plan_set a_t_plan_chances L_ 1 t_size t_known p1_pasts p1_states t_lines_g t_lines_pr p1_steps o11.1 o11.2.1 o11.2.2.1 o11.2.2.2.2.2.2 o12 ho) [0, 11, 12, 13, 1, 10] [2, 3, 4, 5, 6, 7, 8, 9, 14, 15] [10, 14, 0, 1, 2, 3, 4, 5, 6, 7, 15, 11, 12, 13, 8, 9] [(a_t, .inr (2, [.ref a_t_plan, .int (z4 1), .int (z4 o12.1), .ref a_t_lines, .ref a_t_columns, .ref a_t_numbers, .int (z4 t_known)])), (a_t_plan, .inr (4, [.int (z4 o11.1), .ref a_t_plan_least, .ref a_t_plan_of, .ref a_t_plan_set, .ref a_t_plan_chances, .int (z4 o11.2.1), .int (z4 o11.2.2.1)])), (a_p2, .inr (4, [.int (z4 p2_rules), .ref a_p2_least, .ref a_p2_of, .ref a_p2_set, .ref a_p2_chances, .int (z4 p2_slack), .int (z4 p2_limit)])), (a_p2_least, .inl (E 0, 3, .inl (A4 p2_least))), (a_t_plan_least, .inl (E 0, 3, .inl (A4 o11.2.2.2.1))), (a_p2_of, .inl (E 0, 3, .inl (A4 p2_of))), (a_t_plan_of, .inl (E 0, 3, .inl (A4 o11.2.2.2.2.1))), (a_p2_set, .inl (E 0, 3, .inl (A4 p2_set))), (a_t_plan_set, .inl (E 0, 3, .inl (A4 o11.2.2.2.2.2.1))), (a_p2_chances, .inl (E 0, 5, .inl (A4 p2_chances))), (a_t_plan_chances, .inl (E 0, 5, .inl (A4 o11.2.2.2.2.2.2))), (a_p1, .inr (1, [.ref a_p1_plan, .int (z4 p1_pasts), .ref a_p1_leads, .ref a_p1_part, .ref a_p1_finer, .ref a_p1_keys, .ref a_p1_stateOfPart, .ref a_p1_pastOfState, .int (z4 p1_states), .ref a_p1_steps, .ref a_p1_away])), (a_t_lines, .inl (E 4, 64, .inr (.inr (.inr (.inr (OG o12.2.1)))))), (a_p1_steps, .inl (E 0, 320, .inl (A4 p1_steps))), (a_t_columns, .inl (E 0, 65, .inl (A4 t_columns))), (a_t_numbers, .inl (E 0, 64, .inl (A4 t_numbers)))] rfl rfl rfl rfl (by decide) rfl rfl rfl cl_X2 lk_X2_48 co_X2_setUp dy_X2_setUp rfl rfl ⟨Nat.le_of_ble_eq_true rfl, Nat.le_of_ble_eq_true rfl⟩ hl.1 rfl (Nat.le_of_ble_eq_true rfl) dX2_fit_45 (Nat.zero_le _) (Nat.zero_le _) (fun H locs hP hD hS => ?_)
      refine lv_aload_n hx hb dX2_fit_48 rfl (lv_at hl 0 rfl) ?_
      refine lv_aload_n hx hb dX2_fit_49 rfl (lv_at hl 0 rfl) ?_
      obtain ⟨o13, ho, hf⟩ := bd_some hf
      refine m_cVWq X hK hP hD hS hA (wr := [(a_t_plan, .inr (4, [.int (z4 o11.1), .ref a_t_plan_least, .ref a_t_plan_of, .ref a_t_plan_set, .ref a_t_plan_chances, .int (z4 o11.2.1), .int (z4 o11.2.2.1)])), (a_p2, .inr (4, [.int (z4 p2_rules), .ref a_p2_least, .ref a_p2_of, .ref a_p2_set, .ref a_p2_chances, .int (z4 p2_slack), .int (z4 p2_limit)])), (a_p2_least, .inl (E 0, 3, .inl (A4 p2_least))), (a_t_plan_least, .inl (E 0, 3, .inl (A4 o11.2.2.2.1))), (a_p2_of, .inl (E 0, 3, .inl (A4 p2_of))), (a_t_plan_of, .inl (E 0, 3, .inl (A4 o11.2.2.2.2.1))), (a_p2_set, .inl (E 0, 3, .inl (A4 p2_set))), (a_t_plan_set, .inl (E 0, 3, .inl (A4 o11.2.2.2.2.2.1))), (a_p2_chances, .inl (E 0, 5, .inl (A4 p2_chances))), (a_t_plan_chances, .inl (E 0, 5, .inl (A4 o11.2.2.2.2.2.2))), (a_p1, .inr (1, [.ref a_p1_plan, .int (z4 p1_pasts), .ref a_p1_leads, .ref a_p1_part, .ref a_p1_finer, .ref a_p1_keys, .ref a_p1_stateOfPart, .ref a_p1_pastOfState, .int (z4 p1_states), .ref a_p1_steps, .ref a_p1_away])), (a_p1_steps, .inl (E 0, 320, .inl (A4 p1_steps))), (a_t_numbers, .inl (E 0, 64, .inl (A4 t_numbers)))]) (k_X2_eliminate n a_t a_t_plan a_t_lines a_t_columns a_t_numbers L_ 1 o12.1 t_known o12.2.1 o12.2.2 t_columns o13 ho) [0, 12, 14] [1, 2, 3, 4, 5, 6, 7, 8, 9, 10, 11, 13, 15] [13, 0, 1, 2, 3, 4, 5, 6, 7, 8, 9, 10, 14, 11, 15, 12] [(a_t, .inr (2, [.ref a_t_plan, .int (z4 1), .int (z4 o12.1), .ref a_t_lines, .ref a_t_columns, .ref a_t_numbers, .int (z4 t_known)])), (a_t_plan, .inr (4, [.int (z4 o11.1), .ref a_t_plan_least, .ref a_t_plan_of, .ref a_t_plan_set, .ref a_t_plan_chances, .int (z4 o11.2.1), .int (z4 o11.2.2.1)])), (a_p2, .inr (4, [.int (z4 p2_rules), .ref a_p2_least, .ref a_p2_of, .ref a_p2_set, .ref a_p2_chances, .int (z4 p2_slack), .int (z4 p2_limit)])), (a_p2_least, .inl (E 0, 3, .inl (A4 p2_least))), (a_t_plan_least, .inl (E 0, 3, .inl (A4 o11.2.2.2.1))), (a_p2_of, .inl (E 0, 3, .inl (A4 p2_of))), (a_t_plan_of, .inl (E 0, 3, .inl (A4 o11.2.2.2.2.1))), (a_p2_set, .inl (E 0, 3, .inl (A4 p2_set))), (a_t_plan_set, .inl (E 0, 3, .inl (A4 o11.2.2.2.2.2.1))), (a_p2_chances, .inl (E 0, 5, .inl (A4 p2_chances))), (a_t_plan_chances, .inl (E 0, 5, .inl (A4 o11.2.2.2.2.2.2))), (a_p1, .inr (1, [.ref a_p1_plan, .int (z4 p1_pasts), .ref a_p1_leads, .ref a_p1_part, .ref a_p1_finer, .ref a_p1_keys, .ref a_p1_stateOfPart, .ref a_p1_pastOfState, .int (z4 p1_states), .ref a_p1_steps, .ref a_p1_away])), (a_t_lines, .inl (E 4, 64, .inr (.inr (.inr (.inr (OG o13.2.1)))))), (a_p1_steps, .inl (E 0, 320, .inl (A4 p1_steps))), (a_t_columns, .inl (E 0, 65, .inl (A4 o13.2.2.2))), (a_t_numbers, .inl (E 0, 64, .inl (A4 t_numbers)))] rfl rfl rfl rfl (by decide) rfl rfl rfl cl_X2 lk_X2_52 co_X2_eliminate dy_X2_eliminate rfl rfl ⟨Nat.le_of_ble_eq_true rfl, Nat.le_of_ble_eq_true rfl⟩ hl.1 rfl (Nat.le_of_ble_eq_true rfl) dX2_fit_50 (Nat.zero_le _) (Nat.zero_le _) (fun H locs hP hD hS => ?_)
      obtain ⟨h14, hf⟩ := ck_some hf
      refine m_put X hK hP hD hS cl_X2 iT_X2 tyX2 tyX2_ok nmX2 6 (by decide) fl_X2_34 rfl 0 rfl (nb_ h14) (nf_ h14) (Nat.le_of_ble_eq_true rfl) ([(a_t, .inr (2, [.ref a_t_plan, .int (z4 1), .int (z4 o12.1), .ref a_t_lines, .ref a_t_columns, .ref a_t_numbers, .int (z4 o13.1)])), (a_t_plan, .inr (4, [.int (z4 o11.1), .ref a_t_plan_least, .ref a_t_plan_of, .ref a_t_plan_set, .ref a_t_plan_chances, .int (z4 o11.2.1), .int (z4 o11.2.2.1)])), (a_p2, .inr (4, [.int (z4 p2_rules), .ref a_p2_least, .ref a_p2_of, .ref a_p2_set, .ref a_p2_chances, .int (z4 p2_slack), .int (z4 p2_limit)])), (a_p2_least, .inl (E 0, 3, .inl (A4 p2_least))), (a_t_plan_least, .inl (E 0, 3, .inl (A4 o11.2.2.2.1))), (a_p2_of, .inl (E 0, 3, .inl (A4 p2_of))), (a_t_plan_of, .inl (E 0, 3, .inl (A4 o11.2.2.2.2.1))), (a_p2_set, .inl (E 0, 3, .inl (A4 p2_set))), (a_t_plan_set, .inl (E 0, 3, .inl (A4 o11.2.2.2.2.2.1))), (a_p2_chances, .inl (E 0, 5, .inl (A4 p2_chances))), (a_t_plan_chances, .inl (E 0, 5, .inl (A4 o11.2.2.2.2.2.2))), (a_p1, .inr (1, [.ref a_p1_plan, .int (z4 p1_pasts), .ref a_p1_leads, .ref a_p1_part, .ref a_p1_finer, .ref a_p1_keys, .ref a_p1_stateOfPart, .ref a_p1_pastOfState, .int (z4 p1_states), .ref a_p1_steps, .ref a_p1_away])), (a_t_lines, .inl (E 4, 64, .inr (.inr (.inr (.inr (OG o13.2.1)))))), (a_p1_steps, .inl (E 0, 320, .inl (A4 p1_steps))), (a_t_columns, .inl (E 0, 65, .inl (A4 o13.2.2.2))), (a_t_numbers, .inl (E 0, 64, .inl (A4 t_numbers)))] ++ va_pl L_ (GP E o13.2.2.1)) rfl dX2_fit_53 (fun H locs hP hD hS => ?_)
      refine lv_aload_n hx hb dX2_fit_56 rfl (lv_at hl 0 rfl) ?_
      refine m_get X hK hP cl_X2 iT_X2 6 (by decide) fl_X2_34 0 rfl rfl dX2_fit_57 ?_
      obtain ⟨o15, hj15, hr15⟩ := bd_some hf
      have J15 : ∀ (o_ : (Nat → Int)), o15 = o_ → ∀ (H : Heap) (locs : List Loc) (ls : Array Slot), lv_has ls 3 [] → va_P D vwCl ([(a_t, .inr (2, [.ref a_t_plan, .int (z4 1), .int (z4 o12.1), .ref a_t_lines, .ref a_t_columns, .ref a_t_numbers, .int (z4 o13.1)])), (a_t_plan, .inr (4, [.int (z4 o11.1), .ref a_t_plan_least, .ref a_t_plan_of, .ref a_t_plan_set, .ref a_t_plan_chances, .int (z4 o11.2.1), .int (z4 o11.2.2.1)])), (a_p2, .inr (4, [.int (z4 p2_rules), .ref a_p2_least, .ref a_p2_of, .ref a_p2_set, .ref a_p2_chances, .int (z4 p2_slack), .int (z4 p2_limit)])), (a_p2_least, .inl (E 0, 3, .inl (A4 p2_least))), (a_t_plan_least, .inl (E 0, 3, .inl (A4 o11.2.2.2.1))), (a_p2_of, .inl (E 0, 3, .inl (A4 p2_of))), (a_t_plan_of, .inl (E 0, 3, .inl (A4 o11.2.2.2.2.1))), (a_p2_set, .inl (E 0, 3, .inl (A4 p2_set))), (a_t_plan_set, .inl (E 0, 3, .inl (A4 o11.2.2.2.2.2.1))), (a_p2_chances, .inl (E 0, 5, .inl (A4 p2_chances))), (a_t_plan_chances, .inl (E 0, 5, .inl (A4 o11.2.2.2.2.2.2))), (a_p1, .inr (1, [.ref a_p1_plan, .int (z4 p1_pasts), .ref a_p1_leads, .ref a_p1_part, .ref a_p1_finer, .ref a_p1_keys, .ref a_p1_stateOfPart, .ref a_p1_pastOfState, .int (z4 p1_states), .ref a_p1_steps, .ref a_p1_away])), (a_t_lines, .inl (E 4, 64, .inr (.inr (.inr (.inr (OG o13.2.1)))))), (a_p1_steps, .inl (E 0, 320, .inl (A4 p1_steps))), (a_t_columns, .inl (E 0, 65, .inl (A4 o13.2.2.2))), (a_t_numbers, .inl (E 0, 64, .inl (A4 o_)))] ++ va_pl L_ (GP E o13.2.2.1)) H → va_D A ([(a_t, .inr (2, [.ref a_t_plan, .int (z4 1), .int (z4 o12.1), .ref a_t_lines, .ref a_t_columns, .ref a_t_numbers, .int (z4 o13.1)])), (a_t_plan, .inr (4, [.int (z4 o11.1), .ref a_t_plan_least, .ref a_t_plan_of, .ref a_t_plan_set, .ref a_t_plan_chances, .int (z4 o11.2.1), .int (z4 o11.2.2.1)])), (a_p2, .inr (4, [.int (z4 p2_rules), .ref a_p2_least, .ref a_p2_of, .ref a_p2_set, .ref a_p2_chances, .int (z4 p2_slack), .int (z4 p2_limit)])), (a_p2_least, .inl (E 0, 3, .inl (A4 p2_least))), (a_t_plan_least, .inl (E 0, 3, .inl (A4 o11.2.2.2.1))), (a_p2_of, .inl (E 0, 3, .inl (A4 p2_of))), (a_t_plan_of, .inl (E 0, 3, .inl (A4 o11.2.2.2.2.1))), (a_p2_set, .inl (E 0, 3, .inl (A4 p2_set))), (a_t_plan_set, .inl (E 0, 3, .inl (A4 o11.2.2.2.2.2.1))), (a_p2_chances, .inl (E 0, 5, .inl (A4 p2_chances))), (a_t_plan_chances, .inl (E 0, 5, .inl (A4 o11.2.2.2.2.2.2))), (a_p1, .inr (1, [.ref a_p1_plan, .int (z4 p1_pasts), .ref a_p1_leads, .ref a_p1_part, .ref a_p1_finer, .ref a_p1_keys, .ref a_p1_stateOfPart, .ref a_p1_pastOfState, .int (z4 p1_states), .ref a_p1_steps, .ref a_p1_away])), (a_t_lines, .inl (E 4, 64, .inr (.inr (.inr (.inr (OG o13.2.1)))))), (a_p1_steps, .inl (E 0, 320, .inl (A4 p1_steps))), (a_t_columns, .inl (E 0, 65, .inl (A4 o13.2.2.2))), (a_t_numbers, .inl (E 0, 64, .inl (A4 o_)))] ++ va_pl L_ (GP E o13.2.2.1)) → va_S A s.heap H locs → W p l e rm_X2_fit s m args below meth c H locs 0 0 Q (F0 m 67 ls []) := by
        intro o_ ho_ H locs ls hl hP hD hS
        subst ho_
        obtain rfl := Option.some.inj hr15
        exact ret _ _ _ _ hP hD hS dX2_fit_67
      obtain ⟨h16, hj15⟩ := ck_some hj15
      refine m_if_eq X h16 dX2_fit_60 (tgt := 67) (by decide) (fun (hc_ : o13.1 = 0) => ?_) (fun (hc_ : ¬ (o13.1 = 0)) => ?_)
      · rw [if_pos hc_] at hj15
        exact J15 _ (Option.some.inj hj15).symm _ _ _ (lv_sub hl [] rfl) hP hD hS
      · rw [if_neg hc_] at hj15
        refine lv_aload_n hx hb dX2_fit_63 rfl (lv_at hl 0 rfl) ?_
        obtain ⟨o17, ho, hj15⟩ := bd_some hj15
        refine m_cVWq X hK hP hD hS hA (wr := [(a_t_plan, .inr (4, [.int (z4 o11.1), .ref a_t_plan_least, .ref a_t_plan_of, .ref a_t_plan_set, .ref a_t_plan_chances, .int (z4 o11.2.1), .int (z4 o11.2.2.1)])), (a_p2, .inr (4, [.int (z4 p2_rules), .ref a_p2_least, .ref a_p2_of, .ref a_p2_set, .ref a_p2_chances, .int (z4 p2_slack), .int (z4 p2_limit)])), (a_p2_least, .inl (E 0, 3, .inl (A4 p2_least))), (a_t_plan_least, .inl (E 0, 3, .inl (A4 o11.2.2.2.1))), (a_p2_of, .inl (E 0, 3, .inl (A4 p2_of))), (a_t_plan_of, .inl (E 0, 3, .inl (A4 o11.2.2.2.2.1))), (a_p2_set, .inl (E 0, 3, .inl (A4 p2_set))), (a_t_plan_set, .inl (E 0, 3, .inl (A4 o11.2.2.2.2.2.1))), (a_p2_chances, .inl (E 0, 5, .inl (A4 p2_chances))), (a_t_plan_chances, .inl (E 0, 5, .inl (A4 o11.2.2.2.2.2.2))), (a_p1, .inr (1, [.ref a_p1_plan, .int (z4 p1_pasts), .ref a_p1_leads, .ref a_p1_part, .ref a_p1_finer, .ref a_p1_keys, .ref a_p1_stateOfPart, .ref a_p1_pastOfState, .int (z4 p1_states), .ref a_p1_steps, .ref a_p1_away])), (a_p1_steps, .inl (E 0, 320, .inl (A4 p1_steps))), (a_t_columns, .inl (E 0, 65, .inl (A4 o13.2.2.2)))]) (k_X2_fillIn n a_t a_t_plan a_t_lines a_t_columns a_t_numbers L_ 1 o12.1 o13.1 o13.2.1 o13.2.2.1 t_numbers o17 ho) [0, 12, 15] [1, 2, 3, 4, 5, 6, 7, 8, 9, 10, 11, 13, 14] [13, 0, 1, 2, 3, 4, 5, 6, 7, 8, 9, 10, 14, 11, 12, 15] [(a_t, .inr (2, [.ref a_t_plan, .int (z4 1), .int (z4 o12.1), .ref a_t_lines, .ref a_t_columns, .ref a_t_numbers, .int (z4 o13.1)])), (a_t_plan, .inr (4, [.int (z4 o11.1), .ref a_t_plan_least, .ref a_t_plan_of, .ref a_t_plan_set, .ref a_t_plan_chances, .int (z4 o11.2.1), .int (z4 o11.2.2.1)])), (a_p2, .inr (4, [.int (z4 p2_rules), .ref a_p2_least, .ref a_p2_of, .ref a_p2_set, .ref a_p2_chances, .int (z4 p2_slack), .int (z4 p2_limit)])), (a_p2_least, .inl (E 0, 3, .inl (A4 p2_least))), (a_t_plan_least, .inl (E 0, 3, .inl (A4 o11.2.2.2.1))), (a_p2_of, .inl (E 0, 3, .inl (A4 p2_of))), (a_t_plan_of, .inl (E 0, 3, .inl (A4 o11.2.2.2.2.1))), (a_p2_set, .inl (E 0, 3, .inl (A4 p2_set))), (a_t_plan_set, .inl (E 0, 3, .inl (A4 o11.2.2.2.2.2.1))), (a_p2_chances, .inl (E 0, 5, .inl (A4 p2_chances))), (a_t_plan_chances, .inl (E 0, 5, .inl (A4 o11.2.2.2.2.2.2))), (a_p1, .inr (1, [.ref a_p1_plan, .int (z4 p1_pasts), .ref a_p1_leads, .ref a_p1_part, .ref a_p1_finer, .ref a_p1_keys, .ref a_p1_stateOfPart, .ref a_p1_pastOfState, .int (z4 p1_states), .ref a_p1_steps, .ref a_p1_away])), (a_t_lines, .inl (E 4, 64, .inr (.inr (.inr (.inr (OG o13.2.1)))))), (a_p1_steps, .inl (E 0, 320, .inl (A4 p1_steps))), (a_t_columns, .inl (E 0, 65, .inl (A4 o13.2.2.2))), (a_t_numbers, .inl (E 0, 64, .inl (A4 o17)))] rfl rfl rfl rfl (by decide) rfl rfl rfl cl_X2 lk_X2_56 co_X2_fillIn dy_X2_fillIn rfl rfl ⟨Nat.le_of_ble_eq_true rfl, Nat.le_of_ble_eq_true rfl⟩ hl.1 rfl (Nat.le_of_ble_eq_true rfl) dX2_fit_64 (Nat.zero_le _) (Nat.zero_le _) (fun H locs hP hD hS => ?_)
        exact J15 _ (Option.some.inj hj15).symm _ _ _ (lv_sub hl [] rfl) hP hD hS
    · rw [if_neg hc_] at hf
      refine lv_aload_n hx hb dX2_fit_18 rfl (lv_at hl 0 rfl) ?_
      refine m_get X hK hP cl_X2 iT_X2 0 (by decide) fl_X2_12 0 rfl rfl dX2_fit_19 ?_
      refine lv_aload_n hx hb dX2_fit_22 rfl (lv_at hl 2 rfl) ?_
      obtain ⟨o18, ho, hf⟩ := bd_some hf
      refine m_cVR X hK (k_X4_hasChancesOf n a_t_plan a_t_plan_least a_t_plan_of a_t_plan_set a_t_plan_chances a_p2 a_p2_least a_p2_of a_p2_set a_p2_chances t_plan_rules t_plan_slack t_plan_limit t_plan_chances p2_rules p2_slack p2_limit p2_chances o18 ho) (hP.sub [1, 10, 2, 9] rfl) rfl cl_X4 lk_X2_41 co_X4_hasChancesOf dy_X4_hasChancesOf rfl rfl ⟨Nat.le_of_ble_eq_true rfl, Nat.le_of_ble_eq_true rfl⟩ hl.1 rfl (Nat.le_of_ble_eq_true rfl) dX2_fit_23 (Nat.zero_le _) (Nat.zero_le _) ?_
      obtain ⟨h19, hf⟩ := ck_some hf
      refine m_if_eq X h19 dX2_fit_26 (tgt := 30) (by decide) (fun (hc_ : o18 = 0) => ?_) (fun (hc_ : ¬ (o18 = 0)) => ?_)
      · rw [if_pos hc_] at hf
        refine lv_aload_n hx hb dX2_fit_30 rfl (lv_at hl 0 rfl) ?_
        refine m_get X hK hP cl_X2 iT_X2 0 (by decide) fl_X2_12 0 rfl rfl dX2_fit_31 ?_
        refine lv_aload_n hx hb dX2_fit_34 rfl (lv_at hl 2 rfl) ?_
        obtain ⟨o20, ho, hf⟩ := bd_some hf
        refine m_cVWp X hK hP hD hS hA (wr := [(a_t, .inr (2, [.ref a_t_plan, .int (z4 t_solved), .int (z4 t_size), .ref a_t_lines, .ref a_t_columns, .ref a_t_numbers, .int (z4 t_known)])), (a_p1, .inr (1, [.ref a_p1_plan, .int (z4 p1_pasts), .ref a_p1_leads, .ref a_p1_part, .ref a_p1_finer, .ref a_p1_keys, .ref a_p1_stateOfPart, .ref a_p1_pastOfState, .int (z4 p1_states), .ref a_p1_steps, .ref a_p1_away])), (a_t_lines, .inl (E 4, 64, .inr (.inr (.inr (.inr (OG t_lines_g)))))), (a_p1_steps, .inl (E 0, 320, .inl (A4 p1_steps))), (a_t_columns, .inl (E 0, 65, .inl (A4 t_columns))), (a_t_numbers, .inl (E 0, 64, .inl (A4 t_numbers)))]) (k_X4_take n a_t_plan a_t_plan_least a_t_plan_of a_t_plan_set a_t_plan_chances a_p2 a_p2_least a_p2_of a_p2_set a_p2_chances t_plan_rules t_plan_slack t_plan_limit p2_rules p2_slack p2_limit p2_least t_plan_least p2_of t_plan_of p2_set t_plan_set p2_chances t_plan_chances o20 ho) [1, 2, 3, 4, 5, 6, 7, 8, 9, 10] [0, 11, 12, 13, 14, 15] [0, 6, 7, 8, 9, 10, 11, 12, 13, 14, 15, 1, 2, 3, 4, 5] [(a_t, .inr (2, [.ref a_t_plan, .int (z4 t_solved), .int (z4 t_size), .ref a_t_lines, .ref a_t_columns, .ref a_t_numbers, .int (z4 t_known)])), (a_t_plan, .inr (4, [.int (z4 o20.1), .ref a_t_plan_least, .ref a_t_plan_of, .ref a_t_plan_set, .ref a_t_plan_chances, .int (z4 o20.2.1), .int (z4 o20.2.2.1)])), (a_p2, .inr (4, [.int (z4 p2_rules), .ref a_p2_least, .ref a_p2_of, .ref a_p2_set, .ref a_p2_chances, .int (z4 p2_slack), .int (z4 p2_limit)])), (a_p2_least, .inl (E 0, 3, .inl (A4 p2_least))), (a_t_plan_least, .inl (E 0, 3, .inl (A4 o20.2.2.2.1))), (a_p2_of, .inl (E 0, 3, .inl (A4 p2_of))), (a_t_plan_of, .inl (E 0, 3, .inl (A4 o20.2.2.2.2.1))), (a_p2_set, .inl (E 0, 3, .inl (A4 p2_set))), (a_t_plan_set, .inl (E 0, 3, .inl (A4 o20.2.2.2.2.2.1))), (a_p2_chances, .inl (E 0, 5, .inl (A4 p2_chances))), (a_t_plan_chances, .inl (E 0, 5, .inl (A4 o20.2.2.2.2.2.2))), (a_p1, .inr (1, [.ref a_p1_plan, .int (z4 p1_pasts), .ref a_p1_leads, .ref a_p1_part, .ref a_p1_finer, .ref a_p1_keys, .ref a_p1_stateOfPart, .ref a_p1_pastOfState, .int (z4 p1_states), .ref a_p1_steps, .ref a_p1_away])), (a_t_lines, .inl (E 4, 64, .inr (.inr (.inr (.inr (OG t_lines_g)))))), (a_p1_steps, .inl (E 0, 320, .inl (A4 p1_steps))), (a_t_columns, .inl (E 0, 65, .inl (A4 t_columns))), (a_t_numbers, .inl (E 0, 64, .inl (A4 t_numbers)))] rfl rfl rfl rfl (by decide) rfl rfl rfl cl_X4 lk_X2_44 co_X4_take dy_X4_take rfl rfl ⟨Nat.le_of_ble_eq_true rfl, Nat.le_of_ble_eq_true rfl⟩ hl.1 rfl (Nat.le_of_ble_eq_true rfl) dX2_fit_35 (Nat.zero_le _) (Nat.zero_le _) (fun H locs hP hD hS => ?_)
        refine lv_aload_n hx hb dX2_fit_38 rfl (lv_at hl 0 rfl) ?_
        refine m_iconst X dX2_fit_39 ?_
        refine m_put X hK hP hD hS cl_X2 iT_X2 tyX2 tyX2_ok nmX2 1 (by decide) fl_X2_18 rfl 0 rfl rfl rfl (Nat.le_of_ble_eq_true rfl) ([(a_t, .inr (2, [.ref a_t_plan, .int (z4 1), .int (z4 t_size), .ref a_t_lines, .ref a_t_columns, .ref a_t_numbers, .int (z4 t_known)])), (a_t_plan, .inr (4, [.int (z4 o20.1), .ref a_t_plan_least, .ref a_t_plan_of, .ref a_t_plan_set, .ref a_t_plan_chances, .int (z4 o20.2.1), .int (z4 o20.2.2.1)])), (a_p2, .inr (4, [.int (z4 p2_rules), .ref a_p2_least, .ref a_p2_of, .ref a_p2_set, .ref a_p2_chances, .int (z4 p2_slack), .int (z4 p2_limit)])), (a_p2_least, .inl (E 0, 3, .inl (A4 p2_least))), (a_t_plan_least, .inl (E 0, 3, .inl (A4 o20.2.2.2.1))), (a_p2_of, .inl (E 0, 3, .inl (A4 p2_of))), (a_t_plan_of, .inl (E 0, 3, .inl (A4 o20.2.2.2.2.1))), (a_p2_set, .inl (E 0, 3, .inl (A4 p2_set))), (a_t_plan_set, .inl (E 0, 3, .inl (A4 o20.2.2.2.2.2.1))), (a_p2_chances, .inl (E 0, 5, .inl (A4 p2_chances))), (a_t_plan_chances, .inl (E 0, 5, .inl (A4 o20.2.2.2.2.2.2))), (a_p1, .inr (1, [.ref a_p1_plan, .int (z4 p1_pasts), .ref a_p1_leads, .ref a_p1_part, .ref a_p1_finer, .ref a_p1_keys, .ref a_p1_stateOfPart, .ref a_p1_pastOfState, .int (z4 p1_states), .ref a_p1_steps, .ref a_p1_away])), (a_t_lines, .inl (E 4, 64, .inr (.inr (.inr (.inr (OG t_lines_g)))))), (a_p1_steps, .inl (E 0, 320, .inl (A4 p1_steps))), (a_t_columns, .inl (E 0, 65, .inl (A4 t_columns))), (a_t_numbers, .inl (E 0, 64, .inl (A4 t_numbers)))] ++ va_pl L_ (GP E t_lines_pr)) rfl dX2_fit_40 (fun H locs hP hD hS => ?_)
        refine lv_aload_n hx hb dX2_fit_43 rfl (lv_at hl 0 rfl) ?_
        refine lv_aload_n hx hb dX2_fit_44 rfl (lv_at hl 1 rfl) ?_
        obtain ⟨o21, ho, hf⟩ := bd_some hf
        refine m_cVWq X hK hP hD hS hA (wr := [(a_p2, .inr (4, [.int (z4 p2_rules), .ref a_p2_least, .ref a_p2_of, .ref a_p2_set, .ref a_p2_chances, .int (z4 p2_slack), .int (z4 p2_limit)])), (a_p2_least, .inl (E 0, 3, .inl (A4 p2_least))), (a_t_plan_least, .inl (E 0, 3, .inl (A4 o20.2.2.2.1))), (a_p2_of, .inl (E 0, 3, .inl (A4 p2_of))), (a_t_plan_of, .inl (E 0, 3, .inl (A4 o20.2.2.2.2.1))), (a_p2_set, .inl (E 0, 3, .inl (A4 p2_set))), (a_t_plan_set, .inl (E 0, 3, .inl (A4 o20.2.2.2.2.2.1))), (a_p2_chances, .inl (E 0, 5, .inl (A4 p2_chances))), (a_t_columns, .inl (E 0, 65, .inl (A4 t_columns))), (a_t_numbers, .inl (E 0, 64, .inl (A4 t_numbers)))]) (k_X2_setUp n a_t a_t_plan a_t_lines a_t_columns a_t_numbers a_p1 a_p1_plan a_p1_leads a_p1_part a_p1_finer a_p1_keys a_p1_stateOfPart a_p1_pastOfState a_p1_steps a_p1_away a_t_plan_least a_t_plan_of a_t_plan_set a_t_plan_chances L_ 1 t_size t_known p1_pasts p1_states t_lines_g t_lines_pr p1_steps o20.1 o20.2.1 o20.2.2.1 o20.2.2.2.2.2.2 o21 ho) [0, 11, 12, 13, 1, 10] [2, 3, 4, 5, 6, 7, 8, 9, 14, 15] [10, 14, 0, 1, 2, 3, 4, 5, 6, 7, 15, 11, 12, 13, 8, 9] [(a_t, .inr (2, [.ref a_t_plan, .int (z4 1), .int (z4 o21.1), .ref a_t_lines, .ref a_t_columns, .ref a_t_numbers, .int (z4 t_known)])), (a_t_plan, .inr (4, [.int (z4 o20.1), .ref a_t_plan_least, .ref a_t_plan_of, .ref a_t_plan_set, .ref a_t_plan_chances, .int (z4 o20.2.1), .int (z4 o20.2.2.1)])), (a_p2, .inr (4, [.int (z4 p2_rules), .ref a_p2_least, .ref a_p2_of, .ref a_p2_set, .ref a_p2_chances, .int (z4 p2_slack), .int (z4 p2_limit)])), (a_p2_least, .inl (E 0, 3, .inl (A4 p2_least))), (a_t_plan_least, .inl (E 0, 3, .inl (A4 o20.2.2.2.1))), (a_p2_of, .inl (E 0, 3, .inl (A4 p2_of))), (a_t_plan_of, .inl (E 0, 3, .inl (A4 o20.2.2.2.2.1))), (a_p2_set, .inl (E 0, 3, .inl (A4 p2_set))), (a_t_plan_set, .inl (E 0, 3, .inl (A4 o20.2.2.2.2.2.1))), (a_p2_chances, .inl (E 0, 5, .inl (A4 p2_chances))), (a_t_plan_chances, .inl (E 0, 5, .inl (A4 o20.2.2.2.2.2.2))), (a_p1, .inr (1, [.ref a_p1_plan, .int (z4 p1_pasts), .ref a_p1_leads, .ref a_p1_part, .ref a_p1_finer, .ref a_p1_keys, .ref a_p1_stateOfPart, .ref a_p1_pastOfState, .int (z4 p1_states), .ref a_p1_steps, .ref a_p1_away])), (a_t_lines, .inl (E 4, 64, .inr (.inr (.inr (.inr (OG o21.2.1)))))), (a_p1_steps, .inl (E 0, 320, .inl (A4 p1_steps))), (a_t_columns, .inl (E 0, 65, .inl (A4 t_columns))), (a_t_numbers, .inl (E 0, 64, .inl (A4 t_numbers)))] rfl rfl rfl rfl (by decide) rfl rfl rfl cl_X2 lk_X2_48 co_X2_setUp dy_X2_setUp rfl rfl ⟨Nat.le_of_ble_eq_true rfl, Nat.le_of_ble_eq_true rfl⟩ hl.1 rfl (Nat.le_of_ble_eq_true rfl) dX2_fit_45 (Nat.zero_le _) (Nat.zero_le _) (fun H locs hP hD hS => ?_)
        refine lv_aload_n hx hb dX2_fit_48 rfl (lv_at hl 0 rfl) ?_
        refine lv_aload_n hx hb dX2_fit_49 rfl (lv_at hl 0 rfl) ?_
        obtain ⟨o22, ho, hf⟩ := bd_some hf
        refine m_cVWq X hK hP hD hS hA (wr := [(a_t_plan, .inr (4, [.int (z4 o20.1), .ref a_t_plan_least, .ref a_t_plan_of, .ref a_t_plan_set, .ref a_t_plan_chances, .int (z4 o20.2.1), .int (z4 o20.2.2.1)])), (a_p2, .inr (4, [.int (z4 p2_rules), .ref a_p2_least, .ref a_p2_of, .ref a_p2_set, .ref a_p2_chances, .int (z4 p2_slack), .int (z4 p2_limit)])), (a_p2_least, .inl (E 0, 3, .inl (A4 p2_least))), (a_t_plan_least, .inl (E 0, 3, .inl (A4 o20.2.2.2.1))), (a_p2_of, .inl (E 0, 3, .inl (A4 p2_of))), (a_t_plan_of, .inl (E 0, 3, .inl (A4 o20.2.2.2.2.1))), (a_p2_set, .inl (E 0, 3, .inl (A4 p2_set))), (a_t_plan_set, .inl (E 0, 3, .inl (A4 o20.2.2.2.2.2.1))), (a_p2_chances, .inl (E 0, 5, .inl (A4 p2_chances))), (a_t_plan_chances, .inl (E 0, 5, .inl (A4 o20.2.2.2.2.2.2))), (a_p1, .inr (1, [.ref a_p1_plan, .int (z4 p1_pasts), .ref a_p1_leads, .ref a_p1_part, .ref a_p1_finer, .ref a_p1_keys, .ref a_p1_stateOfPart, .ref a_p1_pastOfState, .int (z4 p1_states), .ref a_p1_steps, .ref a_p1_away])), (a_p1_steps, .inl (E 0, 320, .inl (A4 p1_steps))), (a_t_numbers, .inl (E 0, 64, .inl (A4 t_numbers)))]) (k_X2_eliminate n a_t a_t_plan a_t_lines a_t_columns a_t_numbers L_ 1 o21.1 t_known o21.2.1 o21.2.2 t_columns o22 ho) [0, 12, 14] [1, 2, 3, 4, 5, 6, 7, 8, 9, 10, 11, 13, 15] [13, 0, 1, 2, 3, 4, 5, 6, 7, 8, 9, 10, 14, 11, 15, 12] [(a_t, .inr (2, [.ref a_t_plan, .int (z4 1), .int (z4 o21.1), .ref a_t_lines, .ref a_t_columns, .ref a_t_numbers, .int (z4 t_known)])), (a_t_plan, .inr (4, [.int (z4 o20.1), .ref a_t_plan_least, .ref a_t_plan_of, .ref a_t_plan_set, .ref a_t_plan_chances, .int (z4 o20.2.1), .int (z4 o20.2.2.1)])), (a_p2, .inr (4, [.int (z4 p2_rules), .ref a_p2_least, .ref a_p2_of, .ref a_p2_set, .ref a_p2_chances, .int (z4 p2_slack), .int (z4 p2_limit)])), (a_p2_least, .inl (E 0, 3, .inl (A4 p2_least))), (a_t_plan_least, .inl (E 0, 3, .inl (A4 o20.2.2.2.1))), (a_p2_of, .inl (E 0, 3, .inl (A4 p2_of))), (a_t_plan_of, .inl (E 0, 3, .inl (A4 o20.2.2.2.2.1))), (a_p2_set, .inl (E 0, 3, .inl (A4 p2_set))), (a_t_plan_set, .inl (E 0, 3, .inl (A4 o20.2.2.2.2.2.1))), (a_p2_chances, .inl (E 0, 5, .inl (A4 p2_chances))), (a_t_plan_chances, .inl (E 0, 5, .inl (A4 o20.2.2.2.2.2.2))), (a_p1, .inr (1, [.ref a_p1_plan, .int (z4 p1_pasts), .ref a_p1_leads, .ref a_p1_part, .ref a_p1_finer, .ref a_p1_keys, .ref a_p1_stateOfPart, .ref a_p1_pastOfState, .int (z4 p1_states), .ref a_p1_steps, .ref a_p1_away])), (a_t_lines, .inl (E 4, 64, .inr (.inr (.inr (.inr (OG o22.2.1)))))), (a_p1_steps, .inl (E 0, 320, .inl (A4 p1_steps))), (a_t_columns, .inl (E 0, 65, .inl (A4 o22.2.2.2))), (a_t_numbers, .inl (E 0, 64, .inl (A4 t_numbers)))] rfl rfl rfl rfl (by decide) rfl rfl rfl cl_X2 lk_X2_52 co_X2_eliminate dy_X2_eliminate rfl rfl ⟨Nat.le_of_ble_eq_true rfl, Nat.le_of_ble_eq_true rfl⟩ hl.1 rfl (Nat.le_of_ble_eq_true rfl) dX2_fit_50 (Nat.zero_le _) (Nat.zero_le _) (fun H locs hP hD hS => ?_)
        obtain ⟨h23, hf⟩ := ck_some hf
        refine m_put X hK hP hD hS cl_X2 iT_X2 tyX2 tyX2_ok nmX2 6 (by decide) fl_X2_34 rfl 0 rfl (nb_ h23) (nf_ h23) (Nat.le_of_ble_eq_true rfl) ([(a_t, .inr (2, [.ref a_t_plan, .int (z4 1), .int (z4 o21.1), .ref a_t_lines, .ref a_t_columns, .ref a_t_numbers, .int (z4 o22.1)])), (a_t_plan, .inr (4, [.int (z4 o20.1), .ref a_t_plan_least, .ref a_t_plan_of, .ref a_t_plan_set, .ref a_t_plan_chances, .int (z4 o20.2.1), .int (z4 o20.2.2.1)])), (a_p2, .inr (4, [.int (z4 p2_rules), .ref a_p2_least, .ref a_p2_of, .ref a_p2_set, .ref a_p2_chances, .int (z4 p2_slack), .int (z4 p2_limit)])), (a_p2_least, .inl (E 0, 3, .inl (A4 p2_least))), (a_t_plan_least, .inl (E 0, 3, .inl (A4 o20.2.2.2.1))), (a_p2_of, .inl (E 0, 3, .inl (A4 p2_of))), (a_t_plan_of, .inl (E 0, 3, .inl (A4 o20.2.2.2.2.1))), (a_p2_set, .inl (E 0, 3, .inl (A4 p2_set))), (a_t_plan_set, .inl (E 0, 3, .inl (A4 o20.2.2.2.2.2.1))), (a_p2_chances, .inl (E 0, 5, .inl (A4 p2_chances))), (a_t_plan_chances, .inl (E 0, 5, .inl (A4 o20.2.2.2.2.2.2))), (a_p1, .inr (1, [.ref a_p1_plan, .int (z4 p1_pasts), .ref a_p1_leads, .ref a_p1_part, .ref a_p1_finer, .ref a_p1_keys, .ref a_p1_stateOfPart, .ref a_p1_pastOfState, .int (z4 p1_states), .ref a_p1_steps, .ref a_p1_away])), (a_t_lines, .inl (E 4, 64, .inr (.inr (.inr (.inr (OG o22.2.1)))))), (a_p1_steps, .inl (E 0, 320, .inl (A4 p1_steps))), (a_t_columns, .inl (E 0, 65, .inl (A4 o22.2.2.2))), (a_t_numbers, .inl (E 0, 64, .inl (A4 t_numbers)))] ++ va_pl L_ (GP E o22.2.2.1)) rfl dX2_fit_53 (fun H locs hP hD hS => ?_)
        refine lv_aload_n hx hb dX2_fit_56 rfl (lv_at hl 0 rfl) ?_
        refine m_get X hK hP cl_X2 iT_X2 6 (by decide) fl_X2_34 0 rfl rfl dX2_fit_57 ?_
        obtain ⟨o24, hj24, hr24⟩ := bd_some hf
        have J24 : ∀ (o_ : (Nat → Int)), o24 = o_ → ∀ (H : Heap) (locs : List Loc) (ls : Array Slot), lv_has ls 3 [] → va_P D vwCl ([(a_t, .inr (2, [.ref a_t_plan, .int (z4 1), .int (z4 o21.1), .ref a_t_lines, .ref a_t_columns, .ref a_t_numbers, .int (z4 o22.1)])), (a_t_plan, .inr (4, [.int (z4 o20.1), .ref a_t_plan_least, .ref a_t_plan_of, .ref a_t_plan_set, .ref a_t_plan_chances, .int (z4 o20.2.1), .int (z4 o20.2.2.1)])), (a_p2, .inr (4, [.int (z4 p2_rules), .ref a_p2_least, .ref a_p2_of, .ref a_p2_set, .ref a_p2_chances, .int (z4 p2_slack), .int (z4 p2_limit)])), (a_p2_least, .inl (E 0, 3, .inl (A4 p2_least))), (a_t_plan_least, .inl (E 0, 3, .inl (A4 o20.2.2.2.1))), (a_p2_of, .inl (E 0, 3, .inl (A4 p2_of))), (a_t_plan_of, .inl (E 0, 3, .inl (A4 o20.2.2.2.2.1))), (a_p2_set, .inl (E 0, 3, .inl (A4 p2_set))), (a_t_plan_set, .inl (E 0, 3, .inl (A4 o20.2.2.2.2.2.1))), (a_p2_chances, .inl (E 0, 5, .inl (A4 p2_chances))), (a_t_plan_chances, .inl (E 0, 5, .inl (A4 o20.2.2.2.2.2.2))), (a_p1, .inr (1, [.ref a_p1_plan, .int (z4 p1_pasts), .ref a_p1_leads, .ref a_p1_part, .ref a_p1_finer, .ref a_p1_keys, .ref a_p1_stateOfPart, .ref a_p1_pastOfState, .int (z4 p1_states), .ref a_p1_steps, .ref a_p1_away])), (a_t_lines, .inl (E 4, 64, .inr (.inr (.inr (.inr (OG o22.2.1)))))), (a_p1_steps, .inl (E 0, 320, .inl (A4 p1_steps))), (a_t_columns, .inl (E 0, 65, .inl (A4 o22.2.2.2))), (a_t_numbers, .inl (E 0, 64, .inl (A4 o_)))] ++ va_pl L_ (GP E o22.2.2.1)) H → va_D A ([(a_t, .inr (2, [.ref a_t_plan, .int (z4 1), .int (z4 o21.1), .ref a_t_lines, .ref a_t_columns, .ref a_t_numbers, .int (z4 o22.1)])), (a_t_plan, .inr (4, [.int (z4 o20.1), .ref a_t_plan_least, .ref a_t_plan_of, .ref a_t_plan_set, .ref a_t_plan_chances, .int (z4 o20.2.1), .int (z4 o20.2.2.1)])), (a_p2, .inr (4, [.int (z4 p2_rules), .ref a_p2_least, .ref a_p2_of, .ref a_p2_set, .ref a_p2_chances, .int (z4 p2_slack), .int (z4 p2_limit)])), (a_p2_least, .inl (E 0, 3, .inl (A4 p2_least))), (a_t_plan_least, .inl (E 0, 3, .inl (A4 o20.2.2.2.1))), (a_p2_of, .inl (E 0, 3, .inl (A4 p2_of))), (a_t_plan_of, .inl (E 0, 3, .inl (A4 o20.2.2.2.2.1))), (a_p2_set, .inl (E 0, 3, .inl (A4 p2_set))), (a_t_plan_set, .inl (E 0, 3, .inl (A4 o20.2.2.2.2.2.1))), (a_p2_chances, .inl (E 0, 5, .inl (A4 p2_chances))), (a_t_plan_chances, .inl (E 0, 5, .inl (A4 o20.2.2.2.2.2.2))), (a_p1, .inr (1, [.ref a_p1_plan, .int (z4 p1_pasts), .ref a_p1_leads, .ref a_p1_part, .ref a_p1_finer, .ref a_p1_keys, .ref a_p1_stateOfPart, .ref a_p1_pastOfState, .int (z4 p1_states), .ref a_p1_steps, .ref a_p1_away])), (a_t_lines, .inl (E 4, 64, .inr (.inr (.inr (.inr (OG o22.2.1)))))), (a_p1_steps, .inl (E 0, 320, .inl (A4 p1_steps))), (a_t_columns, .inl (E 0, 65, .inl (A4 o22.2.2.2))), (a_t_numbers, .inl (E 0, 64, .inl (A4 o_)))] ++ va_pl L_ (GP E o22.2.2.1)) → va_S A s.heap H locs → W p l e rm_X2_fit s m args below meth c H locs 0 0 Q (F0 m 67 ls []) := by
          intro o_ ho_ H locs ls hl hP hD hS
          subst ho_
          obtain rfl := Option.some.inj hr24
          exact ret _ _ _ _ hP hD hS dX2_fit_67
        obtain ⟨h25, hj24⟩ := ck_some hj24
        refine m_if_eq X h25 dX2_fit_60 (tgt := 67) (by decide) (fun (hc_ : o22.1 = 0) => ?_) (fun (hc_ : ¬ (o22.1 = 0)) => ?_)
        · rw [if_pos hc_] at hj24
          exact J24 _ (Option.some.inj hj24).symm _ _ _ (lv_sub hl [] rfl) hP hD hS
        · rw [if_neg hc_] at hj24
          refine lv_aload_n hx hb dX2_fit_63 rfl (lv_at hl 0 rfl) ?_
          obtain ⟨o26, ho, hj24⟩ := bd_some hj24
          refine m_cVWq X hK hP hD hS hA (wr := [(a_t_plan, .inr (4, [.int (z4 o20.1), .ref a_t_plan_least, .ref a_t_plan_of, .ref a_t_plan_set, .ref a_t_plan_chances, .int (z4 o20.2.1), .int (z4 o20.2.2.1)])), (a_p2, .inr (4, [.int (z4 p2_rules), .ref a_p2_least, .ref a_p2_of, .ref a_p2_set, .ref a_p2_chances, .int (z4 p2_slack), .int (z4 p2_limit)])), (a_p2_least, .inl (E 0, 3, .inl (A4 p2_least))), (a_t_plan_least, .inl (E 0, 3, .inl (A4 o20.2.2.2.1))), (a_p2_of, .inl (E 0, 3, .inl (A4 p2_of))), (a_t_plan_of, .inl (E 0, 3, .inl (A4 o20.2.2.2.2.1))), (a_p2_set, .inl (E 0, 3, .inl (A4 p2_set))), (a_t_plan_set, .inl (E 0, 3, .inl (A4 o20.2.2.2.2.2.1))), (a_p2_chances, .inl (E 0, 5, .inl (A4 p2_chances))), (a_t_plan_chances, .inl (E 0, 5, .inl (A4 o20.2.2.2.2.2.2))), (a_p1, .inr (1, [.ref a_p1_plan, .int (z4 p1_pasts), .ref a_p1_leads, .ref a_p1_part, .ref a_p1_finer, .ref a_p1_keys, .ref a_p1_stateOfPart, .ref a_p1_pastOfState, .int (z4 p1_states), .ref a_p1_steps, .ref a_p1_away])), (a_p1_steps, .inl (E 0, 320, .inl (A4 p1_steps))), (a_t_columns, .inl (E 0, 65, .inl (A4 o22.2.2.2)))]) (k_X2_fillIn n a_t a_t_plan a_t_lines a_t_columns a_t_numbers L_ 1 o21.1 o22.1 o22.2.1 o22.2.2.1 t_numbers o26 ho) [0, 12, 15] [1, 2, 3, 4, 5, 6, 7, 8, 9, 10, 11, 13, 14] [13, 0, 1, 2, 3, 4, 5, 6, 7, 8, 9, 10, 14, 11, 12, 15] [(a_t, .inr (2, [.ref a_t_plan, .int (z4 1), .int (z4 o21.1), .ref a_t_lines, .ref a_t_columns, .ref a_t_numbers, .int (z4 o22.1)])), (a_t_plan, .inr (4, [.int (z4 o20.1), .ref a_t_plan_least, .ref a_t_plan_of, .ref a_t_plan_set, .ref a_t_plan_chances, .int (z4 o20.2.1), .int (z4 o20.2.2.1)])), (a_p2, .inr (4, [.int (z4 p2_rules), .ref a_p2_least, .ref a_p2_of, .ref a_p2_set, .ref a_p2_chances, .int (z4 p2_slack), .int (z4 p2_limit)])), (a_p2_least, .inl (E 0, 3, .inl (A4 p2_least))), (a_t_plan_least, .inl (E 0, 3, .inl (A4 o20.2.2.2.1))), (a_p2_of, .inl (E 0, 3, .inl (A4 p2_of))), (a_t_plan_of, .inl (E 0, 3, .inl (A4 o20.2.2.2.2.1))), (a_p2_set, .inl (E 0, 3, .inl (A4 p2_set))), (a_t_plan_set, .inl (E 0, 3, .inl (A4 o20.2.2.2.2.2.1))), (a_p2_chances, .inl (E 0, 5, .inl (A4 p2_chances))), (a_t_plan_chances, .inl (E 0, 5, .inl (A4 o20.2.2.2.2.2.2))), (a_p1, .inr (1, [.ref a_p1_plan, .int (z4 p1_pasts), .ref a_p1_leads, .ref a_p1_part, .ref a_p1_finer, .ref a_p1_keys, .ref a_p1_stateOfPart, .ref a_p1_pastOfState, .int (z4 p1_states), .ref a_p1_steps, .ref a_p1_away])), (a_t_lines, .inl (E 4, 64, .inr (.inr (.inr (.inr (OG o22.2.1)))))), (a_p1_steps, .inl (E 0, 320, .inl (A4 p1_steps))), (a_t_columns, .inl (E 0, 65, .inl (A4 o22.2.2.2))), (a_t_numbers, .inl (E 0, 64, .inl (A4 o26)))] rfl rfl rfl rfl (by decide) rfl rfl rfl cl_X2 lk_X2_56 co_X2_fillIn dy_X2_fillIn rfl rfl ⟨Nat.le_of_ble_eq_true rfl, Nat.le_of_ble_eq_true rfl⟩ hl.1 rfl (Nat.le_of_ble_eq_true rfl) dX2_fit_64 (Nat.zero_le _) (Nat.zero_le _) (fun H locs hP hD hS => ?_)
          exact J24 _ (Option.some.inj hj24).symm _ _ _ (lv_sub hl [] rfl) hP hD hS
      · rw [if_neg hc_] at hf
        obtain rfl := Option.some.inj hf
        exact ret _ _ _ _ hP hD hS dX2_fit_29
