def F_X3_commonDivisor_L7 (n : Nat) (v7_2 : Int) (v7_3 : Int) (v7_4 : Int) : Option ((Int × Int × Int) ⊕ (Int)) :=
  ck (r4 v7_4) <|
  if v7_4 < 64 then
    ck (r4 v7_3) <|
    if v7_3 = 0 then
      some (.inr v7_2)
    else
      ck (d4_ v7_2 v7_3) <|
      some (.inl (v7_3, v7_2 % v7_3, v7_4 + 1))
  else
    some (.inr v7_2)
def F_X3_commonDivisor (n : Nat)   (x0 : Int) (x1 : Int) : Option (Int) :=
  (lp_ (fun (q : Int × Int × Int) => F_X3_commonDivisor_L7 n q.1 q.2.1 q.2.2) n (x0, x1, 0)).bind fun o1 =>
  some o1
def rm_X3_commonDivisor : Room := { frames := 0, cells := 0, slots := 0, locals := 0 }
set_option maxHeartbeats 4000000 in
set_option maxRecDepth 100000 in
theorem k_X3_commonDivisor {l : Launch} {D : va_G} {E : Nat → ClassId} (n : Nat) (x0 : Int) (x1 : Int) (res : Int) (hf : F_X3_commonDivisor n x0 x1 = some res) : MR l yX3_commonDivisor (.code yX3_commonDivisor cX3_commonDivisor 6 (some .int)) rm_X3_commonDivisor D E [.int (z4 x0), .int (z4 x1)] [] (some (.int (z4 res))) := by
  refine MRi (by decide) (Nat.le_of_ble_eq_true rfl) ?_
  intro p e s m args below meth c Q X hK hP ret ls hl
  have hx := X.1
  have hb := X.2.1
  have hl : lv_has ls 6 [(0, .int (z4 x0)), (1, .int (z4 x1))] := hl
  unfold F_X3_commonDivisor at hf
  refine lv_iload_n hx hb dX3_commonDivisor_0 rfl (lv_at hl 0 rfl) ?_
  refine lv_istore_n (lv' := [(2, .int (z4 x0)), (0, .int (z4 x0)), (1, .int (z4 x1))]) hx hb dX3_commonDivisor_1 rfl hl (by decide) rfl (fun ls hl => ?_)
  refine lv_iload_n hx hb dX3_commonDivisor_2 rfl (lv_at hl 2 rfl) ?_
  refine lv_istore_n (lv' := [(3, .int (z4 x1)), (2, .int (z4 x0)), (0, .int (z4 x0)), (1, .int (z4 x1))]) hx hb dX3_commonDivisor_3 rfl hl (by decide) rfl (fun ls hl => ?_)
  refine m_iconst X dX3_commonDivisor_4 ?_
  refine lv_istore (lv' := [(4, .int (z4 0)), (3, .int (z4 x1)), (2, .int (z4 x0)), (0, .int (z4 x0)), (1, .int (z4 x1))]) hx hb dX3_commonDivisor_5 hl (by decide) rfl (fun ls hl => ?_)
  obtain ⟨o1, hj1, hr1⟩ := bd_some hf
  have E1_0 : ∀ (o_ : Int), o1 = o_ → ∀ (ls : Array Slot), lv_has ls 6 [(2, .int (z4 o_))] → W p l e rm_X3_commonDivisor s m args below meth c s.heap [] 0 0 Q (F0 m 34 ls []) := by
    intro o_ ho_ ls hl 
    subst ho_
    refine lv_iload_n hx hb dX3_commonDivisor_34 rfl (lv_at hl 0 rfl) ?_
    obtain rfl := Option.some.inj hr1
    exact ret _ _ dX3_commonDivisor_35
  have L1 : ∀ (k_ : Nat) (v7_2 : Int) (v7_3 : Int) (v7_4 : Int), ∀ (ls : Array Slot), lv_has ls 6 [(2, .int (z4 v7_2)), (3, .int (z4 v7_3)), (4, .int (z4 v7_4))] → lp_ (fun (q : Int × Int × Int) => F_X3_commonDivisor_L7 n q.1 q.2.1 q.2.2) k_ (v7_2, v7_3, v7_4) = some o1 → W p l e rm_X3_commonDivisor s m args below meth c s.heap [] 0 0 Q (F0 m 7 ls []) := by
    intro k_
    induction k_ with
    | zero =>
      intro v7_2 v7_3 v7_4 ls hl  hq_; exact (lp_zero hq_).elim
    | succ k_ ih1 =>
      intro v7_2 v7_3 v7_4 ls hl  hq_
      obtain ⟨t_1, hb1, hq1⟩ := lp_some hq_
      replace hb1 : F_X3_commonDivisor_L7 n v7_2 v7_3 v7_4 = some t_1 := hb1
      unfold F_X3_commonDivisor_L7 at hb1
      refine lv_iload hx hb dX3_commonDivisor_7 (lv_at hl 2 rfl) ?_
      refine m_bipush X dX3_commonDivisor_9 (by decide) ?_
      obtain ⟨h2, hb1⟩ := ck_some hb1
      refine m_icmp_ge X ⟨h2, ⟨by decide, by decide⟩⟩ dX3_commonDivisor_11 (tgt := 34) (by decide) (fun (hc_ : ¬ (v7_4 < 64)) => ?_) (fun (hc_ : v7_4 < 64) => ?_)
      · rw [if_neg hc_] at hb1
        obtain rfl := Option.some.inj hb1
        exact E1_0 _ (Option.some.inj hq1).symm _ (lv_sub hl [0] rfl) 
      · rw [if_pos hc_] at hb1
        refine lv_iload_n hx hb dX3_commonDivisor_14 rfl (lv_at hl 1 rfl) ?_
        obtain ⟨h3, hb1⟩ := ck_some hb1
        refine m_if_eq X h3 dX3_commonDivisor_15 (tgt := 34) (by decide) (fun (hc_ : v7_3 = 0) => ?_) (fun (hc_ : ¬ (v7_3 = 0)) => ?_)
        · rw [if_pos hc_] at hb1
          obtain rfl := Option.some.inj hb1
          exact E1_0 _ (Option.some.inj hq1).symm _ (lv_sub hl [0] rfl) 
        · rw [if_neg hc_] at hb1
          refine lv_iload_n hx hb dX3_commonDivisor_18 rfl (lv_at hl 0 rfl) ?_
          refine lv_iload_n hx hb dX3_commonDivisor_19 rfl (lv_at hl 1 rfl) ?_
          obtain ⟨h4, hb1⟩ := ck_some hb1
          refine m_irem X h4 dX3_commonDivisor_20 ?_
          refine lv_istore (lv' := [(5, .int (z4 (v7_2 % v7_3))), (2, .int (z4 v7_2)), (3, .int (z4 v7_3)), (4, .int (z4 v7_4))]) hx hb dX3_commonDivisor_21 hl (by decide) rfl (fun ls hl => ?_)
          refine lv_iload_n hx hb dX3_commonDivisor_23 rfl (lv_at hl 2 rfl) ?_
          refine lv_istore_n (lv' := [(2, .int (z4 v7_3)), (5, .int (z4 (v7_2 % v7_3))), (3, .int (z4 v7_3)), (4, .int (z4 v7_4))]) hx hb dX3_commonDivisor_24 rfl hl (by decide) rfl (fun ls hl => ?_)
          refine lv_iload hx hb dX3_commonDivisor_25 (lv_at hl 1 rfl) ?_
          refine lv_istore_n (lv' := [(3, .int (z4 (v7_2 % v7_3))), (2, .int (z4 v7_3)), (5, .int (z4 (v7_2 % v7_3))), (4, .int (z4 v7_4))]) hx hb dX3_commonDivisor_27 rfl hl (by decide) rfl (fun ls hl => ?_)
          refine m_iinc X 3 [(4, .int (z4 (v7_4 + 1))), (3, .int (z4 (v7_2 % v7_3))), (2, .int (z4 v7_3)), (5, .int (z4 (v7_2 % v7_3)))] dX3_commonDivisor_28 hl rfl (by decide) rfl (fun ls hl => ?_)
          refine lv_goto (tgt := 7) hx hb dX3_commonDivisor_31 (by decide) ?_
          obtain rfl := Option.some.inj hb1
          exact ih1 _ _ _ _ (lv_sub hl [2, 1, 0] rfl)  hq1
  exact L1 n _ _ _ _ (lv_sub hl [2, 1, 0] rfl)  hj1
def F_X3_spread_L45 (n : Nat) (v13_4 : Int) (p1_steps : Nat → Int) (t_weights : Nat → Int) (p2 : Nat → Int) (v45_3 : Int) (v45_5 : Int) (t_next_l45 : Nat → Int) : Option ((Int × Int × (Nat → Int)) ⊕ (Int × (Nat → Int))) :=
  ck (r4 v45_5) <|
  if v45_5 < 5 then
    ck (ix_ v13_4 64) <|
    ck (ix_ v45_5 5) <|
    ck (ix_ ((v13_4 * 5) + v45_5) 320) <|
    (F_X11_isPast n (p1_steps ((v13_4 * 5) + v45_5).toNat)).bind fun o13 =>
    Option.bind (α := Int × (Nat → Int)) (
      ck (r4 o13) <|
      if o13 = 0 then
        some (v45_3 + ((t_weights (v13_4).toNat) * (p2 (v45_5).toNat)), t_next_l45)
      else
        ck (ix_ (p1_steps ((v13_4 * 5) + v45_5).toNat) 64) <|
        ck (ix_ (p1_steps ((v13_4 * 5) + v45_5).toNat) 64) <|
        some (v45_3, up_ t_next_l45 (p1_steps ((v13_4 * 5) + v45_5).toNat).toNat ((t_next_l45 (p1_steps ((v13_4 * 5) + v45_5).toNat).toNat) + ((t_weights (v13_4).toNat) * (p2 (v45_5).toNat))))) fun o14 =>
    some (.inl (o14.1, v45_5 + 1, o14.2))
  else
    some (.inr (v45_3, t_next_l45))
def F_X3_spread_L13 (n : Nat) (p1_states : Int) (t_weights : Nat → Int) (p1_steps : Nat → Int) (p2 : Nat → Int) (v13_3 : Int) (v13_4 : Int) (t_next_l13 : Nat → Int) : Option ((Int × Int × (Nat → Int)) ⊕ (Int × (Nat → Int))) :=
  ck (r4 v13_4 ∧ r4 p1_states) <|
  if v13_4 < p1_states then
    ck (r4 v13_4) <|
    if v13_4 < 64 then
      ck (ix_ v13_4 64) <|
      Option.bind (α := Int × (Nat → Int)) (
        ck (r4 (t_weights (v13_4).toNat)) <|
        if t_weights (v13_4).toNat = 0 then
          some (v13_3, t_next_l13)
        else
          (lp_ (fun (q : Int × Int × (Nat → Int)) => F_X3_spread_L45 n v13_4 p1_steps t_weights p2 q.1 q.2.1 q.2.2) n (v13_3, 0, t_next_l13)).bind fun o8 =>
          some (o8.1, o8.2)) fun o6 =>
      some (.inl (o6.1, v13_4 + 1, o6.2))
    else
      some (.inr (v13_3, t_next_l13))
  else
    some (.inr (v13_3, t_next_l13))
def F_X3_spread (n : Nat)  (a_t_next : Nat) (t_next : Nat → Int) (p1_states : Int) (a_t_weights : Nat) (t_weights : Nat → Int) (p2 : Nat → Int) (p1_steps : Nat → Int)  : Option (Int × Nat × (Nat → Int) × Nat × (Nat → Int)) :=
  (F_J7_fill_53178 n 64 t_next 0).bind fun o1 =>
  (lp_ (fun (q : Int × Int × (Nat → Int)) => F_X3_spread_L13 n p1_states t_weights p1_steps p2 q.1 q.2.1 q.2.2) n (0, 0, o1)).bind fun o2 =>
  some (o2.1, a_t_weights, t_weights, a_t_next, o2.2)
def rm_X3_spread : Room := { frames := 1, cells := 0, slots := 0, locals := 23 }
set_option maxHeartbeats 4000000 in
set_option maxRecDepth 100000 in
theorem k_X3_spread {l : Launch} {D : va_G} {E : Nat → ClassId} (n : Nat) (a_t a_t_weights a_t_next a_p1 a_p1_plan a_p1_leads a_p1_part a_p1_finer a_p1_keys a_p1_stateOfPart a_p1_pastOfState a_p1_steps a_p1_away a_p2 : Nat) (t_upper : Int) (t_lower : Int) (t_next : Nat → Int) (p1_pasts : Int) (p1_states : Int) (t_weights : Nat → Int) (p2 : Nat → Int) (p1_steps : Nat → Int) (res : Int × Nat × (Nat → Int) × Nat × (Nat → Int)) (hf : F_X3_spread n a_t_next t_next p1_states a_t_weights t_weights p2 p1_steps = some res) : MW l yX3_spread (.code yX3_spread cX3_spread 8 (some .int)) rm_X3_spread D E [.ref a_t, .ref a_p1, .ref a_p2] [(a_t, .inr (3, [.ref a_t_weights, .ref a_t_next, .int (z4 t_upper), .int (z4 t_lower)])), (a_t_next, .inl (E 0, 64, .inl (A4 t_next))), (a_p1, .inr (1, [.ref a_p1_plan, .int (z4 p1_pasts), .ref a_p1_leads, .ref a_p1_part, .ref a_p1_finer, .ref a_p1_keys, .ref a_p1_stateOfPart, .ref a_p1_pastOfState, .int (z4 p1_states), .ref a_p1_steps, .ref a_p1_away])), (a_t_weights, .inl (E 0, 64, .inl (A4 t_weights))), (a_p2, .inl (E 0, 5, .inl (A4 p2))), (a_p1_steps, .inl (E 0, 320, .inl (A4 p1_steps)))] (some (.int (z4 res.1))) [(a_t, .inr (3, [.ref res.2.2.2.1, .ref res.2.1, .int (z4 t_upper), .int (z4 t_lower)])), (res.2.1, .inl (E 0, 64, .inl (A4 res.2.2.1))), (a_p1, .inr (1, [.ref a_p1_plan, .int (z4 p1_pasts), .ref a_p1_leads, .ref a_p1_part, .ref a_p1_finer, .ref a_p1_keys, .ref a_p1_stateOfPart, .ref a_p1_pastOfState, .int (z4 p1_states), .ref a_p1_steps, .ref a_p1_away])), (res.2.2.2.1, .inl (E 0, 64, .inl (A4 res.2.2.2.2))), (a_p2, .inl (E 0, 5, .inl (A4 p2))), (a_p1_steps, .inl (E 0, 320, .inl (A4 p1_steps)))] := by
  refine MWi (by decide) (Nat.le_of_ble_eq_true rfl) ?_
  intro p e s m args below meth c A Q X hK hP hD hA ret ls hl
  have hS : va_S A s.heap s.heap [] := va_S.rf
  have hx := X.1
  have hb := X.2.1
  have hl : lv_has ls 8 [(0, .ref a_t), (1, .ref a_p1), (2, .ref a_p2)] := hl
  unfold F_X3_spread at hf
  refine m_iconst X dX3_spread_0 ?_
  refine lv_istore_n (lv' := [(3, .int (z4 0)), (0, .ref a_t), (1, .ref a_p1), (2, .ref a_p2)]) hx hb dX3_spread_1 rfl hl (by decide) rfl (fun ls hl => ?_)
  refine lv_aload_n hx hb dX3_spread_2 rfl (lv_at hl 1 rfl) ?_
  refine m_get X hK hP cl_X3 iT_X3 1 (by decide) fl_X3_15 0 rfl rfl dX3_spread_3 ?_
  refine m_iconst X dX3_spread_6 ?_
  obtain ⟨o1, ho, hf⟩ := bd_some hf
  refine m_cSW X hK hP hD hS hA (wr := [(a_t, .inr (3, [.ref a_t_weights, .ref a_t_next, .int (z4 t_upper), .int (z4 t_lower)])), (a_p1, .inr (1, [.ref a_p1_plan, .int (z4 p1_pasts), .ref a_p1_leads, .ref a_p1_part, .ref a_p1_finer, .ref a_p1_keys, .ref a_p1_stateOfPart, .ref a_p1_pastOfState, .int (z4 p1_states), .ref a_p1_steps, .ref a_p1_away])), (a_t_weights, .inl (E 0, 64, .inl (A4 t_weights))), (a_p2, .inl (E 0, 5, .inl (A4 p2))), (a_p1_steps, .inl (E 0, 320, .inl (A4 p1_steps)))]) (k_J7_fill_53178 n a_t_next 64 (by decide) t_next 0 o1 ho) [1] [0, 2, 3, 4, 5] [0, 5, 1, 2, 3, 4] [(a_t, .inr (3, [.ref a_t_weights, .ref a_t_next, .int (z4 t_upper), .int (z4 t_lower)])), (a_t_next, .inl (E 0, 64, .inl (A4 o1))), (a_p1, .inr (1, [.ref a_p1_plan, .int (z4 p1_pasts), .ref a_p1_leads, .ref a_p1_part, .ref a_p1_finer, .ref a_p1_keys, .ref a_p1_stateOfPart, .ref a_p1_pastOfState, .int (z4 p1_states), .ref a_p1_steps, .ref a_p1_away])), (a_t_weights, .inl (E 0, 64, .inl (A4 t_weights))), (a_p2, .inl (E 0, 5, .inl (A4 p2))), (a_p1_steps, .inl (E 0, 320, .inl (A4 p1_steps)))] rfl rfl rfl rfl (by decide) rfl rfl lk_X3_18 co_J7_fill_53178 dy_J7_fill_53178 rfl rfl ⟨Nat.le_of_ble_eq_true rfl, Nat.le_of_ble_eq_true rfl⟩ hl.1 rfl (Nat.le_of_ble_eq_true rfl) dX3_spread_7 (Nat.zero_le _) (Nat.zero_le _) (fun H locs hP hD hS => ?_)
  refine m_iconst X dX3_spread_10 ?_
  refine lv_istore (lv' := [(4, .int (z4 0)), (3, .int (z4 0)), (0, .ref a_t), (1, .ref a_p1), (2, .ref a_p2)]) hx hb dX3_spread_11 hl (by decide) rfl (fun ls hl => ?_)
  obtain ⟨o2, hj2, hr2⟩ := bd_some hf
  have E2_0 : ∀ (o_ : Int × (Nat → Int)), o2 = o_ → ∀ (H : Heap) (locs : List Loc) (ls : Array Slot), lv_has ls 8 [(0, .ref a_t), (3, .int (z4 o_.1))] → va_P D vwCl [(a_t, .inr (3, [.ref a_t_weights, .ref a_t_next, .int (z4 t_upper), .int (z4 t_lower)])), (a_t_next, .inl (E 0, 64, .inl (A4 o_.2))), (a_p1, .inr (1, [.ref a_p1_plan, .int (z4 p1_pasts), .ref a_p1_leads, .ref a_p1_part, .ref a_p1_finer, .ref a_p1_keys, .ref a_p1_stateOfPart, .ref a_p1_pastOfState, .int (z4 p1_states), .ref a_p1_steps, .ref a_p1_away])), (a_t_weights, .inl (E 0, 64, .inl (A4 t_weights))), (a_p2, .inl (E 0, 5, .inl (A4 p2))), (a_p1_steps, .inl (E 0, 320, .inl (A4 p1_steps)))] H → va_D A [(a_t, .inr (3, [.ref a_t_weights, .ref a_t_next, .int (z4 t_upper), .int (z4 t_lower)])), (a_t_next, .inl (E 0, 64, .inl (A4 o_.2))), (a_p1, .inr (1, [.ref a_p1_plan, .int (z4 p1_pasts), .ref a_p1_leads, .ref a_p1_part, .ref a_p1_finer, .ref a_p1_keys, .ref a_p1_stateOfPart, .ref a_p1_pastOfState, .int (z4 p1_states), .ref a_p1_steps, .ref a_p1_away])), (a_t_weights, .inl (E 0, 64, .inl (A4 t_weights))), (a_p2, .inl (E 0, 5, .inl (A4 p2))), (a_p1_steps, .inl (E 0, 320, .inl (A4 p1_steps)))] → va_S A s.heap H locs → W p l e rm_X3_spread s m args below meth c H locs 0 0 Q (F0 m 119 ls []) := by
    intro o_ ho_ H locs ls hl hP hD hS
    subst ho_
    refine lv_aload_n hx hb dX3_spread_119 rfl (lv_at hl 0 rfl) ?_
    refine m_get X hK hP cl_X3 iT_X3 0 (by decide) fl_X3_9 0 rfl rfl dX3_spread_120 ?_
    refine lv_astore (lv' := [(4, .ref a_t_weights), (0, .ref a_t), (3, .int (z4 o2.1))]) hx hb dX3_spread_123 hl (by decide) rfl (fun ls hl => ?_)
    refine lv_aload_n hx hb dX3_spread_125 rfl (lv_at hl 1 rfl) ?_
    refine lv_aload_n hx hb dX3_spread_126 rfl (lv_at hl 1 rfl) ?_
    refine m_get X hK hP cl_X3 iT_X3 1 (by decide) fl_X3_15 0 rfl rfl dX3_spread_127 ?_
    refine m_put X hK hP hD hS cl_X3 iT_X3 tyX3 tyX3_ok nmX3 0 (by decide) fl_X3_9 rfl 0 rfl rfl rfl (Nat.le_of_ble_eq_true rfl) [(a_t, .inr (3, [.ref a_t_next, .ref a_t_next, .int (z4 t_upper), .int (z4 t_lower)])), (a_t_next, .inl (E 0, 64, .inl (A4 o2.2))), (a_p1, .inr (1, [.ref a_p1_plan, .int (z4 p1_pasts), .ref a_p1_leads, .ref a_p1_part, .ref a_p1_finer, .ref a_p1_keys, .ref a_p1_stateOfPart, .ref a_p1_pastOfState, .int (z4 p1_states), .ref a_p1_steps, .ref a_p1_away])), (a_t_weights, .inl (E 0, 64, .inl (A4 t_weights))), (a_p2, .inl (E 0, 5, .inl (A4 p2))), (a_p1_steps, .inl (E 0, 320, .inl (A4 p1_steps)))] rfl dX3_spread_130 (fun H locs hP hD hS => ?_)
    refine lv_aload_n hx hb dX3_spread_133 rfl (lv_at hl 1 rfl) ?_
    refine lv_aload hx hb dX3_spread_134 (lv_at hl 0 rfl) ?_
    refine m_put X hK hP hD hS cl_X3 iT_X3 tyX3 tyX3_ok nmX3 1 (by decide) fl_X3_15 rfl 0 rfl rfl rfl (Nat.le_of_ble_eq_true rfl) [(a_t, .inr (3, [.ref a_t_next, .ref a_t_weights, .int (z4 t_upper), .int (z4 t_lower)])), (a_t_next, .inl (E 0, 64, .inl (A4 o2.2))), (a_p1, .inr (1, [.ref a_p1_plan, .int (z4 p1_pasts), .ref a_p1_leads, .ref a_p1_part, .ref a_p1_finer, .ref a_p1_keys, .ref a_p1_stateOfPart, .ref a_p1_pastOfState, .int (z4 p1_states), .ref a_p1_steps, .ref a_p1_away])), (a_t_weights, .inl (E 0, 64, .inl (A4 t_weights))), (a_p2, .inl (E 0, 5, .inl (A4 p2))), (a_p1_steps, .inl (E 0, 320, .inl (A4 p1_steps)))] rfl dX3_spread_136 (fun H locs hP hD hS => ?_)
    refine lv_iload_n hx hb dX3_spread_139 rfl (lv_at hl 2 rfl) ?_
    obtain rfl := Option.some.inj hr2
    exact ret _ _ _ _ (hP.sub [0, 3, 2, 1, 4, 5] rfl) (hD.sub [0, 3, 2, 1, 4, 5] rfl rfl) hS dX3_spread_140
  have L2 : ∀ (k_ : Nat) (v13_3 : Int) (v13_4 : Int) (t_next_l13 : Nat → Int), ∀ (H : Heap) (locs : List Loc) (ls : Array Slot), lv_has ls 8 [(0, .ref a_t), (1, .ref a_p1), (2, .ref a_p2), (3, .int (z4 v13_3)), (4, .int (z4 v13_4))] → va_P D vwCl [(a_t, .inr (3, [.ref a_t_weights, .ref a_t_next, .int (z4 t_upper), .int (z4 t_lower)])), (a_t_next, .inl (E 0, 64, .inl (A4 t_next_l13))), (a_p1, .inr (1, [.ref a_p1_plan, .int (z4 p1_pasts), .ref a_p1_leads, .ref a_p1_part, .ref a_p1_finer, .ref a_p1_keys, .ref a_p1_stateOfPart, .ref a_p1_pastOfState, .int (z4 p1_states), .ref a_p1_steps, .ref a_p1_away])), (a_t_weights, .inl (E 0, 64, .inl (A4 t_weights))), (a_p2, .inl (E 0, 5, .inl (A4 p2))), (a_p1_steps, .inl (E 0, 320, .inl (A4 p1_steps)))] H → va_D A [(a_t, .inr (3, [.ref a_t_weights, .ref a_t_next, .int (z4 t_upper), .int (z4 t_lower)])), (a_t_next, .inl (E 0, 64, .inl (A4 t_next_l13))), (a_p1, .inr (1, [.ref a_p1_plan, .int (z4 p1_pasts), .ref a_p1_leads, .ref a_p1_part, .ref a_p1_finer, .ref a_p1_keys, .ref a_p1_stateOfPart, .ref a_p1_pastOfState, .int (z4 p1_states), .ref a_p1_steps, .ref a_p1_away])), (a_t_weights, .inl (E 0, 64, .inl (A4 t_weights))), (a_p2, .inl (E 0, 5, .inl (A4 p2))), (a_p1_steps, .inl (E 0, 320, .inl (A4 p1_steps)))] → va_S A s.heap H locs → lp_ (fun (q : Int × Int × (Nat → Int)) => F_X3_spread_L13 n p1_states t_weights p1_steps p2 q.1 q.2.1 q.2.2) k_ (v13_3, v13_4, t_next_l13) = some o2 → W p l e rm_X3_spread s m args below meth c H locs 0 0 Q (F0 m 13 ls []) := by
    intro k_
    induction k_ with
    | zero =>
      intro v13_3 v13_4 t_next_l13 H locs ls hl hP hD hS hq_; exact (lp_zero hq_).elim
    | succ k_ ih2 =>
      intro v13_3 v13_4 t_next_l13 H locs ls hl hP hD hS hq_
      obtain ⟨t_2, hb2, hq2⟩ := lp_some hq_
      replace hb2 : F_X3_spread_L13 n p1_states t_weights p1_steps p2 v13_3 v13_4 t_next_l13 = some t_2 := hb2
      unfold F_X3_spread_L13 at hb2
      refine lv_iload hx hb dX3_spread_13 (lv_at hl 4 rfl) ?_
      refine lv_aload_n hx hb dX3_spread_15 rfl (lv_at hl 1 rfl) ?_
      refine m_get X hK hP cl_X1 iT_X1 8 (by decide) fl_X3_43 2 rfl rfl dX3_spread_16 ?_
      obtain ⟨h3, hb2⟩ := ck_some hb2
      refine m_icmp_ge X h3 dX3_spread_19 (tgt := 119) (by decide) (fun (hc_ : ¬ (v13_4 < p1_states)) => ?_) (fun (hc_ : v13_4 < p1_states) => ?_)
      · rw [if_neg hc_] at hb2
        obtain rfl := Option.some.inj hb2
        exact E2_0 _ (Option.some.inj hq2).symm _ _ _ (lv_sub hl [0, 3] rfl) hP hD hS
      · rw [if_pos hc_] at hb2
        refine lv_iload hx hb dX3_spread_22 (lv_at hl 4 rfl) ?_
        refine m_bipush X dX3_spread_24 (by decide) ?_
        obtain ⟨h4, hb2⟩ := ck_some hb2
        refine m_icmp_ge X ⟨h4, ⟨by decide, by decide⟩⟩ dX3_spread_26 (tgt := 119) (by decide) (fun (hc_ : ¬ (v13_4 < 64)) => ?_) (fun (hc_ : v13_4 < 64) => ?_)
        · rw [if_neg hc_] at hb2
          obtain rfl := Option.some.inj hb2
          exact E2_0 _ (Option.some.inj hq2).symm _ _ _ (lv_sub hl [0, 3] rfl) hP hD hS
        · rw [if_pos hc_] at hb2
          refine lv_aload_n hx hb dX3_spread_29 rfl (lv_at hl 0 rfl) ?_
          refine m_get X hK hP cl_X3 iT_X3 0 (by decide) fl_X3_9 0 rfl rfl dX3_spread_30 ?_
          refine lv_iload hx hb dX3_spread_33 (lv_at hl 4 rfl) ?_
          obtain ⟨h5, hb2⟩ := ck_some hb2
          refine m_iald X hK hP 3 rfl (by decide) h5 dX3_spread_35 ?_
          obtain ⟨o6, hj6, hr6⟩ := bd_some hb2
          have J6 : ∀ (o_ : Int × (Nat → Int)), o6 = o_ → ∀ (H : Heap) (locs : List Loc) (ls : Array Slot), lv_has ls 8 [(0, .ref a_t), (1, .ref a_p1), (2, .ref a_p2), (3, .int (z4 o_.1)), (4, .int (z4 v13_4))] → va_P D vwCl [(a_t, .inr (3, [.ref a_t_weights, .ref a_t_next, .int (z4 t_upper), .int (z4 t_lower)])), (a_t_next, .inl (E 0, 64, .inl (A4 o_.2))), (a_p1, .inr (1, [.ref a_p1_plan, .int (z4 p1_pasts), .ref a_p1_leads, .ref a_p1_part, .ref a_p1_finer, .ref a_p1_keys, .ref a_p1_stateOfPart, .ref a_p1_pastOfState, .int (z4 p1_states), .ref a_p1_steps, .ref a_p1_away])), (a_t_weights, .inl (E 0, 64, .inl (A4 t_weights))), (a_p2, .inl (E 0, 5, .inl (A4 p2))), (a_p1_steps, .inl (E 0, 320, .inl (A4 p1_steps)))] H → va_D A [(a_t, .inr (3, [.ref a_t_weights, .ref a_t_next, .int (z4 t_upper), .int (z4 t_lower)])), (a_t_next, .inl (E 0, 64, .inl (A4 o_.2))), (a_p1, .inr (1, [.ref a_p1_plan, .int (z4 p1_pasts), .ref a_p1_leads, .ref a_p1_part, .ref a_p1_finer, .ref a_p1_keys, .ref a_p1_stateOfPart, .ref a_p1_pastOfState, .int (z4 p1_states), .ref a_p1_steps, .ref a_p1_away])), (a_t_weights, .inl (E 0, 64, .inl (A4 t_weights))), (a_p2, .inl (E 0, 5, .inl (A4 p2))), (a_p1_steps, .inl (E 0, 320, .inl (A4 p1_steps)))] → va_S A s.heap H locs → W p l e rm_X3_spread s m args below meth c H locs 0 0 Q (F0 m 113 ls []) := by
            intro o_ ho_ H locs ls hl hP hD hS
            subst ho_
            refine m_iinc X 4 [(4, .int (z4 (v13_4 + 1))), (0, .ref a_t), (1, .ref a_p1), (2, .ref a_p2), (3, .int (z4 o6.1))] dX3_spread_113 hl rfl (by decide) rfl (fun ls hl => ?_)
            refine lv_goto (tgt := 13) hx hb dX3_spread_116 (by decide) ?_
            obtain rfl := Option.some.inj hr6
            exact ih2 _ _ _ _ _ _ (lv_sub hl [1, 2, 3, 4, 0] rfl) hP hD hS hq2
          obtain ⟨h7, hj6⟩ := ck_some hj6
          refine m_if_ne X h7 dX3_spread_36 (tgt := 42) (by decide) (fun (hc_ : ¬ (t_weights (v13_4).toNat = 0)) => ?_) (fun (hc_ : t_weights (v13_4).toNat = 0) => ?_)
          · rw [if_neg hc_] at hj6
            refine m_iconst X dX3_spread_42 ?_
            refine lv_istore (lv' := [(5, .int (z4 0)), (0, .ref a_t), (1, .ref a_p1), (2, .ref a_p2), (3, .int (z4 v13_3)), (4, .int (z4 v13_4))]) hx hb dX3_spread_43 hl (by decide) rfl (fun ls hl => ?_)
            obtain ⟨o8, hj8, hr8⟩ := bd_some hj6
            have E8_0 : ∀ (o_ : Int × (Nat → Int)), o8 = o_ → ∀ (H : Heap) (locs : List Loc) (ls : Array Slot), lv_has ls 8 [(0, .ref a_t), (1, .ref a_p1), (2, .ref a_p2), (3, .int (z4 o_.1)), (4, .int (z4 v13_4))] → va_P D vwCl [(a_t, .inr (3, [.ref a_t_weights, .ref a_t_next, .int (z4 t_upper), .int (z4 t_lower)])), (a_t_next, .inl (E 0, 64, .inl (A4 o_.2))), (a_p1, .inr (1, [.ref a_p1_plan, .int (z4 p1_pasts), .ref a_p1_leads, .ref a_p1_part, .ref a_p1_finer, .ref a_p1_keys, .ref a_p1_stateOfPart, .ref a_p1_pastOfState, .int (z4 p1_states), .ref a_p1_steps, .ref a_p1_away])), (a_t_weights, .inl (E 0, 64, .inl (A4 t_weights))), (a_p2, .inl (E 0, 5, .inl (A4 p2))), (a_p1_steps, .inl (E 0, 320, .inl (A4 p1_steps)))] H → va_D A [(a_t, .inr (3, [.ref a_t_weights, .ref a_t_next, .int (z4 t_upper), .int (z4 t_lower)])), (a_t_next, .inl (E 0, 64, .inl (A4 o_.2))), (a_p1, .inr (1, [.ref a_p1_plan, .int (z4 p1_pasts), .ref a_p1_leads, .ref a_p1_part, .ref a_p1_finer, .ref a_p1_keys, .ref a_p1_stateOfPart, .ref a_p1_pastOfState, .int (z4 p1_states), .ref a_p1_steps, .ref a_p1_away])), (a_t_weights, .inl (E 0, 64, .inl (A4 t_weights))), (a_p2, .inl (E 0, 5, .inl (A4 p2))), (a_p1_steps, .inl (E 0, 320, .inl (A4 p1_steps)))] → va_S A s.heap H locs → W p l e rm_X3_spread s m args below meth c H locs 0 0 Q (F0 m 113 ls []) := by
              intro o_ ho_ H locs ls hl hP hD hS
              subst ho_
              exact J6 _ (Option.some.inj hr8).symm _ _ _ (lv_sub hl [0, 1, 2, 3, 4] rfl) hP hD hS
            have L8 : ∀ (k_ : Nat) (v45_3 : Int) (v45_5 : Int) (t_next_l45 : Nat → Int), ∀ (H : Heap) (locs : List Loc) (ls : Array Slot), lv_has ls 8 [(0, .ref a_t), (1, .ref a_p1), (2, .ref a_p2), (3, .int (z4 v45_3)), (4, .int (z4 v13_4)), (5, .int (z4 v45_5))] → va_P D vwCl [(a_t, .inr (3, [.ref a_t_weights, .ref a_t_next, .int (z4 t_upper), .int (z4 t_lower)])), (a_t_next, .inl (E 0, 64, .inl (A4 t_next_l45))), (a_p1, .inr (1, [.ref a_p1_plan, .int (z4 p1_pasts), .ref a_p1_leads, .ref a_p1_part, .ref a_p1_finer, .ref a_p1_keys, .ref a_p1_stateOfPart, .ref a_p1_pastOfState, .int (z4 p1_states), .ref a_p1_steps, .ref a_p1_away])), (a_t_weights, .inl (E 0, 64, .inl (A4 t_weights))), (a_p2, .inl (E 0, 5, .inl (A4 p2))), (a_p1_steps, .inl (E 0, 320, .inl (A4 p1_steps)))] H → va_D A [(a_t, .inr (3, [.ref a_t_weights, .ref a_t_next, .int (z4 t_upper), .int (z4 t_lower)])), (a_t_next, .inl (E 0, 64, .inl (A4 t_next_l45))), (a_p1, .inr (1, [.ref a_p1_plan, .int (z4 p1_pasts), .ref a_p1_leads, .ref a_p1_part, .ref a_p1_finer, .ref a_p1_keys, .ref a_p1_stateOfPart, .ref a_p1_pastOfState, .int (z4 p1_states), .ref a_p1_steps, .ref a_p1_away])), (a_t_weights, .inl (E 0, 64, .inl (A4 t_weights))), (a_p2, .inl (E 0, 5, .inl (A4 p2))), (a_p1_steps, .inl (E 0, 320, .inl (A4 p1_steps)))] → va_S A s.heap H locs → lp_ (fun (q : Int × Int × (Nat → Int)) => F_X3_spread_L45 n v13_4 p1_steps t_weights p2 q.1 q.2.1 q.2.2) k_ (v45_3, v45_5, t_next_l45) = some o8 → W p l e rm_X3_spread s m args below meth c H locs 0 0 Q (F0 m 45 ls []) := by
              intro k_
              induction k_ with
              | zero =>
                intro v45_3 v45_5 t_next_l45 H locs ls hl hP hD hS hq_; exact (lp_zero hq_).elim
              | succ k_ ih8 =>
                intro v45_3 v45_5 t_next_l45 H locs ls hl hP hD hS hq_
                obtain ⟨t_8, hb8, hq8⟩ := lp_some hq_
                replace hb8 : F_X3_spread_L45 n v13_4 p1_steps t_weights p2 v45_3 v45_5 t_next_l45 = some t_8 := hb8
                unfold F_X3_spread_L45 at hb8
                refine lv_iload hx hb dX3_spread_45 (lv_at hl 5 rfl) ?_
                refine m_iconst X dX3_spread_47 ?_
                obtain ⟨h9, hb8⟩ := ck_some hb8
                refine m_icmp_ge X ⟨h9, ⟨by decide, by decide⟩⟩ dX3_spread_48 (tgt := 113) (by decide) (fun (hc_ : ¬ (v45_5 < 5)) => ?_) (fun (hc_ : v45_5 < 5) => ?_)
                · rw [if_neg hc_] at hb8
                  obtain rfl := Option.some.inj hb8
                  exact E8_0 _ (Option.some.inj hq8).symm _ _ _ (lv_sub hl [0, 1, 2, 3, 4] rfl) hP hD hS
                · rw [if_pos hc_] at hb8
                  refine lv_aload_n hx hb dX3_spread_51 rfl (lv_at hl 0 rfl) ?_
                  refine m_get X hK hP cl_X3 iT_X3 0 (by decide) fl_X3_9 0 rfl rfl dX3_spread_52 ?_
                  refine lv_iload hx hb dX3_spread_55 (lv_at hl 4 rfl) ?_
                  obtain ⟨h10, hb8⟩ := ck_some hb8
                  refine m_iald X hK hP 3 rfl (by decide) h10 dX3_spread_57 ?_
                  refine lv_aload_n hx hb dX3_spread_58 rfl (lv_at hl 2 rfl) ?_
                  refine lv_iload hx hb dX3_spread_59 (lv_at hl 5 rfl) ?_
                  obtain ⟨h11, hb8⟩ := ck_some hb8
                  refine m_iald X hK hP 4 rfl (by decide) h11 dX3_spread_61 ?_
                  refine m_imul X dX3_spread_62 ?_
                  refine lv_istore (lv' := [(6, .int (z4 ((t_weights (v13_4).toNat) * (p2 (v45_5).toNat)))), (0, .ref a_t), (1, .ref a_p1), (2, .ref a_p2), (3, .int (z4 v45_3)), (4, .int (z4 v13_4)), (5, .int (z4 v45_5))]) hx hb dX3_spread_63 hl (by decide) rfl (fun ls hl => ?_)
                  refine lv_aload_n hx hb dX3_spread_65 rfl (lv_at hl 2 rfl) ?_
                  refine m_get X hK hP cl_X1 iT_X1 9 (by decide) fl_X3_48 2 rfl rfl dX3_spread_66 ?_
                  refine lv_iload hx hb dX3_spread_69 (lv_at hl 5 rfl) ?_
                  refine m_iconst X dX3_spread_71 ?_
                  refine m_imul X dX3_spread_72 ?_
                  refine lv_iload hx hb dX3_spread_73 (lv_at hl 6 rfl) ?_
                  refine m_iadd X dX3_spread_75 ?_
                  obtain ⟨h12, hb8⟩ := ck_some hb8
                  refine m_iald X hK hP 5 rfl (by decide) h12 dX3_spread_76 ?_
                  refine lv_istore (lv' := [(7, .int (z4 (p1_steps ((v13_4 * 5) + v45_5).toNat))), (6, .int (z4 ((t_weights (v13_4).toNat) * (p2 (v45_5).toNat)))), (0, .ref a_t), (1, .ref a_p1), (2, .ref a_p2), (3, .int (z4 v45_3)), (4, .int (z4 v13_4)), (5, .int (z4 v45_5))]) hx hb dX3_spread_77 hl (by decide) rfl (fun ls hl => ?_)
                  refine lv_iload hx hb dX3_spread_79 (lv_at hl 0 rfl) ?_
                  obtain ⟨o13, ho, hb8⟩ := bd_some hb8
                  refine m_cSRN X hK (k_X11_isPast n (p1_steps ((v13_4 * 5) + v45_5).toNat) o13 ho) (hP.sub (ws' := []) [] rfl) (NK.X3_24 hK.2.2.2) ls_X3_24 co_X11_isPast dy_X11_isPast rfl rfl ⟨Nat.le_of_ble_eq_true rfl, Nat.le_of_ble_eq_true rfl⟩ hl.1 rfl (Nat.le_of_ble_eq_true rfl) dX3_spread_81 (Nat.zero_le _) (Nat.zero_le _) ?_
                  obtain ⟨o14, hj14, hr14⟩ := bd_some hb8
                  have J14 : ∀ (o_ : Int × (Nat → Int)), o14 = o_ → ∀ (H : Heap) (locs : List Loc) (ls : Array Slot), lv_has ls 8 [(0, .ref a_t), (1, .ref a_p1), (2, .ref a_p2), (3, .int (z4 o_.1)), (4, .int (z4 v13_4)), (5, .int (z4 v45_5))] → va_P D vwCl [(a_t, .inr (3, [.ref a_t_weights, .ref a_t_next, .int (z4 t_upper), .int (z4 t_lower)])), (a_t_next, .inl (E 0, 64, .inl (A4 o_.2))), (a_p1, .inr (1, [.ref a_p1_plan, .int (z4 p1_pasts), .ref a_p1_leads, .ref a_p1_part, .ref a_p1_finer, .ref a_p1_keys, .ref a_p1_stateOfPart, .ref a_p1_pastOfState, .int (z4 p1_states), .ref a_p1_steps, .ref a_p1_away])), (a_t_weights, .inl (E 0, 64, .inl (A4 t_weights))), (a_p2, .inl (E 0, 5, .inl (A4 p2))), (a_p1_steps, .inl (E 0, 320, .inl (A4 p1_steps)))] H → va_D A [(a_t, .inr (3, [.ref a_t_weights, .ref a_t_next, .int (z4 t_upper), .int (z4 t_lower)])), (a_t_next, .inl (E 0, 64, .inl (A4 o_.2))), (a_p1, .inr (1, [.ref a_p1_plan, .int (z4 p1_pasts), .ref a_p1_leads, .ref a_p1_part, .ref a_p1_finer, .ref a_p1_keys, .ref a_p1_stateOfPart, .ref a_p1_pastOfState, .int (z4 p1_states), .ref a_p1_steps, .ref a_p1_away])), (a_t_weights, .inl (E 0, 64, .inl (A4 t_weights))), (a_p2, .inl (E 0, 5, .inl (A4 p2))), (a_p1_steps, .inl (E 0, 320, .inl (A4 p1_steps)))] → va_S A s.heap H locs → W p l e rm_X3_spread s m args below meth c H locs 0 0 Q (F0 m 107 ls []) := by
                    intro o_ ho_ H locs ls hl hP hD hS
                    subst ho_
                    refine m_iinc X 5 [(5, .int (z4 (v45_5 + 1))), (0, .ref a_t), (1, .ref a_p1), (2, .ref a_p2), (3, .int (z4 o14.1)), (4, .int (z4 v13_4))] dX3_spread_107 hl rfl (by decide) rfl (fun ls hl => ?_)
                    refine lv_goto (tgt := 45) hx hb dX3_spread_110 (by decide) ?_
                    obtain rfl := Option.some.inj hr14
                    exact ih8 _ _ _ _ _ _ (lv_sub hl [1, 2, 3, 4, 5, 0] rfl) hP hD hS hq8
                  obtain ⟨h15, hj14⟩ := ck_some hj14
                  refine m_if_eq X h15 dX3_spread_84 (tgt := 102) (by decide) (fun (hc_ : o13 = 0) => ?_) (fun (hc_ : ¬ (o13 = 0)) => ?_)
                  · rw [if_pos hc_] at hj14
                    refine lv_iload_n hx hb dX3_spread_102 rfl (lv_at hl 5 rfl) ?_
                    refine lv_iload hx hb dX3_spread_103 (lv_at hl 1 rfl) ?_
                    refine m_iadd X dX3_spread_105 ?_
                    refine lv_istore_n (lv' := [(3, .int (z4 (v45_3 + ((t_weights (v13_4).toNat) * (p2 (v45_5).toNat))))), (7, .int (z4 (p1_steps ((v13_4 * 5) + v45_5).toNat))), (6, .int (z4 ((t_weights (v13_4).toNat) * (p2 (v45_5).toNat)))), (0, .ref a_t), (1, .ref a_p1), (2, .ref a_p2), (4, .int (z4 v13_4)), (5, .int (z4 v45_5))]) hx hb dX3_spread_106 rfl hl (by decide) rfl (fun ls hl => ?_)
                    exact J14 _ (Option.some.inj hj14).symm _ _ _ (lv_sub hl [3, 4, 5, 0, 6, 7] rfl) hP hD hS
                  · rw [if_neg hc_] at hj14
                    refine lv_aload_n hx hb dX3_spread_87 rfl (lv_at hl 2 rfl) ?_
                    refine m_get X hK hP cl_X3 iT_X3 1 (by decide) fl_X3_15 0 rfl rfl dX3_spread_88 ?_
                    refine lv_iload hx hb dX3_spread_91 (lv_at hl 0 rfl) ?_
                    refine lv_dup2_11 hx hb dX3_spread_93 rfl rfl ?_
                    obtain ⟨h16, hj14⟩ := ck_some hj14
                    refine m_iald X hK hP 1 rfl (by decide) h16 dX3_spread_94 ?_
                    refine lv_iload hx hb dX3_spread_95 (lv_at hl 1 rfl) ?_
                    refine m_iadd X dX3_spread_97 ?_
                    obtain ⟨h17, hj14⟩ := ck_some hj14
                    refine m_iast X hK hP hD hS 1 rfl (by decide) h17 [(a_t, .inr (3, [.ref a_t_weights, .ref a_t_next, .int (z4 t_upper), .int (z4 t_lower)])), (a_t_next, .inl (E 0, 64, .inl (A4 (up_ t_next_l45 (p1_steps ((v13_4 * 5) + v45_5).toNat).toNat ((t_next_l45 (p1_steps ((v13_4 * 5) + v45_5).toNat).toNat) + ((t_weights (v13_4).toNat) * (p2 (v45_5).toNat))))))), (a_p1, .inr (1, [.ref a_p1_plan, .int (z4 p1_pasts), .ref a_p1_leads, .ref a_p1_part, .ref a_p1_finer, .ref a_p1_keys, .ref a_p1_stateOfPart, .ref a_p1_pastOfState, .int (z4 p1_states), .ref a_p1_steps, .ref a_p1_away])), (a_t_weights, .inl (E 0, 64, .inl (A4 t_weights))), (a_p2, .inl (E 0, 5, .inl (A4 p2))), (a_p1_steps, .inl (E 0, 320, .inl (A4 p1_steps)))] rfl dX3_spread_98 (fun H locs hP hD hS => ?_)
                    refine lv_goto (tgt := 107) hx hb dX3_spread_99 (by decide) ?_
                    exact J14 _ (Option.some.inj hj14).symm _ _ _ (lv_sub hl [2, 3, 4, 5, 6, 7] rfl) hP hD hS
            exact L8 n _ _ _ _ _ _ (lv_sub hl [1, 2, 3, 4, 5, 0] rfl) hP hD hS hj8
          · rw [if_pos hc_] at hj6
            refine lv_goto (tgt := 113) hx hb dX3_spread_39 (by decide) ?_
            exact J6 _ (Option.some.inj hj6).symm _ _ _ (lv_sub hl [0, 1, 2, 3, 4] rfl) hP hD hS
  exact L2 n _ _ _ _ _ _ (lv_sub hl [2, 3, 4, 1, 0] rfl) hP hD hS hj2
def F_X3_reckon_L35 (n : Nat) (x4 : Int) (p1_states : Int) (p3 : Nat → Int) (p1_steps : Nat → Int) (v35_5 : Int) (t_upper_l35 : Int) (t_lower_l35 : Int) (a_t_weights_l35 : Nat) (t_weights_l35 : Nat → Int) (a_t_next_l35 : Nat) (t_next_l35 : Nat → Int) : Option ((Int × Int × Int × Nat × (Nat → Int) × Nat × (Nat → Int)) ⊕ (Int × Int × Nat × (Nat → Int) × Nat × (Nat → Int))) :=
  ck (r4 v35_5 ∧ r4 x4) <|
  if v35_5 < x4 then
    ck (r4 v35_5) <|
    if v35_5 < 8 then
      (F_X3_spread n a_t_next_l35 t_next_l35 p1_states a_t_weights_l35 t_weights_l35 p3 p1_steps).bind fun o9 =>
      some (.inl (v35_5 + 1, (t_upper_l35 * 10) + o9.1, t_lower_l35 * 10, o9.2.2.2.1, o9.2.2.2.2, o9.2.1, o9.2.2.1))
    else
      some (.inr (t_upper_l35, t_lower_l35, a_t_weights_l35, t_weights_l35, a_t_next_l35, t_next_l35))
  else
    some (.inr (t_upper_l35, t_lower_l35, a_t_weights_l35, t_weights_l35, a_t_next_l35, t_next_l35))
def F_X3_reckon (n : Nat)  (a_t_weights : Nat) (t_weights : Nat → Int) (a_t_next : Nat) (t_next : Nat → Int) (p1_states : Int) (p3 : Nat → Int) (p1_steps : Nat → Int) (x2 : Int) (x4 : Int) : Option (Int × Int × Nat × (Nat → Int) × Nat × (Nat → Int)) :=
  (F_J7_fill_53178 n 64 t_weights 0).bind fun o1 =>
  (F_X11_isPast n x2).bind fun o2 =>
  Option.bind (α := (Nat → Int)) (
    ck (r4 o2) <|
    if o2 = 0 then
      some o1
    else
      ck (ix_ x2 64) <|
      some (up_ o1 (x2).toNat 1)) fun o3 =>
  (lp_ (fun (q : Int × Int × Int × Nat × (Nat → Int) × Nat × (Nat → Int)) => F_X3_reckon_L35 n x4 p1_states p3 p1_steps q.1 q.2.1 q.2.2.1 q.2.2.2.1 q.2.2.2.2.1 q.2.2.2.2.2.1 q.2.2.2.2.2.2) n (0, 0, 1, a_t_weights, o3, a_t_next, t_next)).bind fun o6 =>
  (F_X3_commonDivisor n o6.1 o6.2.1).bind fun o10 =>
  Option.bind (α := Int × Int) (
    ck (r4 o10) <|
    if 1 < o10 then
      ck (d4_ o6.1 o10) <|
      ck (d4_ o6.2.1 o10) <|
      some (o6.1 / o10, o6.2.1 / o10)
    else
      some (o6.1, o6.2.1)) fun o11 =>
  some (o11.1, o11.2, o6.2.2.1, o6.2.2.2.1, o6.2.2.2.2.1, o6.2.2.2.2.2)
def rm_X3_reckon : Room := { frames := 2, cells := 0, slots := 0, locals := 50 }
set_option maxHeartbeats 4000000 in
set_option maxRecDepth 100000 in
theorem k_X3_reckon {l : Launch} {D : va_G} {E : Nat → ClassId} (n : Nat) (a_t a_t_weights a_t_next a_p1 a_p1_plan a_p1_leads a_p1_part a_p1_finer a_p1_keys a_p1_stateOfPart a_p1_pastOfState a_p1_steps a_p1_away a_p3 : Nat) (t_upper : Int) (t_lower : Int) (t_weights : Nat → Int) (t_next : Nat → Int) (p1_pasts : Int) (p1_states : Int) (p3 : Nat → Int) (p1_steps : Nat → Int) (x2 : Int) (x4 : Int) (res : Int × Int × Nat × (Nat → Int) × Nat × (Nat → Int)) (hf : F_X3_reckon n a_t_weights t_weights a_t_next t_next p1_states p3 p1_steps x2 x4 = some res) : MW l yX3_reckon (.code yX3_reckon cX3_reckon 6 none) rm_X3_reckon D E [.ref a_t, .ref a_p1, .int (z4 x2), .ref a_p3, .int (z4 x4)] [(a_t, .inr (3, [.ref a_t_weights, .ref a_t_next, .int (z4 t_upper), .int (z4 t_lower)])), (a_t_weights, .inl (E 0, 64, .inl (A4 t_weights))), (a_t_next, .inl (E 0, 64, .inl (A4 t_next))), (a_p1, .inr (1, [.ref a_p1_plan, .int (z4 p1_pasts), .ref a_p1_leads, .ref a_p1_part, .ref a_p1_finer, .ref a_p1_keys, .ref a_p1_stateOfPart, .ref a_p1_pastOfState, .int (z4 p1_states), .ref a_p1_steps, .ref a_p1_away])), (a_p3, .inl (E 0, 5, .inl (A4 p3))), (a_p1_steps, .inl (E 0, 320, .inl (A4 p1_steps)))] none [(a_t, .inr (3, [.ref res.2.2.1, .ref res.2.2.2.2.1, .int (z4 res.1), .int (z4 res.2.1)])), (res.2.2.1, .inl (E 0, 64, .inl (A4 res.2.2.2.1))), (res.2.2.2.2.1, .inl (E 0, 64, .inl (A4 res.2.2.2.2.2))), (a_p1, .inr (1, [.ref a_p1_plan, .int (z4 p1_pasts), .ref a_p1_leads, .ref a_p1_part, .ref a_p1_finer, .ref a_p1_keys, .ref a_p1_stateOfPart, .ref a_p1_pastOfState, .int (z4 p1_states), .ref a_p1_steps, .ref a_p1_away])), (a_p3, .inl (E 0, 5, .inl (A4 p3))), (a_p1_steps, .inl (E 0, 320, .inl (A4 p1_steps)))] := by
  refine MWv (by decide) (Nat.le_of_ble_eq_true rfl) ?_
  intro p e s m args below meth c A Q X hK hP hD hA ret ls hl
  have hS : va_S A s.heap s.heap [] := va_S.rf
  have hx := X.1
  have hb := X.2.1
  have hl : lv_has ls 6 [(0, .ref a_t), (1, .ref a_p1), (2, .int (z4 x2)), (3, .ref a_p3), (4, .int (z4 x4))] := hl
  unfold F_X3_reckon at hf
  refine lv_aload_n hx hb dX3_reckon_0 rfl (lv_at hl 0 rfl) ?_
  refine m_get X hK hP cl_X3 iT_X3 0 (by decide) fl_X3_9 0 rfl rfl dX3_reckon_1 ?_
  refine m_iconst X dX3_reckon_4 ?_
  obtain ⟨o1, ho, hf⟩ := bd_some hf
  refine m_cSW X hK hP hD hS hA (wr := [(a_t, .inr (3, [.ref a_t_weights, .ref a_t_next, .int (z4 t_upper), .int (z4 t_lower)])), (a_t_next, .inl (E 0, 64, .inl (A4 t_next))), (a_p1, .inr (1, [.ref a_p1_plan, .int (z4 p1_pasts), .ref a_p1_leads, .ref a_p1_part, .ref a_p1_finer, .ref a_p1_keys, .ref a_p1_stateOfPart, .ref a_p1_pastOfState, .int (z4 p1_states), .ref a_p1_steps, .ref a_p1_away])), (a_p3, .inl (E 0, 5, .inl (A4 p3))), (a_p1_steps, .inl (E 0, 320, .inl (A4 p1_steps)))]) (k_J7_fill_53178 n a_t_weights 64 (by decide) t_weights 0 o1 ho) [1] [0, 2, 3, 4, 5] [0, 5, 1, 2, 3, 4] [(a_t, .inr (3, [.ref a_t_weights, .ref a_t_next, .int (z4 t_upper), .int (z4 t_lower)])), (a_t_weights, .inl (E 0, 64, .inl (A4 o1))), (a_t_next, .inl (E 0, 64, .inl (A4 t_next))), (a_p1, .inr (1, [.ref a_p1_plan, .int (z4 p1_pasts), .ref a_p1_leads, .ref a_p1_part, .ref a_p1_finer, .ref a_p1_keys, .ref a_p1_stateOfPart, .ref a_p1_pastOfState, .int (z4 p1_states), .ref a_p1_steps, .ref a_p1_away])), (a_p3, .inl (E 0, 5, .inl (A4 p3))), (a_p1_steps, .inl (E 0, 320, .inl (A4 p1_steps)))] rfl rfl rfl rfl (by decide) rfl rfl lk_X3_18 co_J7_fill_53178 dy_J7_fill_53178 rfl rfl ⟨Nat.le_of_ble_eq_true rfl, Nat.le_of_ble_eq_true rfl⟩ hl.1 rfl (Nat.le_of_ble_eq_true rfl) dX3_reckon_5 (Nat.zero_le _) (Nat.zero_le _) (fun H locs hP hD hS => ?_)
  refine lv_iload_n hx hb dX3_reckon_8 rfl (lv_at hl 2 rfl) ?_
  obtain ⟨o2, ho, hf⟩ := bd_some hf
  refine m_cSRN X hK (k_X11_isPast n x2 o2 ho) (hP.sub (ws' := []) [] rfl) (NK.X3_24 hK.2.2.2) ls_X3_24 co_X11_isPast dy_X11_isPast rfl rfl ⟨Nat.le_of_ble_eq_true rfl, Nat.le_of_ble_eq_true rfl⟩ hl.1 rfl (Nat.le_of_ble_eq_true rfl) dX3_reckon_9 (Nat.zero_le _) (Nat.zero_le _) ?_
  obtain ⟨o3, hj3, hr3⟩ := bd_some hf
  have J3 : ∀ (o_ : (Nat → Int)), o3 = o_ → ∀ (H : Heap) (locs : List Loc) (ls : Array Slot), lv_has ls 6 [(0, .ref a_t), (1, .ref a_p1), (3, .ref a_p3), (4, .int (z4 x4))] → va_P D vwCl [(a_t, .inr (3, [.ref a_t_weights, .ref a_t_next, .int (z4 t_upper), .int (z4 t_lower)])), (a_t_weights, .inl (E 0, 64, .inl (A4 o_))), (a_t_next, .inl (E 0, 64, .inl (A4 t_next))), (a_p1, .inr (1, [.ref a_p1_plan, .int (z4 p1_pasts), .ref a_p1_leads, .ref a_p1_part, .ref a_p1_finer, .ref a_p1_keys, .ref a_p1_stateOfPart, .ref a_p1_pastOfState, .int (z4 p1_states), .ref a_p1_steps, .ref a_p1_away])), (a_p3, .inl (E 0, 5, .inl (A4 p3))), (a_p1_steps, .inl (E 0, 320, .inl (A4 p1_steps)))] H → va_D A [(a_t, .inr (3, [.ref a_t_weights, .ref a_t_next, .int (z4 t_upper), .int (z4 t_lower)])), (a_t_weights, .inl (E 0, 64, .inl (A4 o_))), (a_t_next, .inl (E 0, 64, .inl (A4 t_next))), (a_p1, .inr (1, [.ref a_p1_plan, .int (z4 p1_pasts), .ref a_p1_leads, .ref a_p1_part, .ref a_p1_finer, .ref a_p1_keys, .ref a_p1_stateOfPart, .ref a_p1_pastOfState, .int (z4 p1_states), .ref a_p1_steps, .ref a_p1_away])), (a_p3, .inl (E 0, 5, .inl (A4 p3))), (a_p1_steps, .inl (E 0, 320, .inl (A4 p1_steps)))] → va_S A s.heap H locs → W p l e rm_X3_reckon s m args below meth c H locs 0 0 Q (F0 m 22 ls []) := by
    intro o_ ho_ H locs ls hl hP hD hS
    subst ho_
    refine lv_aload_n hx hb dX3_reckon_22 rfl (lv_at hl 0 rfl) ?_
    refine m_iconst X dX3_reckon_23 ?_
    refine m_put X hK hP hD hS cl_X3 iT_X3 tyX3 tyX3_ok nmX3 2 (by decide) fl_X3_28 rfl 0 rfl rfl rfl (Nat.le_of_ble_eq_true rfl) [(a_t, .inr (3, [.ref a_t_weights, .ref a_t_next, .int (z4 0), .int (z4 t_lower)])), (a_t_weights, .inl (E 0, 64, .inl (A4 o3))), (a_t_next, .inl (E 0, 64, .inl (A4 t_next))), (a_p1, .inr (1, [.ref a_p1_plan, .int (z4 p1_pasts), .ref a_p1_leads, .ref a_p1_part, .ref a_p1_finer, .ref a_p1_keys, .ref a_p1_stateOfPart, .ref a_p1_pastOfState, .int (z4 p1_states), .ref a_p1_steps, .ref a_p1_away])), (a_p3, .inl (E 0, 5, .inl (A4 p3))), (a_p1_steps, .inl (E 0, 320, .inl (A4 p1_steps)))] rfl dX3_reckon_24 (fun H locs hP hD hS => ?_)
    refine lv_aload_n hx hb dX3_reckon_27 rfl (lv_at hl 0 rfl) ?_
    refine m_iconst X dX3_reckon_28 ?_
    refine m_put X hK hP hD hS cl_X3 iT_X3 tyX3 tyX3_ok nmX3 3 (by decide) fl_X3_32 rfl 0 rfl rfl rfl (Nat.le_of_ble_eq_true rfl) [(a_t, .inr (3, [.ref a_t_weights, .ref a_t_next, .int (z4 0), .int (z4 1)])), (a_t_weights, .inl (E 0, 64, .inl (A4 o3))), (a_t_next, .inl (E 0, 64, .inl (A4 t_next))), (a_p1, .inr (1, [.ref a_p1_plan, .int (z4 p1_pasts), .ref a_p1_leads, .ref a_p1_part, .ref a_p1_finer, .ref a_p1_keys, .ref a_p1_stateOfPart, .ref a_p1_pastOfState, .int (z4 p1_states), .ref a_p1_steps, .ref a_p1_away])), (a_p3, .inl (E 0, 5, .inl (A4 p3))), (a_p1_steps, .inl (E 0, 320, .inl (A4 p1_steps)))] rfl dX3_reckon_29 (fun H locs hP hD hS => ?_)
    refine m_iconst X dX3_reckon_32 ?_
    refine lv_istore (lv' := [(5, .int (z4 0)), (0, .ref a_t), (1, .ref a_p1), (3, .ref a_p3), (4, .int (z4 x4))]) hx hb dX3_reckon_33 hl (by decide) rfl (fun ls hl => ?_)
    obtain ⟨o6, hj6, hr6⟩ := bd_some hr3
    have E6_0 : ∀ (o_ : Int × Int × Nat × (Nat → Int) × Nat × (Nat → Int)), o6 = o_ → ∀ (H : Heap) (locs : List Loc) (ls : Array Slot), lv_has ls 6 [(0, .ref a_t)] → va_P D vwCl [(a_t, .inr (3, [.ref o_.2.2.1, .ref o_.2.2.2.2.1, .int (z4 o_.1), .int (z4 o_.2.1)])), (o_.2.2.1, .inl (E 0, 64, .inl (A4 o_.2.2.2.1))), (o_.2.2.2.2.1, .inl (E 0, 64, .inl (A4 o_.2.2.2.2.2))), (a_p1, .inr (1, [.ref a_p1_plan, .int (z4 p1_pasts), .ref a_p1_leads, .ref a_p1_part, .ref a_p1_finer, .ref a_p1_keys, .ref a_p1_stateOfPart, .ref a_p1_pastOfState, .int (z4 p1_states), .ref a_p1_steps, .ref a_p1_away])), (a_p3, .inl (E 0, 5, .inl (A4 p3))), (a_p1_steps, .inl (E 0, 320, .inl (A4 p1_steps)))] H → va_D A [(a_t, .inr (3, [.ref o_.2.2.1, .ref o_.2.2.2.2.1, .int (z4 o_.1), .int (z4 o_.2.1)])), (o_.2.2.1, .inl (E 0, 64, .inl (A4 o_.2.2.2.1))), (o_.2.2.2.2.1, .inl (E 0, 64, .inl (A4 o_.2.2.2.2.2))), (a_p1, .inr (1, [.ref a_p1_plan, .int (z4 p1_pasts), .ref a_p1_leads, .ref a_p1_part, .ref a_p1_finer, .ref a_p1_keys, .ref a_p1_stateOfPart, .ref a_p1_pastOfState, .int (z4 p1_states), .ref a_p1_steps, .ref a_p1_away])), (a_p3, .inl (E 0, 5, .inl (A4 p3))), (a_p1_steps, .inl (E 0, 320, .inl (A4 p1_steps)))] → va_S A s.heap H locs → W p l e rm_X3_reckon s m args below meth c H locs 0 0 Q (F0 m 84 ls []) := by
      intro o_ ho_ H locs ls hl hP hD hS
      subst ho_
      refine lv_aload_n hx hb dX3_reckon_84 rfl (lv_at hl 0 rfl) ?_
      refine m_get X hK hP cl_X3 iT_X3 2 (by decide) fl_X3_28 0 rfl rfl dX3_reckon_85 ?_
      refine lv_aload_n hx hb dX3_reckon_88 rfl (lv_at hl 0 rfl) ?_
      refine m_get X hK hP cl_X3 iT_X3 3 (by decide) fl_X3_32 0 rfl rfl dX3_reckon_89 ?_
      obtain ⟨o10, ho, hr6⟩ := bd_some hr6
      refine m_cSR X hK (k_X3_commonDivisor n o6.1 o6.2.1 o10 ho) (hP.sub (ws' := []) [] rfl) lk_X3_39 co_X3_commonDivisor dy_X3_commonDivisor rfl rfl ⟨Nat.le_of_ble_eq_true rfl, Nat.le_of_ble_eq_true rfl⟩ hl.1 rfl (Nat.le_of_ble_eq_true rfl) dX3_reckon_92 (Nat.zero_le _) (Nat.zero_le _) ?_
      refine lv_istore (lv' := [(5, .int (z4 o10)), (0, .ref a_t)]) hx hb dX3_reckon_95 hl (by decide) rfl (fun ls hl => ?_)
      refine lv_iload hx hb dX3_reckon_97 (lv_at hl 0 rfl) ?_
      refine m_iconst X dX3_reckon_99 ?_
      obtain ⟨o11, hj11, hr11⟩ := bd_some hr6
      have J11 : ∀ (o_ : Int × Int), o11 = o_ → ∀ (H : Heap) (locs : List Loc) (ls : Array Slot), lv_has ls 6 [] → va_P D vwCl [(a_t, .inr (3, [.ref o6.2.2.1, .ref o6.2.2.2.2.1, .int (z4 o_.1), .int (z4 o_.2)])), (o6.2.2.1, .inl (E 0, 64, .inl (A4 o6.2.2.2.1))), (o6.2.2.2.2.1, .inl (E 0, 64, .inl (A4 o6.2.2.2.2.2))), (a_p1, .inr (1, [.ref a_p1_plan, .int (z4 p1_pasts), .ref a_p1_leads, .ref a_p1_part, .ref a_p1_finer, .ref a_p1_keys, .ref a_p1_stateOfPart, .ref a_p1_pastOfState, .int (z4 p1_states), .ref a_p1_steps, .ref a_p1_away])), (a_p3, .inl (E 0, 5, .inl (A4 p3))), (a_p1_steps, .inl (E 0, 320, .inl (A4 p1_steps)))] H → va_D A [(a_t, .inr (3, [.ref o6.2.2.1, .ref o6.2.2.2.2.1, .int (z4 o_.1), .int (z4 o_.2)])), (o6.2.2.1, .inl (E 0, 64, .inl (A4 o6.2.2.2.1))), (o6.2.2.2.2.1, .inl (E 0, 64, .inl (A4 o6.2.2.2.2.2))), (a_p1, .inr (1, [.ref a_p1_plan, .int (z4 p1_pasts), .ref a_p1_leads, .ref a_p1_part, .ref a_p1_finer, .ref a_p1_keys, .ref a_p1_stateOfPart, .ref a_p1_pastOfState, .int (z4 p1_states), .ref a_p1_steps, .ref a_p1_away])), (a_p3, .inl (E 0, 5, .inl (A4 p3))), (a_p1_steps, .inl (E 0, 320, .inl (A4 p1_steps)))] → va_S A s.heap H locs → W p l e rm_X3_reckon s m args below meth c H locs 0 0 Q (F0 m 125 ls []) := by
        intro o_ ho_ H locs ls hl hP hD hS
        subst ho_
        obtain rfl := Option.some.inj hr11
        exact ret _ _ _ _ hP hD hS dX3_reckon_125
      obtain ⟨h12, hj11⟩ := ck_some hj11
      refine m_icmp_le X ⟨h12, ⟨by decide, by decide⟩⟩ dX3_reckon_100 (tgt := 125) (by decide) (fun (hc_ : ¬ (1 < o10)) => ?_) (fun (hc_ : 1 < o10) => ?_)
      · rw [if_neg hc_] at hj11
        exact J11 _ (Option.some.inj hj11).symm _ _ _ (lv_sub hl [] rfl) hP hD hS
      · rw [if_pos hc_] at hj11
        refine lv_aload_n hx hb dX3_reckon_103 rfl (lv_at hl 1 rfl) ?_
        refine lv_dup hx hb dX3_reckon_104 rfl ?_
        refine m_get X hK hP cl_X3 iT_X3 2 (by decide) fl_X3_28 0 rfl rfl dX3_reckon_105 ?_
        refine lv_iload hx hb dX3_reckon_108 (lv_at hl 0 rfl) ?_
        obtain ⟨h13, hj11⟩ := ck_some hj11
        refine m_idiv X h13 dX3_reckon_110 ?_
        refine m_put X hK hP hD hS cl_X3 iT_X3 tyX3 tyX3_ok nmX3 2 (by decide) fl_X3_28 rfl 0 rfl rfl rfl (Nat.le_of_ble_eq_true rfl) [(a_t, .inr (3, [.ref o6.2.2.1, .ref o6.2.2.2.2.1, .int (z4 (o6.1 / o10)), .int (z4 o6.2.1)])), (o6.2.2.1, .inl (E 0, 64, .inl (A4 o6.2.2.2.1))), (o6.2.2.2.2.1, .inl (E 0, 64, .inl (A4 o6.2.2.2.2.2))), (a_p1, .inr (1, [.ref a_p1_plan, .int (z4 p1_pasts), .ref a_p1_leads, .ref a_p1_part, .ref a_p1_finer, .ref a_p1_keys, .ref a_p1_stateOfPart, .ref a_p1_pastOfState, .int (z4 p1_states), .ref a_p1_steps, .ref a_p1_away])), (a_p3, .inl (E 0, 5, .inl (A4 p3))), (a_p1_steps, .inl (E 0, 320, .inl (A4 p1_steps)))] rfl dX3_reckon_111 (fun H locs hP hD hS => ?_)
        refine lv_aload_n hx hb dX3_reckon_114 rfl (lv_at hl 1 rfl) ?_
        refine lv_dup hx hb dX3_reckon_115 rfl ?_
        refine m_get X hK hP cl_X3 iT_X3 3 (by decide) fl_X3_32 0 rfl rfl dX3_reckon_116 ?_
        refine lv_iload hx hb dX3_reckon_119 (lv_at hl 0 rfl) ?_
        obtain ⟨h14, hj11⟩ := ck_some hj11
        refine m_idiv X h14 dX3_reckon_121 ?_
        refine m_put X hK hP hD hS cl_X3 iT_X3 tyX3 tyX3_ok nmX3 3 (by decide) fl_X3_32 rfl 0 rfl rfl rfl (Nat.le_of_ble_eq_true rfl) [(a_t, .inr (3, [.ref o6.2.2.1, .ref o6.2.2.2.2.1, .int (z4 (o6.1 / o10)), .int (z4 (o6.2.1 / o10))])), (o6.2.2.1, .inl (E 0, 64, .inl (A4 o6.2.2.2.1))), (o6.2.2.2.2.1, .inl (E 0, 64, .inl (A4 o6.2.2.2.2.2))), (a_p1, .inr (1, [.ref a_p1_plan, .int (z4 p1_pasts), .ref a_p1_leads, .ref a_p1_part, .ref a_p1_finer, .ref a_p1_keys, .ref a_p1_stateOfPart, .ref a_p1_pastOfState, .int (z4 p1_states), .ref a_p1_steps, .ref a_p1_away])), (a_p3, .inl (E 0, 5, .inl (A4 p3))), (a_p1_steps, .inl (E 0, 320, .inl (A4 p1_steps)))] rfl dX3_reckon_122 (fun H locs hP hD hS => ?_)
        exact J11 _ (Option.some.inj hj11).symm _ _ _ (lv_sub hl [] rfl) hP hD hS
    have L6 : ∀ (k_ : Nat) (v35_5 : Int) (t_upper_l35 : Int) (t_lower_l35 : Int) (a_t_weights_l35 : Nat) (t_weights_l35 : Nat → Int) (a_t_next_l35 : Nat) (t_next_l35 : Nat → Int), ∀ (H : Heap) (locs : List Loc) (ls : Array Slot), lv_has ls 6 [(0, .ref a_t), (1, .ref a_p1), (3, .ref a_p3), (4, .int (z4 x4)), (5, .int (z4 v35_5))] → va_P D vwCl [(a_t, .inr (3, [.ref a_t_weights_l35, .ref a_t_next_l35, .int (z4 t_upper_l35), .int (z4 t_lower_l35)])), (a_t_weights_l35, .inl (E 0, 64, .inl (A4 t_weights_l35))), (a_t_next_l35, .inl (E 0, 64, .inl (A4 t_next_l35))), (a_p1, .inr (1, [.ref a_p1_plan, .int (z4 p1_pasts), .ref a_p1_leads, .ref a_p1_part, .ref a_p1_finer, .ref a_p1_keys, .ref a_p1_stateOfPart, .ref a_p1_pastOfState, .int (z4 p1_states), .ref a_p1_steps, .ref a_p1_away])), (a_p3, .inl (E 0, 5, .inl (A4 p3))), (a_p1_steps, .inl (E 0, 320, .inl (A4 p1_steps)))] H → va_D A [(a_t, .inr (3, [.ref a_t_weights_l35, .ref a_t_next_l35, .int (z4 t_upper_l35), .int (z4 t_lower_l35)])), (a_t_weights_l35, .inl (E 0, 64, .inl (A4 t_weights_l35))), (a_t_next_l35, .inl (E 0, 64, .inl (A4 t_next_l35))), (a_p1, .inr (1, [.ref a_p1_plan, .int (z4 p1_pasts), .ref a_p1_leads, .ref a_p1_part, .ref a_p1_finer, .ref a_p1_keys, .ref a_p1_stateOfPart, .ref a_p1_pastOfState, .int (z4 p1_states), .ref a_p1_steps, .ref a_p1_away])), (a_p3, .inl (E 0, 5, .inl (A4 p3))), (a_p1_steps, .inl (E 0, 320, .inl (A4 p1_steps)))] → va_S A s.heap H locs → lp_ (fun (q : Int × Int × Int × Nat × (Nat → Int) × Nat × (Nat → Int)) => F_X3_reckon_L35 n x4 p1_states p3 p1_steps q.1 q.2.1 q.2.2.1 q.2.2.2.1 q.2.2.2.2.1 q.2.2.2.2.2.1 q.2.2.2.2.2.2) k_ (v35_5, t_upper_l35, t_lower_l35, a_t_weights_l35, t_weights_l35, a_t_next_l35, t_next_l35) = some o6 → W p l e rm_X3_reckon s m args below meth c H locs 0 0 Q (F0 m 35 ls []) := by
      intro k_
      induction k_ with
      | zero =>
        intro v35_5 t_upper_l35 t_lower_l35 a_t_weights_l35 t_weights_l35 a_t_next_l35 t_next_l35 H locs ls hl hP hD hS hq_; exact (lp_zero hq_).elim
      | succ k_ ih6 =>
        intro v35_5 t_upper_l35 t_lower_l35 a_t_weights_l35 t_weights_l35 a_t_next_l35 t_next_l35 H locs ls hl hP hD hS hq_
        obtain ⟨t_6, hb6, hq6⟩ := lp_some hq_
        replace hb6 : F_X3_reckon_L35 n x4 p1_states p3 p1_steps v35_5 t_upper_l35 t_lower_l35 a_t_weights_l35 t_weights_l35 a_t_next_l35 t_next_l35 = some t_6 := hb6
        unfold F_X3_reckon_L35 at hb6
        refine lv_iload hx hb dX3_reckon_35 (lv_at hl 4 rfl) ?_
        refine lv_iload hx hb dX3_reckon_37 (lv_at hl 3 rfl) ?_
        obtain ⟨h7, hb6⟩ := ck_some hb6
        refine m_icmp_ge X h7 dX3_reckon_39 (tgt := 84) (by decide) (fun (hc_ : ¬ (v35_5 < x4)) => ?_) (fun (hc_ : v35_5 < x4) => ?_)
        · rw [if_neg hc_] at hb6
          obtain rfl := Option.some.inj hb6
          exact E6_0 _ (Option.some.inj hq6).symm _ _ _ (lv_sub hl [0] rfl) hP hD hS
        · rw [if_pos hc_] at hb6
          refine lv_iload hx hb dX3_reckon_42 (lv_at hl 4 rfl) ?_
          refine m_bipush X dX3_reckon_44 (by decide) ?_
          obtain ⟨h8, hb6⟩ := ck_some hb6
          refine m_icmp_ge X ⟨h8, ⟨by decide, by decide⟩⟩ dX3_reckon_46 (tgt := 84) (by decide) (fun (hc_ : ¬ (v35_5 < 8)) => ?_) (fun (hc_ : v35_5 < 8) => ?_)
          · rw [if_neg hc_] at hb6
            obtain rfl := Option.some.inj hb6
            exact E6_0 _ (Option.some.inj hq6).symm _ _ _ (lv_sub hl [0] rfl) hP hD hS
          · rw [if_pos hc_] at hb6
            refine lv_aload_n hx hb dX3_reckon_49 rfl (lv_at hl 0 rfl) ?_
            refine lv_aload_n hx hb dX3_reckon_50 rfl (lv_at hl 0 rfl) ?_
            refine m_get X hK hP cl_X3 iT_X3 2 (by decide) fl_X3_28 0 rfl rfl dX3_reckon_51 ?_
            refine m_bipush X dX3_reckon_54 (by decide) ?_
            refine m_imul X dX3_reckon_56 ?_
            refine lv_aload_n hx hb dX3_reckon_57 rfl (lv_at hl 0 rfl) ?_
            refine lv_aload_n hx hb dX3_reckon_58 rfl (lv_at hl 1 rfl) ?_
            refine lv_aload_n hx hb dX3_reckon_59 rfl (lv_at hl 2 rfl) ?_
            obtain ⟨o9, ho, hb6⟩ := bd_some hb6
            refine m_cVW X hK hP hD hS hA (wr := []) (k_X3_spread n a_t a_t_weights_l35 a_t_next_l35 a_p1 a_p1_plan a_p1_leads a_p1_part a_p1_finer a_p1_keys a_p1_stateOfPart a_p1_pastOfState a_p1_steps a_p1_away a_p3 t_upper_l35 t_lower_l35 t_next_l35 p1_pasts p1_states t_weights_l35 p3 p1_steps o9 ho) [0, 2, 3, 1, 4, 5] [] [0, 3, 1, 2, 4, 5] [(a_t, .inr (3, [.ref o9.2.2.2.1, .ref o9.2.1, .int (z4 t_upper_l35), .int (z4 t_lower_l35)])), (o9.2.2.2.1, .inl (E 0, 64, .inl (A4 o9.2.2.2.2))), (o9.2.1, .inl (E 0, 64, .inl (A4 o9.2.2.1))), (a_p1, .inr (1, [.ref a_p1_plan, .int (z4 p1_pasts), .ref a_p1_leads, .ref a_p1_part, .ref a_p1_finer, .ref a_p1_keys, .ref a_p1_stateOfPart, .ref a_p1_pastOfState, .int (z4 p1_states), .ref a_p1_steps, .ref a_p1_away])), (a_p3, .inl (E 0, 5, .inl (A4 p3))), (a_p1_steps, .inl (E 0, 320, .inl (A4 p1_steps)))] rfl rfl rfl rfl (by decide) rfl rfl rfl cl_X3 lk_X3_35 co_X3_spread dy_X3_spread rfl rfl ⟨Nat.le_of_ble_eq_true rfl, Nat.le_of_ble_eq_true rfl⟩ hl.1 rfl (Nat.le_of_ble_eq_true rfl) dX3_reckon_60 (Nat.zero_le _) (Nat.zero_le _) (fun H locs hP hD hS => ?_)
            refine m_iadd X dX3_reckon_63 ?_
            refine m_put X hK hP hD hS cl_X3 iT_X3 tyX3 tyX3_ok nmX3 2 (by decide) fl_X3_28 rfl 0 rfl rfl rfl (Nat.le_of_ble_eq_true rfl) [(a_t, .inr (3, [.ref o9.2.2.2.1, .ref o9.2.1, .int (z4 ((t_upper_l35 * 10) + o9.1)), .int (z4 t_lower_l35)])), (o9.2.2.2.1, .inl (E 0, 64, .inl (A4 o9.2.2.2.2))), (o9.2.1, .inl (E 0, 64, .inl (A4 o9.2.2.1))), (a_p1, .inr (1, [.ref a_p1_plan, .int (z4 p1_pasts), .ref a_p1_leads, .ref a_p1_part, .ref a_p1_finer, .ref a_p1_keys, .ref a_p1_stateOfPart, .ref a_p1_pastOfState, .int (z4 p1_states), .ref a_p1_steps, .ref a_p1_away])), (a_p3, .inl (E 0, 5, .inl (A4 p3))), (a_p1_steps, .inl (E 0, 320, .inl (A4 p1_steps)))] rfl dX3_reckon_64 (fun H locs hP hD hS => ?_)
            refine lv_aload_n hx hb dX3_reckon_67 rfl (lv_at hl 0 rfl) ?_
            refine lv_dup hx hb dX3_reckon_68 rfl ?_
            refine m_get X hK hP cl_X3 iT_X3 3 (by decide) fl_X3_32 0 rfl rfl dX3_reckon_69 ?_
            refine m_bipush X dX3_reckon_72 (by decide) ?_
            refine m_imul X dX3_reckon_74 ?_
            refine m_put X hK hP hD hS cl_X3 iT_X3 tyX3 tyX3_ok nmX3 3 (by decide) fl_X3_32 rfl 0 rfl rfl rfl (Nat.le_of_ble_eq_true rfl) [(a_t, .inr (3, [.ref o9.2.2.2.1, .ref o9.2.1, .int (z4 ((t_upper_l35 * 10) + o9.1)), .int (z4 (t_lower_l35 * 10))])), (o9.2.2.2.1, .inl (E 0, 64, .inl (A4 o9.2.2.2.2))), (o9.2.1, .inl (E 0, 64, .inl (A4 o9.2.2.1))), (a_p1, .inr (1, [.ref a_p1_plan, .int (z4 p1_pasts), .ref a_p1_leads, .ref a_p1_part, .ref a_p1_finer, .ref a_p1_keys, .ref a_p1_stateOfPart, .ref a_p1_pastOfState, .int (z4 p1_states), .ref a_p1_steps, .ref a_p1_away])), (a_p3, .inl (E 0, 5, .inl (A4 p3))), (a_p1_steps, .inl (E 0, 320, .inl (A4 p1_steps)))] rfl dX3_reckon_75 (fun H locs hP hD hS => ?_)
            refine m_iinc X 4 [(5, .int (z4 (v35_5 + 1))), (0, .ref a_t), (1, .ref a_p1), (3, .ref a_p3), (4, .int (z4 x4))] dX3_reckon_78 hl rfl (by decide) rfl (fun ls hl => ?_)
            refine lv_goto (tgt := 35) hx hb dX3_reckon_81 (by decide) ?_
            obtain rfl := Option.some.inj hb6
            exact ih6 _ _ _ _ _ _ _ _ _ _ (lv_sub hl [1, 2, 3, 4, 0] rfl) hP hD hS hq6
    exact L6 n _ _ _ _ _ _ _ _ _ _ (lv_sub hl [1, 2, 3, 4, 0] rfl) hP hD hS hj6
  obtain ⟨h4, hj3⟩ := ck_some hj3
  refine m_if_eq X h4 dX3_reckon_12 (tgt := 22) (by decide) (fun (hc_ : o2 = 0) => ?_) (fun (hc_ : ¬ (o2 = 0)) => ?_)
  · rw [if_pos hc_] at hj3
    exact J3 _ (Option.some.inj hj3).symm _ _ _ (lv_sub hl [0, 1, 3, 4] rfl) hP hD hS
  · rw [if_neg hc_] at hj3
    refine lv_aload_n hx hb dX3_reckon_15 rfl (lv_at hl 0 rfl) ?_
    refine m_get X hK hP cl_X3 iT_X3 0 (by decide) fl_X3_9 0 rfl rfl dX3_reckon_16 ?_
    refine lv_iload_n hx hb dX3_reckon_19 rfl (lv_at hl 2 rfl) ?_
    refine m_iconst X dX3_reckon_20 ?_
    obtain ⟨h5, hj3⟩ := ck_some hj3
    refine m_iast X hK hP hD hS 1 rfl (by decide) h5 [(a_t, .inr (3, [.ref a_t_weights, .ref a_t_next, .int (z4 t_upper), .int (z4 t_lower)])), (a_t_weights, .inl (E 0, 64, .inl (A4 (up_ o1 (x2).toNat 1)))), (a_t_next, .inl (E 0, 64, .inl (A4 t_next))), (a_p1, .inr (1, [.ref a_p1_plan, .int (z4 p1_pasts), .ref a_p1_leads, .ref a_p1_part, .ref a_p1_finer, .ref a_p1_keys, .ref a_p1_stateOfPart, .ref a_p1_pastOfState, .int (z4 p1_states), .ref a_p1_steps, .ref a_p1_away])), (a_p3, .inl (E 0, 5, .inl (A4 p3))), (a_p1_steps, .inl (E 0, 320, .inl (A4 p1_steps)))] rfl dX3_reckon_21 (fun H locs hP hD hS => ?_)
    exact J3 _ (Option.some.inj hj3).symm _ _ _ (lv_sub hl [0, 1, 3, 4] rfl) hP hD hS
