def F_X12_common_L6 (n : Nat) (v6_4 : Int) (v6_6 : Int) : Option ((Int × Int) ⊕ (Int)) :=
  ck (r8 v6_6) <|
  if v6_6 = 0 then
    some (.inr v6_4)
  else
    ck (d8_ v6_4 v6_6) <|
    some (.inl (v6_6, v6_4 % v6_6))
def F_X12_common (n : Nat)   (x0 : Int) (x2 : Int) : Option (Int) :=
  (lp_ (fun (q : Int × Int) => F_X12_common_L6 n q.1 q.2) n (x0, x2)).bind fun o1 =>
  some o1
def rm_X12_common : Room := { frames := 0, cells := 0, slots := 0, locals := 0 }
set_option maxHeartbeats 4000000 in
set_option maxRecDepth 100000 in
theorem k_X12_common {l : Launch} {D : va_G} {E : Nat → ClassId} (n : Nat) (x0 : Int) (x2 : Int) (res : Int) (hf : F_X12_common n x0 x2 = some res) : MR l yX12_common (.code yX12_common cX12_common 10 (some .long)) rm_X12_common D E [.long (z8 x0), .long (z8 x2)] [] (some (.long (z8 res))) := by
  refine MRl (by decide) (Nat.le_of_ble_eq_true rfl) ?_
  intro p e s m args below meth c Q X hK hP ret ls hl
  have hx := X.1
  have hb := X.2.1
  have hl : lv_has ls 10 [(0, .long (z8 x0)), (2, .long (z8 x2))] := hl
  unfold F_X12_common at hf
  refine lv_lload_n hx hb dX12_common_0 rfl (lv_at hl 0 rfl) ?_
  refine lv_lstore (lv' := [(4, .long (z8 x0)), (0, .long (z8 x0)), (2, .long (z8 x2))]) hx hb dX12_common_1 hl (by decide) rfl (fun ls hl => ?_)
  refine lv_lload_n hx hb dX12_common_3 rfl (lv_at hl 2 rfl) ?_
  refine lv_lstore (lv' := [(6, .long (z8 x2)), (4, .long (z8 x0)), (0, .long (z8 x0)), (2, .long (z8 x2))]) hx hb dX12_common_4 hl (by decide) rfl (fun ls hl => ?_)
  obtain ⟨o1, hj1, hr1⟩ := bd_some hf
  have E1_0 : ∀ (o_ : Int), o1 = o_ → ∀ (ls : Array Slot), lv_has ls 10 [(4, .long (z8 o_))] → W p l e rm_X12_common s m args below meth c s.heap [] 0 0 Q (F0 m 31 ls []) := by
    intro o_ ho_ ls hl 
    subst ho_
    refine lv_lload hx hb dX12_common_31 (lv_at hl 0 rfl) ?_
    obtain rfl := Option.some.inj hr1
    exact ret _ _ dX12_common_33
  have L1 : ∀ (k_ : Nat) (v6_4 : Int) (v6_6 : Int), ∀ (ls : Array Slot), lv_has ls 10 [(4, .long (z8 v6_4)), (6, .long (z8 v6_6))] → lp_ (fun (q : Int × Int) => F_X12_common_L6 n q.1 q.2) k_ (v6_4, v6_6) = some o1 → W p l e rm_X12_common s m args below meth c s.heap [] 0 0 Q (F0 m 6 ls []) := by
    intro k_
    induction k_ with
    | zero =>
      intro v6_4 v6_6 ls hl  hq_; exact (lp_zero hq_).elim
    | succ k_ ih1 =>
      intro v6_4 v6_6 ls hl  hq_
      obtain ⟨t_1, hb1, hq1⟩ := lp_some hq_
      replace hb1 : F_X12_common_L6 n v6_4 v6_6 = some t_1 := hb1
      unfold F_X12_common_L6 at hb1
      refine lv_lload hx hb dX12_common_6 (lv_at hl 1 rfl) ?_
      refine m_lconst X 0 rfl dX12_common_8 ?_
      obtain ⟨h2, hb1⟩ := ck_some hb1
      refine m_lcmp_eq X ⟨h2, ⟨by decide, by decide⟩⟩ dX12_common_9 dX12_common_10 (tgt := 31) (by decide) (fun (hc_ : v6_6 = 0) => ?_) (fun (hc_ : ¬ (v6_6 = 0)) => ?_)
      · rw [if_pos hc_] at hb1
        obtain rfl := Option.some.inj hb1
        exact E1_0 _ (Option.some.inj hq1).symm _ (lv_sub hl [0] rfl) 
      · rw [if_neg hc_] at hb1
        refine lv_lload hx hb dX12_common_13 (lv_at hl 0 rfl) ?_
        refine lv_lload hx hb dX12_common_15 (lv_at hl 1 rfl) ?_
        obtain ⟨h3, hb1⟩ := ck_some hb1
        refine m_lrem X h3 dX12_common_17 ?_
        refine lv_lstore (lv' := [(8, .long (z8 (v6_4 % v6_6))), (4, .long (z8 v6_4)), (6, .long (z8 v6_6))]) hx hb dX12_common_18 hl (by decide) rfl (fun ls hl => ?_)
        refine lv_lload hx hb dX12_common_20 (lv_at hl 2 rfl) ?_
        refine lv_lstore (lv' := [(4, .long (z8 v6_6)), (8, .long (z8 (v6_4 % v6_6))), (6, .long (z8 v6_6))]) hx hb dX12_common_22 hl (by decide) rfl (fun ls hl => ?_)
        refine lv_lload hx hb dX12_common_24 (lv_at hl 1 rfl) ?_
        refine lv_lstore (lv' := [(6, .long (z8 (v6_4 % v6_6))), (4, .long (z8 v6_6)), (8, .long (z8 (v6_4 % v6_6)))]) hx hb dX12_common_26 hl (by decide) rfl (fun ls hl => ?_)
        refine lv_goto (tgt := 6) hx hb dX12_common_28 (by decide) ?_
        obtain rfl := Option.some.inj hb1
        exact ih1 _ _ _ (lv_sub hl [1, 0] rfl)  hq1
  exact L1 n _ _ _ (lv_sub hl [1, 0] rfl)  hj1
def F_X12_odds_L32 (n : Nat) (o5 : Int × Int × Int × Int × (Nat → Int) × (Nat → Int) × (Nat → Int) × (Nat → Int) × (Nat → Int) × (Nat → Int) × (Nat → Int) × (Nat → Int) × (Nat → Int) × (Nat → Int) × (Nat → Int) × (Nat → Int) × (Nat → Int)) (v32_6 : Int) (t_ways_l32 : Nat → Int) : Option ((Int × (Nat → Int)) ⊕ ((Nat → Int))) :=
  ck (r4 v32_6 ∧ r4 o5.2.2.2.1) <|
  if v32_6 < o5.2.2.2.1 then
    ck (ix_ v32_6 64) <|
    some (.inl (v32_6 + 1, up_ t_ways_l32 (v32_6).toNat 0))
  else
    some (.inr t_ways_l32)
def F_X12_odds_L82 (n : Nat) (v67_7 : Int) (t_now : Nat → Int) (o5 : Int × Int × Int × Int × (Nat → Int) × (Nat → Int) × (Nat → Int) × (Nat → Int) × (Nat → Int) × (Nat → Int) × (Nat → Int) × (Nat → Int) × (Nat → Int) × (Nat → Int) × (Nat → Int) × (Nat → Int) × (Nat → Int)) (v58_4 : Int) (t_ways_l58 : Nat → Int) (v82_8 : Int) (v82_10 : Int) : Option ((Int × Int) ⊕ (Int)) :=
  ck (r4 v82_10) <|
  if v82_10 < 5 then
    ck (ix_ ((5 * v67_7) + v82_10) 320) <|
    ck (ix_ (10 + v82_10) 98) <|
    ck (r4 (t_now (10 + v82_10).toNat)) <|
    Option.bind (α := Int) (
      ck (r4 (o5.2.2.2.2.2.2.2.2.2.2.2.2.2.2.2.2 ((5 * v67_7) + v82_10).toNat)) <|
      if o5.2.2.2.2.2.2.2.2.2.2.2.2.2.2.2.2 ((5 * v67_7) + v82_10).toNat = (-5) then
        some v58_4
      else
        ck (ix_ (o5.2.2.2.2.2.2.2.2.2.2.2.2.2.2.2.2 ((5 * v67_7) + v82_10).toNat) 64) <|
        some (t_ways_l58 (o5.2.2.2.2.2.2.2.2.2.2.2.2.2.2.2.2 ((5 * v67_7) + v82_10).toNat).toNat)) fun o18 =>
    some (.inl (v82_8 + ((t_now (10 + v82_10).toNat) * o18), v82_10 + 1))
  else
    some (.inr v82_8)
def F_X12_odds_L67 (n : Nat) (o5 : Int × Int × Int × Int × (Nat → Int) × (Nat → Int) × (Nat → Int) × (Nat → Int) × (Nat → Int) × (Nat → Int) × (Nat → Int) × (Nat → Int) × (Nat → Int) × (Nat → Int) × (Nat → Int) × (Nat → Int) × (Nat → Int)) (t_now : Nat → Int) (v58_4 : Int) (t_ways_l58 : Nat → Int) (v67_7 : Int) (t_nextWays_l67 : Nat → Int) : Option ((Int × (Nat → Int)) ⊕ ((Nat → Int))) :=
  ck (r4 v67_7 ∧ r4 o5.2.2.2.1) <|
  if v67_7 < o5.2.2.2.1 then
    (lp_ (fun (q : Int × Int) => F_X12_odds_L82 n v67_7 t_now o5 v58_4 t_ways_l58 q.1 q.2) n (0, 0)).bind fun o13 =>
    ck (ix_ v67_7 64) <|
    some (.inl (v67_7 + 1, up_ t_nextWays_l67 (v67_7).toNat o13))
  else
    some (.inr t_nextWays_l67)
def F_X12_odds_L162 (n : Nat) (o5 : Int × Int × Int × Int × (Nat → Int) × (Nat → Int) × (Nat → Int) × (Nat → Int) × (Nat → Int) × (Nat → Int) × (Nat → Int) × (Nat → Int) × (Nat → Int) × (Nat → Int) × (Nat → Int) × (Nat → Int) × (Nat → Int)) (o11 : (Nat → Int)) (v162_7 : Int) (t_ways_l162 : Nat → Int) : Option ((Int × (Nat → Int)) ⊕ ((Nat → Int))) :=
  ck (r4 v162_7 ∧ r4 o5.2.2.2.1) <|
  if v162_7 < o5.2.2.2.1 then
    ck (ix_ v162_7 64) <|
    ck (ix_ v162_7 64) <|
    some (.inl (v162_7 + 1, up_ t_ways_l162 (v162_7).toNat (o11 (v162_7).toNat)))
  else
    some (.inr t_ways_l162)
def F_X12_odds_L58 (n : Nat) (x1 : Int) (o5 : Int × Int × Int × Int × (Nat → Int) × (Nat → Int) × (Nat → Int) × (Nat → Int) × (Nat → Int) × (Nat → Int) × (Nat → Int) × (Nat → Int) × (Nat → Int) × (Nat → Int) × (Nat → Int) × (Nat → Int) × (Nat → Int)) (t_now : Nat → Int) (v58_4 : Int) (v58_6 : Int) (t_ways_l58 : Nat → Int) (t_nextWays_l58 : Nat → Int) : Option ((Int × Int × (Nat → Int) × (Nat → Int)) ⊕ (Int × (Nat → Int) × (Nat → Int))) :=
  ck (r4 v58_6 ∧ r4 x1) <|
  if v58_6 < x1 then
    (lp_ (fun (q : Int × (Nat → Int)) => F_X12_odds_L67 n o5 t_now v58_4 t_ways_l58 q.1 q.2) n (0, t_nextWays_l58)).bind fun o11 =>
    (lp_ (fun (q : Int × (Nat → Int)) => F_X12_odds_L162 n o5 o11 q.1 q.2) n (0, t_ways_l58)).bind fun o22 =>
    some (.inl (v58_4 * 10, v58_6 + 1, o22, o11))
  else
    some (.inr (v58_4, t_ways_l58, t_nextWays_l58))
def F_X12_odds (n : Nat)  (t_places : Int) (t_kinds : Int) (t_states : Int) (t_now : Nat → Int) (t_metAt : Nat → Int) (t_memoryAt : Nat → Int) (t_isSignal : Nat → Int) (t_upAt : Nat → Int) (t_downAt : Nat → Int) (t_placeOf : Nat → Int) (t_memories : Nat → Int) (t_nextPlace : Nat → Int) (t_kindOf : Nat → Int) (t_newKind : Nat → Int) (t_stateOfKind : Nat → Int) (t_stateAt : Nat → Int) (t_stepTo : Nat → Int) (t_ways : Nat → Int) (t_nextWays : Nat → Int) (x1 : Int) (x2 : Int) : Option (Int × Int × Int × Int × (Nat → Int) × (Nat → Int) × (Nat → Int) × (Nat → Int) × (Nat → Int) × (Nat → Int) × (Nat → Int) × (Nat → Int) × (Nat → Int) × (Nat → Int) × (Nat → Int) × (Nat → Int) × (Nat → Int) × (Nat → Int) × (Nat → Int)) :=
  (F_X12_in n x1 0 8).bind fun o1 =>
  ck (r4 o1) <|
  if o1 = 0 then
    some ((-1), t_places, t_kinds, t_states, t_metAt, t_memoryAt, t_isSignal, t_upAt, t_downAt, t_placeOf, t_memories, t_nextPlace, t_kindOf, t_newKind, t_stateOfKind, t_stateAt, t_stepTo, t_ways, t_nextWays)
  else
    (F_X12_in n x2 0 1).bind fun o3 =>
    ck (r4 o3) <|
    if o3 = 0 then
      some ((-1), t_places, t_kinds, t_states, t_metAt, t_memoryAt, t_isSignal, t_upAt, t_downAt, t_placeOf, t_memories, t_nextPlace, t_kindOf, t_newKind, t_stateOfKind, t_stateAt, t_stepTo, t_ways, t_nextWays)
    else
      (F_X12_stateNow n t_now t_metAt t_memoryAt t_isSignal t_upAt t_downAt t_placeOf t_memories t_nextPlace t_kindOf t_newKind t_stateOfKind t_stateAt t_stepTo).bind fun o5 =>
      (lp_ (fun (q : Int × (Nat → Int)) => F_X12_odds_L32 n o5 q.1 q.2) n (0, t_ways)).bind fun o6 =>
      (lp_ (fun (q : Int × Int × (Nat → Int) × (Nat → Int)) => F_X12_odds_L58 n x1 o5 t_now q.1 q.2.1 q.2.2.1 q.2.2.2) n (1, 0, o6, t_nextWays)).bind fun o9 =>
      ck (ix_ o5.1 64) <|
      (F_X12_common n o9.1 (o9.2.1 (o5.1).toNat)).bind fun o27 =>
      Option.bind (α := Int) (
        ck (r4 x2) <|
        if x2 = 0 then
          ck (ix_ o5.1 64) <|
          ck (d8_ (o9.2.1 (o5.1).toNat) o27) <|
          some ((o9.2.1 (o5.1).toNat) / o27)
        else
          ck (d8_ o9.1 o27) <|
          some (o9.1 / o27)) fun o28 =>
      some (o28, o5.2.1, o5.2.2.1, o5.2.2.2.1, o5.2.2.2.2.1, o5.2.2.2.2.2.1, o5.2.2.2.2.2.2.1, o5.2.2.2.2.2.2.2.1, o5.2.2.2.2.2.2.2.2.1, o5.2.2.2.2.2.2.2.2.2.1, o5.2.2.2.2.2.2.2.2.2.2.1, o5.2.2.2.2.2.2.2.2.2.2.2.1, o5.2.2.2.2.2.2.2.2.2.2.2.2.1, o5.2.2.2.2.2.2.2.2.2.2.2.2.2.1, o5.2.2.2.2.2.2.2.2.2.2.2.2.2.2.1, o5.2.2.2.2.2.2.2.2.2.2.2.2.2.2.2.1, o5.2.2.2.2.2.2.2.2.2.2.2.2.2.2.2.2, o9.2.1, o9.2.2)
def rm_X12_odds : Room := { frames := 5, cells := 0, slots := 0, locals := 118 }
set_option maxHeartbeats 4000000 in
set_option maxRecDepth 100000 in
theorem k_X12_odds {l : Launch} {D : va_G} {E : Nat → ClassId} (n : Nat) (a_t a_t_now a_t_read a_t_past a_t_images a_t_isKept a_t_text a_t_metAt a_t_memoryAt a_t_upAt a_t_downAt a_t_isSignal a_t_memories a_t_placeOf a_t_nextPlace a_t_kindOf a_t_newKind a_t_stateOfKind a_t_stateAt a_t_stepTo a_t_far a_t_ways a_t_nextWays a_t_table : Nat) (t_deeds : Int) (t_letters : Int) (t_at : Int) (t_tokenAt : Int) (t_tokenSort : Int) (t_tokenValue : Int) (t_items : Int) (t_isChanceTold : Int) (t_areSumsTold : Int) (t_places : Int) (t_kinds : Int) (t_states : Int) (t_now : Nat → Int) (t_metAt : Nat → Int) (t_memoryAt : Nat → Int) (t_isSignal : Nat → Int) (t_upAt : Nat → Int) (t_downAt : Nat → Int) (t_placeOf : Nat → Int) (t_memories : Nat → Int) (t_nextPlace : Nat → Int) (t_kindOf : Nat → Int) (t_newKind : Nat → Int) (t_stateOfKind : Nat → Int) (t_stateAt : Nat → Int) (t_stepTo : Nat → Int) (t_ways : Nat → Int) (t_nextWays : Nat → Int) (x1 : Int) (x2 : Int) (res : Int × Int × Int × Int × (Nat → Int) × (Nat → Int) × (Nat → Int) × (Nat → Int) × (Nat → Int) × (Nat → Int) × (Nat → Int) × (Nat → Int) × (Nat → Int) × (Nat → Int) × (Nat → Int) × (Nat → Int) × (Nat → Int) × (Nat → Int) × (Nat → Int)) (hf : F_X12_odds n t_places t_kinds t_states t_now t_metAt t_memoryAt t_isSignal t_upAt t_downAt t_placeOf t_memories t_nextPlace t_kindOf t_newKind t_stateOfKind t_stateAt t_stepTo t_ways t_nextWays x1 x2 = some res) : MW l yX12_odds (.code yX12_odds cX12_odds 12 (some .int)) rm_X12_odds D E [.ref a_t, .int (z4 x1), .int (z4 x2)] [(a_t, .inr (12, [.ref a_t_now, .ref a_t_read, .ref a_t_past, .int (z4 t_deeds), .ref a_t_images, .ref a_t_isKept, .ref a_t_text, .int (z4 t_letters), .int (z4 t_at), .int (z4 t_tokenAt), .int (z4 t_tokenSort), .int (z4 t_tokenValue), .int (z4 t_items), .int (z4 t_isChanceTold), .int (z4 t_areSumsTold), .ref a_t_metAt, .ref a_t_memoryAt, .ref a_t_upAt, .ref a_t_downAt, .ref a_t_isSignal, .ref a_t_memories, .ref a_t_placeOf, .ref a_t_nextPlace, .int (z4 t_places), .ref a_t_kindOf, .ref a_t_newKind, .int (z4 t_kinds), .ref a_t_stateOfKind, .ref a_t_stateAt, .ref a_t_stepTo, .int (z4 t_states), .ref a_t_far, .ref a_t_ways, .ref a_t_nextWays, .ref a_t_table])), (a_t_now, .inl (E 0, 98, .inl (A4 t_now))), (a_t_metAt, .inl (E 0, 40, .inl (A4 t_metAt))), (a_t_memoryAt, .inl (E 0, 40, .inl (A4 t_memoryAt))), (a_t_isSignal, .inl (E 1, 40, .inl (A4 t_isSignal))), (a_t_upAt, .inl (E 0, 40, .inl (A4 t_upAt))), (a_t_downAt, .inl (E 0, 40, .inl (A4 t_downAt))), (a_t_placeOf, .inl (E 0, 64, .inl (A4 t_placeOf))), (a_t_memories, .inl (E 0, 64, .inl (A4 t_memories))), (a_t_nextPlace, .inl (E 0, 320, .inl (A4 t_nextPlace))), (a_t_kindOf, .inl (E 0, 64, .inl (A4 t_kindOf))), (a_t_newKind, .inl (E 0, 64, .inl (A4 t_newKind))), (a_t_stateOfKind, .inl (E 0, 64, .inl (A4 t_stateOfKind))), (a_t_stateAt, .inl (E 0, 64, .inl (A4 t_stateAt))), (a_t_stepTo, .inl (E 0, 320, .inl (A4 t_stepTo))), (a_t_ways, .inl (E 2, 64, .inr (.inl (A8 t_ways)))), (a_t_nextWays, .inl (E 2, 64, .inr (.inl (A8 t_nextWays))))] (some (.int (z4 res.1))) [(a_t, .inr (12, [.ref a_t_now, .ref a_t_read, .ref a_t_past, .int (z4 t_deeds), .ref a_t_images, .ref a_t_isKept, .ref a_t_text, .int (z4 t_letters), .int (z4 t_at), .int (z4 t_tokenAt), .int (z4 t_tokenSort), .int (z4 t_tokenValue), .int (z4 t_items), .int (z4 t_isChanceTold), .int (z4 t_areSumsTold), .ref a_t_metAt, .ref a_t_memoryAt, .ref a_t_upAt, .ref a_t_downAt, .ref a_t_isSignal, .ref a_t_memories, .ref a_t_placeOf, .ref a_t_nextPlace, .int (z4 res.2.1), .ref a_t_kindOf, .ref a_t_newKind, .int (z4 res.2.2.1), .ref a_t_stateOfKind, .ref a_t_stateAt, .ref a_t_stepTo, .int (z4 res.2.2.2.1), .ref a_t_far, .ref a_t_ways, .ref a_t_nextWays, .ref a_t_table])), (a_t_now, .inl (E 0, 98, .inl (A4 t_now))), (a_t_metAt, .inl (E 0, 40, .inl (A4 res.2.2.2.2.1))), (a_t_memoryAt, .inl (E 0, 40, .inl (A4 res.2.2.2.2.2.1))), (a_t_isSignal, .inl (E 1, 40, .inl (A4 res.2.2.2.2.2.2.1))), (a_t_upAt, .inl (E 0, 40, .inl (A4 res.2.2.2.2.2.2.2.1))), (a_t_downAt, .inl (E 0, 40, .inl (A4 res.2.2.2.2.2.2.2.2.1))), (a_t_placeOf, .inl (E 0, 64, .inl (A4 res.2.2.2.2.2.2.2.2.2.1))), (a_t_memories, .inl (E 0, 64, .inl (A4 res.2.2.2.2.2.2.2.2.2.2.1))), (a_t_nextPlace, .inl (E 0, 320, .inl (A4 res.2.2.2.2.2.2.2.2.2.2.2.1))), (a_t_kindOf, .inl (E 0, 64, .inl (A4 res.2.2.2.2.2.2.2.2.2.2.2.2.1))), (a_t_newKind, .inl (E 0, 64, .inl (A4 res.2.2.2.2.2.2.2.2.2.2.2.2.2.1))), (a_t_stateOfKind, .inl (E 0, 64, .inl (A4 res.2.2.2.2.2.2.2.2.2.2.2.2.2.2.1))), (a_t_stateAt, .inl (E 0, 64, .inl (A4 res.2.2.2.2.2.2.2.2.2.2.2.2.2.2.2.1))), (a_t_stepTo, .inl (E 0, 320, .inl (A4 res.2.2.2.2.2.2.2.2.2.2.2.2.2.2.2.2.1))), (a_t_ways, .inl (E 2, 64, .inr (.inl (A8 res.2.2.2.2.2.2.2.2.2.2.2.2.2.2.2.2.2.1)))), (a_t_nextWays, .inl (E 2, 64, .inr (.inl (A8 res.2.2.2.2.2.2.2.2.2.2.2.2.2.2.2.2.2.2))))] := by
  refine MWi (by decide) (Nat.le_of_ble_eq_true rfl) ?_
  intro p e s m args below meth c A Q X hK hP hD hA ret ls hl
  have hS : va_S A s.heap s.heap [] := va_S.rf
  have hx := X.1
  have hb := X.2.1
  have hl : lv_has ls 12 [(0, .ref a_t), (1, .int (z4 x1)), (2, .int (z4 x2))] := hl
  unfold F_X12_odds at hf
  refine lv_iload_n hx hb dX12_odds_0 rfl (lv_at hl 1 rfl) ?_
  refine m_iconst X dX12_odds_1 ?_
  refine m_bipush X dX12_odds_2 (by decide) ?_
  obtain ⟨o1, ho, hf⟩ := bd_some hf
  refine m_cSR X hK (k_X12_in n x1 0 8 o1 ho) (hP.sub (ws' := []) [] rfl) lk_X12_87 co_X12_in dy_X12_in rfl rfl ⟨Nat.le_of_ble_eq_true rfl, Nat.le_of_ble_eq_true rfl⟩ hl.1 rfl (Nat.le_of_ble_eq_true rfl) dX12_odds_4 (Nat.zero_le _) (Nat.zero_le _) ?_
  obtain ⟨h2, hf⟩ := ck_some hf
  refine m_if_eq X h2 dX12_odds_7 (tgt := 19) (by decide) (fun (hc_ : o1 = 0) => ?_) (fun (hc_ : ¬ (o1 = 0)) => ?_)
  · rw [if_pos hc_] at hf
    refine m_iconst X dX12_odds_19 ?_
    obtain rfl := Option.some.inj hf
    exact ret _ _ _ _ hP hD hS dX12_odds_20
  · rw [if_neg hc_] at hf
    refine lv_iload_n hx hb dX12_odds_10 rfl (lv_at hl 2 rfl) ?_
    refine m_iconst X dX12_odds_11 ?_
    refine m_iconst X dX12_odds_12 ?_
    obtain ⟨o3, ho, hf⟩ := bd_some hf
    refine m_cSR X hK (k_X12_in n x2 0 1 o3 ho) (hP.sub (ws' := []) [] rfl) lk_X12_87 co_X12_in dy_X12_in rfl rfl ⟨Nat.le_of_ble_eq_true rfl, Nat.le_of_ble_eq_true rfl⟩ hl.1 rfl (Nat.le_of_ble_eq_true rfl) dX12_odds_13 (Nat.zero_le _) (Nat.zero_le _) ?_
    obtain ⟨h4, hf⟩ := ck_some hf
    refine m_if_ne X h4 dX12_odds_16 (tgt := 21) (by decide) (fun (hc_ : ¬ (o3 = 0)) => ?_) (fun (hc_ : o3 = 0) => ?_)
    · rw [if_neg hc_] at hf
      refine lv_aload_n hx hb dX12_odds_21 rfl (lv_at hl 0 rfl) ?_
      obtain ⟨o5, ho, hf⟩ := bd_some hf
      refine m_cVW X hK hP hD hS hA (wr := [(a_t_ways, .inl (E 2, 64, .inr (.inl (A8 t_ways)))), (a_t_nextWays, .inl (E 2, 64, .inr (.inl (A8 t_nextWays))))]) (k_X12_stateNow n a_t a_t_now a_t_read a_t_past a_t_images a_t_isKept a_t_text a_t_metAt a_t_memoryAt a_t_upAt a_t_downAt a_t_isSignal a_t_memories a_t_placeOf a_t_nextPlace a_t_kindOf a_t_newKind a_t_stateOfKind a_t_stateAt a_t_stepTo a_t_far a_t_ways a_t_nextWays a_t_table t_deeds t_letters t_at t_tokenAt t_tokenSort t_tokenValue t_items t_isChanceTold t_areSumsTold t_places t_kinds t_states t_now t_metAt t_memoryAt t_isSignal t_upAt t_downAt t_placeOf t_memories t_nextPlace t_kindOf t_newKind t_stateOfKind t_stateAt t_stepTo o5 ho) [0, 1, 2, 3, 4, 5, 6, 7, 8, 9, 10, 11, 12, 13, 14] [15, 16] [2, 3, 4, 5, 6, 7, 8, 9, 10, 11, 12, 13, 14, 15, 16, 0, 1] [(a_t, .inr (12, [.ref a_t_now, .ref a_t_read, .ref a_t_past, .int (z4 t_deeds), .ref a_t_images, .ref a_t_isKept, .ref a_t_text, .int (z4 t_letters), .int (z4 t_at), .int (z4 t_tokenAt), .int (z4 t_tokenSort), .int (z4 t_tokenValue), .int (z4 t_items), .int (z4 t_isChanceTold), .int (z4 t_areSumsTold), .ref a_t_metAt, .ref a_t_memoryAt, .ref a_t_upAt, .ref a_t_downAt, .ref a_t_isSignal, .ref a_t_memories, .ref a_t_placeOf, .ref a_t_nextPlace, .int (z4 o5.2.1), .ref a_t_kindOf, .ref a_t_newKind, .int (z4 o5.2.2.1), .ref a_t_stateOfKind, .ref a_t_stateAt, .ref a_t_stepTo, .int (z4 o5.2.2.2.1), .ref a_t_far, .ref a_t_ways, .ref a_t_nextWays, .ref a_t_table])), (a_t_now, .inl (E 0, 98, .inl (A4 t_now))), (a_t_metAt, .inl (E 0, 40, .inl (A4 o5.2.2.2.2.1))), (a_t_memoryAt, .inl (E 0, 40, .inl (A4 o5.2.2.2.2.2.1))), (a_t_isSignal, .inl (E 1, 40, .inl (A4 o5.2.2.2.2.2.2.1))), (a_t_upAt, .inl (E 0, 40, .inl (A4 o5.2.2.2.2.2.2.2.1))), (a_t_downAt, .inl (E 0, 40, .inl (A4 o5.2.2.2.2.2.2.2.2.1))), (a_t_placeOf, .inl (E 0, 64, .inl (A4 o5.2.2.2.2.2.2.2.2.2.1))), (a_t_memories, .inl (E 0, 64, .inl (A4 o5.2.2.2.2.2.2.2.2.2.2.1))), (a_t_nextPlace, .inl (E 0, 320, .inl (A4 o5.2.2.2.2.2.2.2.2.2.2.2.1))), (a_t_kindOf, .inl (E 0, 64, .inl (A4 o5.2.2.2.2.2.2.2.2.2.2.2.2.1))), (a_t_newKind, .inl (E 0, 64, .inl (A4 o5.2.2.2.2.2.2.2.2.2.2.2.2.2.1))), (a_t_stateOfKind, .inl (E 0, 64, .inl (A4 o5.2.2.2.2.2.2.2.2.2.2.2.2.2.2.1))), (a_t_stateAt, .inl (E 0, 64, .inl (A4 o5.2.2.2.2.2.2.2.2.2.2.2.2.2.2.2.1))), (a_t_stepTo, .inl (E 0, 320, .inl (A4 o5.2.2.2.2.2.2.2.2.2.2.2.2.2.2.2.2))), (a_t_ways, .inl (E 2, 64, .inr (.inl (A8 t_ways)))), (a_t_nextWays, .inl (E 2, 64, .inr (.inl (A8 t_nextWays))))] rfl rfl rfl rfl (by decide) rfl rfl rfl cl_X12 lk_X12_224 co_X12_stateNow dy_X12_stateNow rfl rfl ⟨Nat.le_of_ble_eq_true rfl, Nat.le_of_ble_eq_true rfl⟩ hl.1 rfl (Nat.le_of_ble_eq_true rfl) dX12_odds_22 (Nat.zero_le _) (Nat.zero_le _) (fun H locs hP hD hS => ?_)
      refine lv_istore_n (lv' := [(3, .int (z4 o5.1)), (0, .ref a_t), (1, .int (z4 x1)), (2, .int (z4 x2))]) hx hb dX12_odds_25 rfl hl (by decide) rfl (fun ls hl => ?_)
      refine m_lconst X 1 rfl dX12_odds_26 ?_
      refine lv_lstore (lv' := [(4, .long (z8 1)), (3, .int (z4 o5.1)), (0, .ref a_t), (1, .int (z4 x1)), (2, .int (z4 x2))]) hx hb dX12_odds_27 hl (by decide) rfl (fun ls hl => ?_)
      refine m_iconst X dX12_odds_29 ?_
      refine lv_istore (lv' := [(6, .int (z4 0)), (4, .long (z8 1)), (3, .int (z4 o5.1)), (0, .ref a_t), (1, .int (z4 x1)), (2, .int (z4 x2))]) hx hb dX12_odds_30 hl (by decide) rfl (fun ls hl => ?_)
      obtain ⟨o6, hj6, hr6⟩ := bd_some hf
      have E6_0 : ∀ (o_ : (Nat → Int)), o6 = o_ → ∀ (H : Heap) (locs : List Loc) (ls : Array Slot), lv_has ls 12 [(0, .ref a_t), (1, .int (z4 x1)), (2, .int (z4 x2)), (3, .int (z4 o5.1)), (4, .long (z8 1))] → va_P D vwCl [(a_t, .inr (12, [.ref a_t_now, .ref a_t_read, .ref a_t_past, .int (z4 t_deeds), .ref a_t_images, .ref a_t_isKept, .ref a_t_text, .int (z4 t_letters), .int (z4 t_at), .int (z4 t_tokenAt), .int (z4 t_tokenSort), .int (z4 t_tokenValue), .int (z4 t_items), .int (z4 t_isChanceTold), .int (z4 t_areSumsTold), .ref a_t_metAt, .ref a_t_memoryAt, .ref a_t_upAt, .ref a_t_downAt, .ref a_t_isSignal, .ref a_t_memories, .ref a_t_placeOf, .ref a_t_nextPlace, .int (z4 o5.2.1), .ref a_t_kindOf, .ref a_t_newKind, .int (z4 o5.2.2.1), .ref a_t_stateOfKind, .ref a_t_stateAt, .ref a_t_stepTo, .int (z4 o5.2.2.2.1), .ref a_t_far, .ref a_t_ways, .ref a_t_nextWays, .ref a_t_table])), (a_t_now, .inl (E 0, 98, .inl (A4 t_now))), (a_t_metAt, .inl (E 0, 40, .inl (A4 o5.2.2.2.2.1))), (a_t_memoryAt, .inl (E 0, 40, .inl (A4 o5.2.2.2.2.2.1))), (a_t_isSignal, .inl (E 1, 40, .inl (A4 o5.2.2.2.2.2.2.1))), (a_t_upAt, .inl (E 0, 40, .inl (A4 o5.2.2.2.2.2.2.2.1))), (a_t_downAt, .inl (E 0, 40, .inl (A4 o5.2.2.2.2.2.2.2.2.1))), (a_t_placeOf, .inl (E 0, 64, .inl (A4 o5.2.2.2.2.2.2.2.2.2.1))), (a_t_memories, .inl (E 0, 64, .inl (A4 o5.2.2.2.2.2.2.2.2.2.2.1))), (a_t_nextPlace, .inl (E 0, 320, .inl (A4 o5.2.2.2.2.2.2.2.2.2.2.2.1))), (a_t_kindOf, .inl (E 0, 64, .inl (A4 o5.2.2.2.2.2.2.2.2.2.2.2.2.1))), (a_t_newKind, .inl (E 0, 64, .inl (A4 o5.2.2.2.2.2.2.2.2.2.2.2.2.2.1))), (a_t_stateOfKind, .inl (E 0, 64, .inl (A4 o5.2.2.2.2.2.2.2.2.2.2.2.2.2.2.1))), (a_t_stateAt, .inl (E 0, 64, .inl (A4 o5.2.2.2.2.2.2.2.2.2.2.2.2.2.2.2.1))), (a_t_stepTo, .inl (E 0, 320, .inl (A4 o5.2.2.2.2.2.2.2.2.2.2.2.2.2.2.2.2))), (a_t_ways, .inl (E 2, 64, .inr (.inl (A8 o_)))), (a_t_nextWays, .inl (E 2, 64, .inr (.inl (A8 t_nextWays))))] H → va_D A [(a_t, .inr (12, [.ref a_t_now, .ref a_t_read, .ref a_t_past, .int (z4 t_deeds), .ref a_t_images, .ref a_t_isKept, .ref a_t_text, .int (z4 t_letters), .int (z4 t_at), .int (z4 t_tokenAt), .int (z4 t_tokenSort), .int (z4 t_tokenValue), .int (z4 t_items), .int (z4 t_isChanceTold), .int (z4 t_areSumsTold), .ref a_t_metAt, .ref a_t_memoryAt, .ref a_t_upAt, .ref a_t_downAt, .ref a_t_isSignal, .ref a_t_memories, .ref a_t_placeOf, .ref a_t_nextPlace, .int (z4 o5.2.1), .ref a_t_kindOf, .ref a_t_newKind, .int (z4 o5.2.2.1), .ref a_t_stateOfKind, .ref a_t_stateAt, .ref a_t_stepTo, .int (z4 o5.2.2.2.1), .ref a_t_far, .ref a_t_ways, .ref a_t_nextWays, .ref a_t_table])), (a_t_now, .inl (E 0, 98, .inl (A4 t_now))), (a_t_metAt, .inl (E 0, 40, .inl (A4 o5.2.2.2.2.1))), (a_t_memoryAt, .inl (E 0, 40, .inl (A4 o5.2.2.2.2.2.1))), (a_t_isSignal, .inl (E 1, 40, .inl (A4 o5.2.2.2.2.2.2.1))), (a_t_upAt, .inl (E 0, 40, .inl (A4 o5.2.2.2.2.2.2.2.1))), (a_t_downAt, .inl (E 0, 40, .inl (A4 o5.2.2.2.2.2.2.2.2.1))), (a_t_placeOf, .inl (E 0, 64, .inl (A4 o5.2.2.2.2.2.2.2.2.2.1))), (a_t_memories, .inl (E 0, 64, .inl (A4 o5.2.2.2.2.2.2.2.2.2.2.1))), (a_t_nextPlace, .inl (E 0, 320, .inl (A4 o5.2.2.2.2.2.2.2.2.2.2.2.1))), (a_t_kindOf, .inl (E 0, 64, .inl (A4 o5.2.2.2.2.2.2.2.2.2.2.2.2.1))), (a_t_newKind, .inl (E 0, 64, .inl (A4 o5.2.2.2.2.2.2.2.2.2.2.2.2.2.1))), (a_t_stateOfKind, .inl (E 0, 64, .inl (A4 o5.2.2.2.2.2.2.2.2.2.2.2.2.2.2.1))), (a_t_stateAt, .inl (E 0, 64, .inl (A4 o5.2.2.2.2.2.2.2.2.2.2.2.2.2.2.2.1))), (a_t_stepTo, .inl (E 0, 320, .inl (A4 o5.2.2.2.2.2.2.2.2.2.2.2.2.2.2.2.2))), (a_t_ways, .inl (E 2, 64, .inr (.inl (A8 o_)))), (a_t_nextWays, .inl (E 2, 64, .inr (.inl (A8 t_nextWays))))] → va_S A s.heap H locs → W p l e rm_X12_odds s m args below meth c H locs 0 0 Q (F0 m 55 ls []) := by
        intro o_ ho_ H locs ls hl hP hD hS
        subst ho_
        refine m_iconst X dX12_odds_55 ?_
        refine lv_istore (lv' := [(6, .int (z4 0)), (0, .ref a_t), (1, .int (z4 x1)), (2, .int (z4 x2)), (3, .int (z4 o5.1)), (4, .long (z8 1))]) hx hb dX12_odds_56 hl (by decide) rfl (fun ls hl => ?_)
        obtain ⟨o9, hj9, hr9⟩ := bd_some hr6
        have E9_0 : ∀ (o_ : Int × (Nat → Int) × (Nat → Int)), o9 = o_ → ∀ (H : Heap) (locs : List Loc) (ls : Array Slot), lv_has ls 12 [(0, .ref a_t), (2, .int (z4 x2)), (3, .int (z4 o5.1)), (4, .long (z8 o_.1))] → va_P D vwCl [(a_t, .inr (12, [.ref a_t_now, .ref a_t_read, .ref a_t_past, .int (z4 t_deeds), .ref a_t_images, .ref a_t_isKept, .ref a_t_text, .int (z4 t_letters), .int (z4 t_at), .int (z4 t_tokenAt), .int (z4 t_tokenSort), .int (z4 t_tokenValue), .int (z4 t_items), .int (z4 t_isChanceTold), .int (z4 t_areSumsTold), .ref a_t_metAt, .ref a_t_memoryAt, .ref a_t_upAt, .ref a_t_downAt, .ref a_t_isSignal, .ref a_t_memories, .ref a_t_placeOf, .ref a_t_nextPlace, .int (z4 o5.2.1), .ref a_t_kindOf, .ref a_t_newKind, .int (z4 o5.2.2.1), .ref a_t_stateOfKind, .ref a_t_stateAt, .ref a_t_stepTo, .int (z4 o5.2.2.2.1), .ref a_t_far, .ref a_t_ways, .ref a_t_nextWays, .ref a_t_table])), (a_t_now, .inl (E 0, 98, .inl (A4 t_now))), (a_t_metAt, .inl (E 0, 40, .inl (A4 o5.2.2.2.2.1))), (a_t_memoryAt, .inl (E 0, 40, .inl (A4 o5.2.2.2.2.2.1))), (a_t_isSignal, .inl (E 1, 40, .inl (A4 o5.2.2.2.2.2.2.1))), (a_t_upAt, .inl (E 0, 40, .inl (A4 o5.2.2.2.2.2.2.2.1))), (a_t_downAt, .inl (E 0, 40, .inl (A4 o5.2.2.2.2.2.2.2.2.1))), (a_t_placeOf, .inl (E 0, 64, .inl (A4 o5.2.2.2.2.2.2.2.2.2.1))), (a_t_memories, .inl (E 0, 64, .inl (A4 o5.2.2.2.2.2.2.2.2.2.2.1))), (a_t_nextPlace, .inl (E 0, 320, .inl (A4 o5.2.2.2.2.2.2.2.2.2.2.2.1))), (a_t_kindOf, .inl (E 0, 64, .inl (A4 o5.2.2.2.2.2.2.2.2.2.2.2.2.1))), (a_t_newKind, .inl (E 0, 64, .inl (A4 o5.2.2.2.2.2.2.2.2.2.2.2.2.2.1))), (a_t_stateOfKind, .inl (E 0, 64, .inl (A4 o5.2.2.2.2.2.2.2.2.2.2.2.2.2.2.1))), (a_t_stateAt, .inl (E 0, 64, .inl (A4 o5.2.2.2.2.2.2.2.2.2.2.2.2.2.2.2.1))), (a_t_stepTo, .inl (E 0, 320, .inl (A4 o5.2.2.2.2.2.2.2.2.2.2.2.2.2.2.2.2))), (a_t_ways, .inl (E 2, 64, .inr (.inl (A8 o_.2.1)))), (a_t_nextWays, .inl (E 2, 64, .inr (.inl (A8 o_.2.2))))] H → va_D A [(a_t, .inr (12, [.ref a_t_now, .ref a_t_read, .ref a_t_past, .int (z4 t_deeds), .ref a_t_images, .ref a_t_isKept, .ref a_t_text, .int (z4 t_letters), .int (z4 t_at), .int (z4 t_tokenAt), .int (z4 t_tokenSort), .int (z4 t_tokenValue), .int (z4 t_items), .int (z4 t_isChanceTold), .int (z4 t_areSumsTold), .ref a_t_metAt, .ref a_t_memoryAt, .ref a_t_upAt, .ref a_t_downAt, .ref a_t_isSignal, .ref a_t_memories, .ref a_t_placeOf, .ref a_t_nextPlace, .int (z4 o5.2.1), .ref a_t_kindOf, .ref a_t_newKind, .int (z4 o5.2.2.1), .ref a_t_stateOfKind, .ref a_t_stateAt, .ref a_t_stepTo, .int (z4 o5.2.2.2.1), .ref a_t_far, .ref a_t_ways, .ref a_t_nextWays, .ref a_t_table])), (a_t_now, .inl (E 0, 98, .inl (A4 t_now))), (a_t_metAt, .inl (E 0, 40, .inl (A4 o5.2.2.2.2.1))), (a_t_memoryAt, .inl (E 0, 40, .inl (A4 o5.2.2.2.2.2.1))), (a_t_isSignal, .inl (E 1, 40, .inl (A4 o5.2.2.2.2.2.2.1))), (a_t_upAt, .inl (E 0, 40, .inl (A4 o5.2.2.2.2.2.2.2.1))), (a_t_downAt, .inl (E 0, 40, .inl (A4 o5.2.2.2.2.2.2.2.2.1))), (a_t_placeOf, .inl (E 0, 64, .inl (A4 o5.2.2.2.2.2.2.2.2.2.1))), (a_t_memories, .inl (E 0, 64, .inl (A4 o5.2.2.2.2.2.2.2.2.2.2.1))), (a_t_nextPlace, .inl (E 0, 320, .inl (A4 o5.2.2.2.2.2.2.2.2.2.2.2.1))), (a_t_kindOf, .inl (E 0, 64, .inl (A4 o5.2.2.2.2.2.2.2.2.2.2.2.2.1))), (a_t_newKind, .inl (E 0, 64, .inl (A4 o5.2.2.2.2.2.2.2.2.2.2.2.2.2.1))), (a_t_stateOfKind, .inl (E 0, 64, .inl (A4 o5.2.2.2.2.2.2.2.2.2.2.2.2.2.2.1))), (a_t_stateAt, .inl (E 0, 64, .inl (A4 o5.2.2.2.2.2.2.2.2.2.2.2.2.2.2.2.1))), (a_t_stepTo, .inl (E 0, 320, .inl (A4 o5.2.2.2.2.2.2.2.2.2.2.2.2.2.2.2.2))), (a_t_ways, .inl (E 2, 64, .inr (.inl (A8 o_.2.1)))), (a_t_nextWays, .inl (E 2, 64, .inr (.inl (A8 o_.2.2))))] → va_S A s.heap H locs → W p l e rm_X12_odds s m args below meth c H locs 0 0 Q (F0 m 205 ls []) := by
          intro o_ ho_ H locs ls hl hP hD hS
          subst ho_
          refine lv_lload hx hb dX12_odds_205 (lv_at hl 3 rfl) ?_
          refine lv_aload_n hx hb dX12_odds_207 rfl (lv_at hl 0 rfl) ?_
          refine m_get X hK hP cl_X12 iT_X12 32 (by decide) fl_X12_71 0 rfl rfl dX12_odds_208 ?_
          refine lv_iload_n hx hb dX12_odds_211 rfl (lv_at hl 2 rfl) ?_
          obtain ⟨h26, hr9⟩ := ck_some hr9
          refine m_lald X hK hP 15 rfl (by decide) h26 dX12_odds_212 ?_
          obtain ⟨o27, ho, hr9⟩ := bd_some hr9
          refine m_cSR X hK (k_X12_common n o9.1 (o9.2.1 (o5.1).toNat) o27 ho) (hP.sub (ws' := []) [] rfl) lk_X12_232 co_X12_common dy_X12_common rfl rfl ⟨Nat.le_of_ble_eq_true rfl, Nat.le_of_ble_eq_true rfl⟩ hl.1 rfl (Nat.le_of_ble_eq_true rfl) dX12_odds_213 (Nat.zero_le _) (Nat.zero_le _) ?_
          refine lv_lstore (lv' := [(6, .long (z8 o27)), (0, .ref a_t), (2, .int (z4 x2)), (3, .int (z4 o5.1)), (4, .long (z8 o9.1))]) hx hb dX12_odds_216 hl (by decide) rfl (fun ls hl => ?_)
          refine lv_iload_n hx hb dX12_odds_218 rfl (lv_at hl 2 rfl) ?_
          obtain ⟨o28, hj28, hr28⟩ := bd_some hr9
          have J28 : ∀ (o_ : Int), o28 = o_ → ∀ (H : Heap) (locs : List Loc) (ls : Array Slot), lv_has ls 12 [] → va_P D vwCl [(a_t, .inr (12, [.ref a_t_now, .ref a_t_read, .ref a_t_past, .int (z4 t_deeds), .ref a_t_images, .ref a_t_isKept, .ref a_t_text, .int (z4 t_letters), .int (z4 t_at), .int (z4 t_tokenAt), .int (z4 t_tokenSort), .int (z4 t_tokenValue), .int (z4 t_items), .int (z4 t_isChanceTold), .int (z4 t_areSumsTold), .ref a_t_metAt, .ref a_t_memoryAt, .ref a_t_upAt, .ref a_t_downAt, .ref a_t_isSignal, .ref a_t_memories, .ref a_t_placeOf, .ref a_t_nextPlace, .int (z4 o5.2.1), .ref a_t_kindOf, .ref a_t_newKind, .int (z4 o5.2.2.1), .ref a_t_stateOfKind, .ref a_t_stateAt, .ref a_t_stepTo, .int (z4 o5.2.2.2.1), .ref a_t_far, .ref a_t_ways, .ref a_t_nextWays, .ref a_t_table])), (a_t_now, .inl (E 0, 98, .inl (A4 t_now))), (a_t_metAt, .inl (E 0, 40, .inl (A4 o5.2.2.2.2.1))), (a_t_memoryAt, .inl (E 0, 40, .inl (A4 o5.2.2.2.2.2.1))), (a_t_isSignal, .inl (E 1, 40, .inl (A4 o5.2.2.2.2.2.2.1))), (a_t_upAt, .inl (E 0, 40, .inl (A4 o5.2.2.2.2.2.2.2.1))), (a_t_downAt, .inl (E 0, 40, .inl (A4 o5.2.2.2.2.2.2.2.2.1))), (a_t_placeOf, .inl (E 0, 64, .inl (A4 o5.2.2.2.2.2.2.2.2.2.1))), (a_t_memories, .inl (E 0, 64, .inl (A4 o5.2.2.2.2.2.2.2.2.2.2.1))), (a_t_nextPlace, .inl (E 0, 320, .inl (A4 o5.2.2.2.2.2.2.2.2.2.2.2.1))), (a_t_kindOf, .inl (E 0, 64, .inl (A4 o5.2.2.2.2.2.2.2.2.2.2.2.2.1))), (a_t_newKind, .inl (E 0, 64, .inl (A4 o5.2.2.2.2.2.2.2.2.2.2.2.2.2.1))), (a_t_stateOfKind, .inl (E 0, 64, .inl (A4 o5.2.2.2.2.2.2.2.2.2.2.2.2.2.2.1))), (a_t_stateAt, .inl (E 0, 64, .inl (A4 o5.2.2.2.2.2.2.2.2.2.2.2.2.2.2.2.1))), (a_t_stepTo, .inl (E 0, 320, .inl (A4 o5.2.2.2.2.2.2.2.2.2.2.2.2.2.2.2.2))), (a_t_ways, .inl (E 2, 64, .inr (.inl (A8 o9.2.1)))), (a_t_nextWays, .inl (E 2, 64, .inr (.inl (A8 o9.2.2))))] H → va_D A [(a_t, .inr (12, [.ref a_t_now, .ref a_t_read, .ref a_t_past, .int (z4 t_deeds), .ref a_t_images, .ref a_t_isKept, .ref a_t_text, .int (z4 t_letters), .int (z4 t_at), .int (z4 t_tokenAt), .int (z4 t_tokenSort), .int (z4 t_tokenValue), .int (z4 t_items), .int (z4 t_isChanceTold), .int (z4 t_areSumsTold), .ref a_t_metAt, .ref a_t_memoryAt, .ref a_t_upAt, .ref a_t_downAt, .ref a_t_isSignal, .ref a_t_memories, .ref a_t_placeOf, .ref a_t_nextPlace, .int (z4 o5.2.1), .ref a_t_kindOf, .ref a_t_newKind, .int (z4 o5.2.2.1), .ref a_t_stateOfKind, .ref a_t_stateAt, .ref a_t_stepTo, .int (z4 o5.2.2.2.1), .ref a_t_far, .ref a_t_ways, .ref a_t_nextWays, .ref a_t_table])), (a_t_now, .inl (E 0, 98, .inl (A4 t_now))), (a_t_metAt, .inl (E 0, 40, .inl (A4 o5.2.2.2.2.1))), (a_t_memoryAt, .inl (E 0, 40, .inl (A4 o5.2.2.2.2.2.1))), (a_t_isSignal, .inl (E 1, 40, .inl (A4 o5.2.2.2.2.2.2.1))), (a_t_upAt, .inl (E 0, 40, .inl (A4 o5.2.2.2.2.2.2.2.1))), (a_t_downAt, .inl (E 0, 40, .inl (A4 o5.2.2.2.2.2.2.2.2.1))), (a_t_placeOf, .inl (E 0, 64, .inl (A4 o5.2.2.2.2.2.2.2.2.2.1))), (a_t_memories, .inl (E 0, 64, .inl (A4 o5.2.2.2.2.2.2.2.2.2.2.1))), (a_t_nextPlace, .inl (E 0, 320, .inl (A4 o5.2.2.2.2.2.2.2.2.2.2.2.1))), (a_t_kindOf, .inl (E 0, 64, .inl (A4 o5.2.2.2.2.2.2.2.2.2.2.2.2.1))), (a_t_newKind, .inl (E 0, 64, .inl (A4 o5.2.2.2.2.2.2.2.2.2.2.2.2.2.1))), (a_t_stateOfKind, .inl (E 0, 64, .inl (A4 o5.2.2.2.2.2.2.2.2.2.2.2.2.2.2.1))), (a_t_stateAt, .inl (E 0, 64, .inl (A4 o5.2.2.2.2.2.2.2.2.2.2.2.2.2.2.2.1))), (a_t_stepTo, .inl (E 0, 320, .inl (A4 o5.2.2.2.2.2.2.2.2.2.2.2.2.2.2.2.2))), (a_t_ways, .inl (E 2, 64, .inr (.inl (A8 o9.2.1)))), (a_t_nextWays, .inl (E 2, 64, .inr (.inl (A8 o9.2.2))))] → va_S A s.heap H locs → W p l e rm_X12_odds s m args below meth c H locs 0 0 Q (F0 m 239 ls [.long (z8 o_)]) := by
            intro o_ ho_ H locs ls hl hP hD hS
            subst ho_
            refine m_l2i X dX12_odds_239 ?_
            obtain rfl := Option.some.inj hr28
            exact ret _ _ _ _ hP hD hS dX12_odds_240
          obtain ⟨h29, hj28⟩ := ck_some hj28
          refine m_if_ne X h29 dX12_odds_219 (tgt := 234) (by decide) (fun (hc_ : ¬ (x2 = 0)) => ?_) (fun (hc_ : x2 = 0) => ?_)
          · rw [if_neg hc_] at hj28
            refine lv_lload hx hb dX12_odds_234 (lv_at hl 4 rfl) ?_
            refine lv_lload hx hb dX12_odds_236 (lv_at hl 0 rfl) ?_
            obtain ⟨h30, hj28⟩ := ck_some hj28
            refine m_ldiv X h30 dX12_odds_238 ?_
            exact J28 _ (Option.some.inj hj28).symm _ _ _ (lv_sub hl [] rfl) hP hD hS
          · rw [if_pos hc_] at hj28
            refine lv_aload_n hx hb dX12_odds_222 rfl (lv_at hl 1 rfl) ?_
            refine m_get X hK hP cl_X12 iT_X12 32 (by decide) fl_X12_71 0 rfl rfl dX12_odds_223 ?_
            refine lv_iload_n hx hb dX12_odds_226 rfl (lv_at hl 3 rfl) ?_
            obtain ⟨h31, hj28⟩ := ck_some hj28
            refine m_lald X hK hP 15 rfl (by decide) h31 dX12_odds_227 ?_
            refine lv_lload hx hb dX12_odds_228 (lv_at hl 0 rfl) ?_
            obtain ⟨h32, hj28⟩ := ck_some hj28
            refine m_ldiv X h32 dX12_odds_230 ?_
            refine lv_goto (tgt := 239) hx hb dX12_odds_231 (by decide) ?_
            exact J28 _ (Option.some.inj hj28).symm _ _ _ (lv_sub hl [] rfl) hP hD hS
        have L9 : ∀ (k_ : Nat) (v58_4 : Int) (v58_6 : Int) (t_ways_l58 : Nat → Int) (t_nextWays_l58 : Nat → Int), ∀ (H : Heap) (locs : List Loc) (ls : Array Slot), lv_has ls 12 [(0, .ref a_t), (1, .int (z4 x1)), (2, .int (z4 x2)), (3, .int (z4 o5.1)), (4, .long (z8 v58_4)), (6, .int (z4 v58_6))] → va_P D vwCl [(a_t, .inr (12, [.ref a_t_now, .ref a_t_read, .ref a_t_past, .int (z4 t_deeds), .ref a_t_images, .ref a_t_isKept, .ref a_t_text, .int (z4 t_letters), .int (z4 t_at), .int (z4 t_tokenAt), .int (z4 t_tokenSort), .int (z4 t_tokenValue), .int (z4 t_items), .int (z4 t_isChanceTold), .int (z4 t_areSumsTold), .ref a_t_metAt, .ref a_t_memoryAt, .ref a_t_upAt, .ref a_t_downAt, .ref a_t_isSignal, .ref a_t_memories, .ref a_t_placeOf, .ref a_t_nextPlace, .int (z4 o5.2.1), .ref a_t_kindOf, .ref a_t_newKind, .int (z4 o5.2.2.1), .ref a_t_stateOfKind, .ref a_t_stateAt, .ref a_t_stepTo, .int (z4 o5.2.2.2.1), .ref a_t_far, .ref a_t_ways, .ref a_t_nextWays, .ref a_t_table])), (a_t_now, .inl (E 0, 98, .inl (A4 t_now))), (a_t_metAt, .inl (E 0, 40, .inl (A4 o5.2.2.2.2.1))), (a_t_memoryAt, .inl (E 0, 40, .inl (A4 o5.2.2.2.2.2.1))), (a_t_isSignal, .inl (E 1, 40, .inl (A4 o5.2.2.2.2.2.2.1))), (a_t_upAt, .inl (E 0, 40, .inl (A4 o5.2.2.2.2.2.2.2.1))), (a_t_downAt, .inl (E 0, 40, .inl (A4 o5.2.2.2.2.2.2.2.2.1))), (a_t_placeOf, .inl (E 0, 64, .inl (A4 o5.2.2.2.2.2.2.2.2.2.1))), (a_t_memories, .inl (E 0, 64, .inl (A4 o5.2.2.2.2.2.2.2.2.2.2.1))), (a_t_nextPlace, .inl (E 0, 320, .inl (A4 o5.2.2.2.2.2.2.2.2.2.2.2.1))), (a_t_kindOf, .inl (E 0, 64, .inl (A4 o5.2.2.2.2.2.2.2.2.2.2.2.2.1))), (a_t_newKind, .inl (E 0, 64, .inl (A4 o5.2.2.2.2.2.2.2.2.2.2.2.2.2.1))), (a_t_stateOfKind, .inl (E 0, 64, .inl (A4 o5.2.2.2.2.2.2.2.2.2.2.2.2.2.2.1))), (a_t_stateAt, .inl (E 0, 64, .inl (A4 o5.2.2.2.2.2.2.2.2.2.2.2.2.2.2.2.1))), (a_t_stepTo, .inl (E 0, 320, .inl (A4 o5.2.2.2.2.2.2.2.2.2.2.2.2.2.2.2.2))), (a_t_ways, .inl (E 2, 64, .inr (.inl (A8 t_ways_l58)))), (a_t_nextWays, .inl (E 2, 64, .inr (.inl (A8 t_nextWays_l58))))] H → va_D A [(a_t, .inr (12, [.ref a_t_now, .ref a_t_read, .ref a_t_past, .int (z4 t_deeds), .ref a_t_images, .ref a_t_isKept, .ref a_t_text, .int (z4 t_letters), .int (z4 t_at), .int (z4 t_tokenAt), .int (z4 t_tokenSort), .int (z4 t_tokenValue), .int (z4 t_items), .int (z4 t_isChanceTold), .int (z4 t_areSumsTold), .ref a_t_metAt, .ref a_t_memoryAt, .ref a_t_upAt, .ref a_t_downAt, .ref a_t_isSignal, .ref a_t_memories, .ref a_t_placeOf, .ref a_t_nextPlace, .int (z4 o5.2.1), .ref a_t_kindOf, .ref a_t_newKind, .int (z4 o5.2.2.1), .ref a_t_stateOfKind, .ref a_t_stateAt, .ref a_t_stepTo, .int (z4 o5.2.2.2.1), .ref a_t_far, .ref a_t_ways, .ref a_t_nextWays, .ref a_t_table])), (a_t_now, .inl (E 0, 98, .inl (A4 t_now))), (a_t_metAt, .inl (E 0, 40, .inl (A4 o5.2.2.2.2.1))), (a_t_memoryAt, .inl (E 0, 40, .inl (A4 o5.2.2.2.2.2.1))), (a_t_isSignal, .inl (E 1, 40, .inl (A4 o5.2.2.2.2.2.2.1))), (a_t_upAt, .inl (E 0, 40, .inl (A4 o5.2.2.2.2.2.2.2.1))), (a_t_downAt, .inl (E 0, 40, .inl (A4 o5.2.2.2.2.2.2.2.2.1))), (a_t_placeOf, .inl (E 0, 64, .inl (A4 o5.2.2.2.2.2.2.2.2.2.1))), (a_t_memories, .inl (E 0, 64, .inl (A4 o5.2.2.2.2.2.2.2.2.2.2.1))), (a_t_nextPlace, .inl (E 0, 320, .inl (A4 o5.2.2.2.2.2.2.2.2.2.2.2.1))), (a_t_kindOf, .inl (E 0, 64, .inl (A4 o5.2.2.2.2.2.2.2.2.2.2.2.2.1))), (a_t_newKind, .inl (E 0, 64, .inl (A4 o5.2.2.2.2.2.2.2.2.2.2.2.2.2.1))), (a_t_stateOfKind, .inl (E 0, 64, .inl (A4 o5.2.2.2.2.2.2.2.2.2.2.2.2.2.2.1))), (a_t_stateAt, .inl (E 0, 64, .inl (A4 o5.2.2.2.2.2.2.2.2.2.2.2.2.2.2.2.1))), (a_t_stepTo, .inl (E 0, 320, .inl (A4 o5.2.2.2.2.2.2.2.2.2.2.2.2.2.2.2.2))), (a_t_ways, .inl (E 2, 64, .inr (.inl (A8 t_ways_l58)))), (a_t_nextWays, .inl (E 2, 64, .inr (.inl (A8 t_nextWays_l58))))] → va_S A s.heap H locs → lp_ (fun (q : Int × Int × (Nat → Int) × (Nat → Int)) => F_X12_odds_L58 n x1 o5 t_now q.1 q.2.1 q.2.2.1 q.2.2.2) k_ (v58_4, v58_6, t_ways_l58, t_nextWays_l58) = some o9 → W p l e rm_X12_odds s m args below meth c H locs 0 0 Q (F0 m 58 ls []) := by
          intro k_
          induction k_ with
          | zero =>
            intro v58_4 v58_6 t_ways_l58 t_nextWays_l58 H locs ls hl hP hD hS hq_; exact (lp_zero hq_).elim
          | succ k_ ih9 =>
            intro v58_4 v58_6 t_ways_l58 t_nextWays_l58 H locs ls hl hP hD hS hq_
            obtain ⟨t_9, hb9, hq9⟩ := lp_some hq_
            replace hb9 : F_X12_odds_L58 n x1 o5 t_now v58_4 v58_6 t_ways_l58 t_nextWays_l58 = some t_9 := hb9
            unfold F_X12_odds_L58 at hb9
            refine lv_iload hx hb dX12_odds_58 (lv_at hl 5 rfl) ?_
            refine lv_iload_n hx hb dX12_odds_60 rfl (lv_at hl 1 rfl) ?_
            obtain ⟨h10, hb9⟩ := ck_some hb9
            refine m_icmp_ge X h10 dX12_odds_61 (tgt := 205) (by decide) (fun (hc_ : ¬ (v58_6 < x1)) => ?_) (fun (hc_ : v58_6 < x1) => ?_)
            · rw [if_neg hc_] at hb9
              obtain rfl := Option.some.inj hb9
              exact E9_0 _ (Option.some.inj hq9).symm _ _ _ (lv_sub hl [0, 2, 3, 4] rfl) hP hD hS
            · rw [if_pos hc_] at hb9
              refine m_iconst X dX12_odds_64 ?_
              refine lv_istore (lv' := [(7, .int (z4 0)), (0, .ref a_t), (1, .int (z4 x1)), (2, .int (z4 x2)), (3, .int (z4 o5.1)), (4, .long (z8 v58_4)), (6, .int (z4 v58_6))]) hx hb dX12_odds_65 hl (by decide) rfl (fun ls hl => ?_)
              obtain ⟨o11, hj11, hr11⟩ := bd_some hb9
              have E11_0 : ∀ (o_ : (Nat → Int)), o11 = o_ → ∀ (H : Heap) (locs : List Loc) (ls : Array Slot), lv_has ls 12 [(0, .ref a_t), (1, .int (z4 x1)), (2, .int (z4 x2)), (3, .int (z4 o5.1)), (4, .long (z8 v58_4)), (6, .int (z4 v58_6))] → va_P D vwCl [(a_t, .inr (12, [.ref a_t_now, .ref a_t_read, .ref a_t_past, .int (z4 t_deeds), .ref a_t_images, .ref a_t_isKept, .ref a_t_text, .int (z4 t_letters), .int (z4 t_at), .int (z4 t_tokenAt), .int (z4 t_tokenSort), .int (z4 t_tokenValue), .int (z4 t_items), .int (z4 t_isChanceTold), .int (z4 t_areSumsTold), .ref a_t_metAt, .ref a_t_memoryAt, .ref a_t_upAt, .ref a_t_downAt, .ref a_t_isSignal, .ref a_t_memories, .ref a_t_placeOf, .ref a_t_nextPlace, .int (z4 o5.2.1), .ref a_t_kindOf, .ref a_t_newKind, .int (z4 o5.2.2.1), .ref a_t_stateOfKind, .ref a_t_stateAt, .ref a_t_stepTo, .int (z4 o5.2.2.2.1), .ref a_t_far, .ref a_t_ways, .ref a_t_nextWays, .ref a_t_table])), (a_t_now, .inl (E 0, 98, .inl (A4 t_now))), (a_t_metAt, .inl (E 0, 40, .inl (A4 o5.2.2.2.2.1))), (a_t_memoryAt, .inl (E 0, 40, .inl (A4 o5.2.2.2.2.2.1))), (a_t_isSignal, .inl (E 1, 40, .inl (A4 o5.2.2.2.2.2.2.1))), (a_t_upAt, .inl (E 0, 40, .inl (A4 o5.2.2.2.2.2.2.2.1))), (a_t_downAt, .inl (E 0, 40, .inl (A4 o5.2.2.2.2.2.2.2.2.1))), (a_t_placeOf, .inl (E 0, 64, .inl (A4 o5.2.2.2.2.2.2.2.2.2.1))), (a_t_memories, .inl (E 0, 64, .inl (A4 o5.2.2.2.2.2.2.2.2.2.2.1))), (a_t_nextPlace, .inl (E 0, 320, .inl (A4 o5.2.2.2.2.2.2.2.2.2.2.2.1))), (a_t_kindOf, .inl (E 0, 64, .inl (A4 o5.2.2.2.2.2.2.2.2.2.2.2.2.1))), (a_t_newKind, .inl (E 0, 64, .inl (A4 o5.2.2.2.2.2.2.2.2.2.2.2.2.2.1))), (a_t_stateOfKind, .inl (E 0, 64, .inl (A4 o5.2.2.2.2.2.2.2.2.2.2.2.2.2.2.1))), (a_t_stateAt, .inl (E 0, 64, .inl (A4 o5.2.2.2.2.2.2.2.2.2.2.2.2.2.2.2.1))), (a_t_stepTo, .inl (E 0, 320, .inl (A4 o5.2.2.2.2.2.2.2.2.2.2.2.2.2.2.2.2))), (a_t_ways, .inl (E 2, 64, .inr (.inl (A8 t_ways_l58)))), (a_t_nextWays, .inl (E 2, 64, .inr (.inl (A8 o_))))] H → va_D A [(a_t, .inr (12, [.ref a_t_now, .ref a_t_read, .ref a_t_past, .int (z4 t_deeds), .ref a_t_images, .ref a_t_isKept, .ref a_t_text, .int (z4 t_letters), .int (z4 t_at), .int (z4 t_tokenAt), .int (z4 t_tokenSort), .int (z4 t_tokenValue), .int (z4 t_items), .int (z4 t_isChanceTold), .int (z4 t_areSumsTold), .ref a_t_metAt, .ref a_t_memoryAt, .ref a_t_upAt, .ref a_t_downAt, .ref a_t_isSignal, .ref a_t_memories, .ref a_t_placeOf, .ref a_t_nextPlace, .int (z4 o5.2.1), .ref a_t_kindOf, .ref a_t_newKind, .int (z4 o5.2.2.1), .ref a_t_stateOfKind, .ref a_t_stateAt, .ref a_t_stepTo, .int (z4 o5.2.2.2.1), .ref a_t_far, .ref a_t_ways, .ref a_t_nextWays, .ref a_t_table])), (a_t_now, .inl (E 0, 98, .inl (A4 t_now))), (a_t_metAt, .inl (E 0, 40, .inl (A4 o5.2.2.2.2.1))), (a_t_memoryAt, .inl (E 0, 40, .inl (A4 o5.2.2.2.2.2.1))), (a_t_isSignal, .inl (E 1, 40, .inl (A4 o5.2.2.2.2.2.2.1))), (a_t_upAt, .inl (E 0, 40, .inl (A4 o5.2.2.2.2.2.2.2.1))), (a_t_downAt, .inl (E 0, 40, .inl (A4 o5.2.2.2.2.2.2.2.2.1))), (a_t_placeOf, .inl (E 0, 64, .inl (A4 o5.2.2.2.2.2.2.2.2.2.1))), (a_t_memories, .inl (E 0, 64, .inl (A4 o5.2.2.2.2.2.2.2.2.2.2.1))), (a_t_nextPlace, .inl (E 0, 320, .inl (A4 o5.2.2.2.2.2.2.2.2.2.2.2.1))), (a_t_kindOf, .inl (E 0, 64, .inl (A4 o5.2.2.2.2.2.2.2.2.2.2.2.2.1))), (a_t_newKind, .inl (E 0, 64, .inl (A4 o5.2.2.2.2.2.2.2.2.2.2.2.2.2.1))), (a_t_stateOfKind, .inl (E 0, 64, .inl (A4 o5.2.2.2.2.2.2.2.2.2.2.2.2.2.2.1))), (a_t_stateAt, .inl (E 0, 64, .inl (A4 o5.2.2.2.2.2.2.2.2.2.2.2.2.2.2.2.1))), (a_t_stepTo, .inl (E 0, 320, .inl (A4 o5.2.2.2.2.2.2.2.2.2.2.2.2.2.2.2.2))), (a_t_ways, .inl (E 2, 64, .inr (.inl (A8 t_ways_l58)))), (a_t_nextWays, .inl (E 2, 64, .inr (.inl (A8 o_))))] → va_S A s.heap H locs → W p l e rm_X12_odds s m args below meth c H locs 0 0 Q (F0 m 159 ls []) := by
                intro o_ ho_ H locs ls hl hP hD hS
                subst ho_
                refine m_iconst X dX12_odds_159 ?_
                refine lv_istore (lv' := [(7, .int (z4 0)), (0, .ref a_t), (1, .int (z4 x1)), (2, .int (z4 x2)), (3, .int (z4 o5.1)), (4, .long (z8 v58_4)), (6, .int (z4 v58_6))]) hx hb dX12_odds_160 hl (by decide) rfl (fun ls hl => ?_)
                obtain ⟨o22, hj22, hr22⟩ := bd_some hr11
                have E22_0 : ∀ (o_ : (Nat → Int)), o22 = o_ → ∀ (H : Heap) (locs : List Loc) (ls : Array Slot), lv_has ls 12 [(0, .ref a_t), (1, .int (z4 x1)), (2, .int (z4 x2)), (3, .int (z4 o5.1)), (4, .long (z8 v58_4)), (6, .int (z4 v58_6))] → va_P D vwCl [(a_t, .inr (12, [.ref a_t_now, .ref a_t_read, .ref a_t_past, .int (z4 t_deeds), .ref a_t_images, .ref a_t_isKept, .ref a_t_text, .int (z4 t_letters), .int (z4 t_at), .int (z4 t_tokenAt), .int (z4 t_tokenSort), .int (z4 t_tokenValue), .int (z4 t_items), .int (z4 t_isChanceTold), .int (z4 t_areSumsTold), .ref a_t_metAt, .ref a_t_memoryAt, .ref a_t_upAt, .ref a_t_downAt, .ref a_t_isSignal, .ref a_t_memories, .ref a_t_placeOf, .ref a_t_nextPlace, .int (z4 o5.2.1), .ref a_t_kindOf, .ref a_t_newKind, .int (z4 o5.2.2.1), .ref a_t_stateOfKind, .ref a_t_stateAt, .ref a_t_stepTo, .int (z4 o5.2.2.2.1), .ref a_t_far, .ref a_t_ways, .ref a_t_nextWays, .ref a_t_table])), (a_t_now, .inl (E 0, 98, .inl (A4 t_now))), (a_t_metAt, .inl (E 0, 40, .inl (A4 o5.2.2.2.2.1))), (a_t_memoryAt, .inl (E 0, 40, .inl (A4 o5.2.2.2.2.2.1))), (a_t_isSignal, .inl (E 1, 40, .inl (A4 o5.2.2.2.2.2.2.1))), (a_t_upAt, .inl (E 0, 40, .inl (A4 o5.2.2.2.2.2.2.2.1))), (a_t_downAt, .inl (E 0, 40, .inl (A4 o5.2.2.2.2.2.2.2.2.1))), (a_t_placeOf, .inl (E 0, 64, .inl (A4 o5.2.2.2.2.2.2.2.2.2.1))), (a_t_memories, .inl (E 0, 64, .inl (A4 o5.2.2.2.2.2.2.2.2.2.2.1))), (a_t_nextPlace, .inl (E 0, 320, .inl (A4 o5.2.2.2.2.2.2.2.2.2.2.2.1))), (a_t_kindOf, .inl (E 0, 64, .inl (A4 o5.2.2.2.2.2.2.2.2.2.2.2.2.1))), (a_t_newKind, .inl (E 0, 64, .inl (A4 o5.2.2.2.2.2.2.2.2.2.2.2.2.2.1))), (a_t_stateOfKind, .inl (E 0, 64, .inl (A4 o5.2.2.2.2.2.2.2.2.2.2.2.2.2.2.1))), (a_t_stateAt, .inl (E 0, 64, .inl (A4 o5.2.2.2.2.2.2.2.2.2.2.2.2.2.2.2.1))), (a_t_stepTo, .inl (E 0, 320, .inl (A4 o5.2.2.2.2.2.2.2.2.2.2.2.2.2.2.2.2))), (a_t_ways, .inl (E 2, 64, .inr (.inl (A8 o_)))), (a_t_nextWays, .inl (E 2, 64, .inr (.inl (A8 o11))))] H → va_D A [(a_t, .inr (12, [.ref a_t_now, .ref a_t_read, .ref a_t_past, .int (z4 t_deeds), .ref a_t_images, .ref a_t_isKept, .ref a_t_text, .int (z4 t_letters), .int (z4 t_at), .int (z4 t_tokenAt), .int (z4 t_tokenSort), .int (z4 t_tokenValue), .int (z4 t_items), .int (z4 t_isChanceTold), .int (z4 t_areSumsTold), .ref a_t_metAt, .ref a_t_memoryAt, .ref a_t_upAt, .ref a_t_downAt, .ref a_t_isSignal, .ref a_t_memories, .ref a_t_placeOf, .ref a_t_nextPlace, .int (z4 o5.2.1), .ref a_t_kindOf, .ref a_t_newKind, .int (z4 o5.2.2.1), .ref a_t_stateOfKind, .ref a_t_stateAt, .ref a_t_stepTo, .int (z4 o5.2.2.2.1), .ref a_t_far, .ref a_t_ways, .ref a_t_nextWays, .ref a_t_table])), (a_t_now, .inl (E 0, 98, .inl (A4 t_now))), (a_t_metAt, .inl (E 0, 40, .inl (A4 o5.2.2.2.2.1))), (a_t_memoryAt, .inl (E 0, 40, .inl (A4 o5.2.2.2.2.2.1))), (a_t_isSignal, .inl (E 1, 40, .inl (A4 o5.2.2.2.2.2.2.1))), (a_t_upAt, .inl (E 0, 40, .inl (A4 o5.2.2.2.2.2.2.2.1))), (a_t_downAt, .inl (E 0, 40, .inl (A4 o5.2.2.2.2.2.2.2.2.1))), (a_t_placeOf, .inl (E 0, 64, .inl (A4 o5.2.2.2.2.2.2.2.2.2.1))), (a_t_memories, .inl (E 0, 64, .inl (A4 o5.2.2.2.2.2.2.2.2.2.2.1))), (a_t_nextPlace, .inl (E 0, 320, .inl (A4 o5.2.2.2.2.2.2.2.2.2.2.2.1))), (a_t_kindOf, .inl (E 0, 64, .inl (A4 o5.2.2.2.2.2.2.2.2.2.2.2.2.1))), (a_t_newKind, .inl (E 0, 64, .inl (A4 o5.2.2.2.2.2.2.2.2.2.2.2.2.2.1))), (a_t_stateOfKind, .inl (E 0, 64, .inl (A4 o5.2.2.2.2.2.2.2.2.2.2.2.2.2.2.1))), (a_t_stateAt, .inl (E 0, 64, .inl (A4 o5.2.2.2.2.2.2.2.2.2.2.2.2.2.2.2.1))), (a_t_stepTo, .inl (E 0, 320, .inl (A4 o5.2.2.2.2.2.2.2.2.2.2.2.2.2.2.2.2))), (a_t_ways, .inl (E 2, 64, .inr (.inl (A8 o_)))), (a_t_nextWays, .inl (E 2, 64, .inr (.inl (A8 o11))))] → va_S A s.heap H locs → W p l e rm_X12_odds s m args below meth c H locs 0 0 Q (F0 m 191 ls []) := by
                  intro o_ ho_ H locs ls hl hP hD hS
                  subst ho_
                  refine lv_lload hx hb dX12_odds_191 (lv_at hl 4 rfl) ?_
                  refine m_ldc2 X 10 co_X12_230 dX12_odds_193 ?_
                  refine m_lmul X dX12_odds_196 ?_
                  refine lv_lstore (lv' := [(4, .long (z8 (v58_4 * 10))), (0, .ref a_t), (1, .int (z4 x1)), (2, .int (z4 x2)), (3, .int (z4 o5.1)), (6, .int (z4 v58_6))]) hx hb dX12_odds_197 hl (by decide) rfl (fun ls hl => ?_)
                  refine m_iinc X 5 [(6, .int (z4 (v58_6 + 1))), (4, .long (z8 (v58_4 * 10))), (0, .ref a_t), (1, .int (z4 x1)), (2, .int (z4 x2)), (3, .int (z4 o5.1))] dX12_odds_199 hl rfl (by decide) rfl (fun ls hl => ?_)
                  refine lv_goto (tgt := 58) hx hb dX12_odds_202 (by decide) ?_
                  obtain rfl := Option.some.inj hr22
                  exact ih9 _ _ _ _ _ _ _ (lv_sub hl [2, 3, 4, 5, 1, 0] rfl) hP hD hS hq9
                have L22 : ∀ (k_ : Nat) (v162_7 : Int) (t_ways_l162 : Nat → Int), ∀ (H : Heap) (locs : List Loc) (ls : Array Slot), lv_has ls 12 [(0, .ref a_t), (1, .int (z4 x1)), (2, .int (z4 x2)), (3, .int (z4 o5.1)), (4, .long (z8 v58_4)), (6, .int (z4 v58_6)), (7, .int (z4 v162_7))] → va_P D vwCl [(a_t, .inr (12, [.ref a_t_now, .ref a_t_read, .ref a_t_past, .int (z4 t_deeds), .ref a_t_images, .ref a_t_isKept, .ref a_t_text, .int (z4 t_letters), .int (z4 t_at), .int (z4 t_tokenAt), .int (z4 t_tokenSort), .int (z4 t_tokenValue), .int (z4 t_items), .int (z4 t_isChanceTold), .int (z4 t_areSumsTold), .ref a_t_metAt, .ref a_t_memoryAt, .ref a_t_upAt, .ref a_t_downAt, .ref a_t_isSignal, .ref a_t_memories, .ref a_t_placeOf, .ref a_t_nextPlace, .int (z4 o5.2.1), .ref a_t_kindOf, .ref a_t_newKind, .int (z4 o5.2.2.1), .ref a_t_stateOfKind, .ref a_t_stateAt, .ref a_t_stepTo, .int (z4 o5.2.2.2.1), .ref a_t_far, .ref a_t_ways, .ref a_t_nextWays, .ref a_t_table])), (a_t_now, .inl (E 0, 98, .inl (A4 t_now))), (a_t_metAt, .inl (E 0, 40, .inl (A4 o5.2.2.2.2.1))), (a_t_memoryAt, .inl (E 0, 40, .inl (A4 o5.2.2.2.2.2.1))), (a_t_isSignal, .inl (E 1, 40, .inl (A4 o5.2.2.2.2.2.2.1))), (a_t_upAt, .inl (E 0, 40, .inl (A4 o5.2.2.2.2.2.2.2.1))), (a_t_downAt, .inl (E 0, 40, .inl (A4 o5.2.2.2.2.2.2.2.2.1))), (a_t_placeOf, .inl (E 0, 64, .inl (A4 o5.2.2.2.2.2.2.2.2.2.1))), (a_t_memories, .inl (E 0, 64, .inl (A4 o5.2.2.2.2.2.2.2.2.2.2.1))), (a_t_nextPlace, .inl (E 0, 320, .inl (A4 o5.2.2.2.2.2.2.2.2.2.2.2.1))), (a_t_kindOf, .inl (E 0, 64, .inl (A4 o5.2.2.2.2.2.2.2.2.2.2.2.2.1))), (a_t_newKind, .inl (E 0, 64, .inl (A4 o5.2.2.2.2.2.2.2.2.2.2.2.2.2.1))), (a_t_stateOfKind, .inl (E 0, 64, .inl (A4 o5.2.2.2.2.2.2.2.2.2.2.2.2.2.2.1))), (a_t_stateAt, .inl (E 0, 64, .inl (A4 o5.2.2.2.2.2.2.2.2.2.2.2.2.2.2.2.1))), (a_t_stepTo, .inl (E 0, 320, .inl (A4 o5.2.2.2.2.2.2.2.2.2.2.2.2.2.2.2.2))), (a_t_ways, .inl (E 2, 64, .inr (.inl (A8 t_ways_l162)))), (a_t_nextWays, .inl (E 2, 64, .inr (.inl (A8 o11))))] H → va_D A [(a_t, .inr (12, [.ref a_t_now, .ref a_t_read, .ref a_t_past, .int (z4 t_deeds), .ref a_t_images, .ref a_t_isKept, .ref a_t_text, .int (z4 t_letters), .int (z4 t_at), .int (z4 t_tokenAt), .int (z4 t_tokenSort), .int (z4 t_tokenValue), .int (z4 t_items), .int (z4 t_isChanceTold), .int (z4 t_areSumsTold), .ref a_t_metAt, .ref a_t_memoryAt, .ref a_t_upAt, .ref a_t_downAt, .ref a_t_isSignal, .ref a_t_memories, .ref a_t_placeOf, .ref a_t_nextPlace, .int (z4 o5.2.1), .ref a_t_kindOf, .ref a_t_newKind, .int (z4 o5.2.2.1), .ref a_t_stateOfKind, .ref a_t_stateAt, .ref a_t_stepTo, .int (z4 o5.2.2.2.1), .ref a_t_far, .ref a_t_ways, .ref a_t_nextWays, .ref a_t_table])), (a_t_now, .inl (E 0, 98, .inl (A4 t_now))), (a_t_metAt, .inl (E 0, 40, .inl (A4 o5.2.2.2.2.1))), (a_t_memoryAt, .inl (E 0, 40, .inl (A4 o5.2.2.2.2.2.1))), (a_t_isSignal, .inl (E 1, 40, .inl (A4 o5.2.2.2.2.2.2.1))), (a_t_upAt, .inl (E 0, 40, .inl (A4 o5.2.2.2.2.2.2.2.1))), (a_t_downAt, .inl (E 0, 40, .inl (A4 o5.2.2.2.2.2.2.2.2.1))), (a_t_placeOf, .inl (E 0, 64, .inl (A4 o5.2.2.2.2.2.2.2.2.2.1))), (a_t_memories, .inl (E 0, 64, .inl (A4 o5.2.2.2.2.2.2.2.2.2.2.1))), (a_t_nextPlace, .inl (E 0, 320, .inl (A4 o5.2.2.2.2.2.2.2.2.2.2.2.1))), (a_t_kindOf, .inl (E 0, 64, .inl (A4 o5.2.2.2.2.2.2.2.2.2.2.2.2.1))), (a_t_newKind, .inl (E 0, 64, .inl (A4 o5.2.2.2.2.2.2.2.2.2.2.2.2.2.1))), (a_t_stateOfKind, .inl (E 0, 64, .inl (A4 o5.2.2.2.2.2.2.2.2.2.2.2.2.2.2.1))), (a_t_stateAt, .inl (E 0, 64, .inl (A4 o5.2.2.2.2.2.2.2.2.2.2.2.2.2.2.2.1))), (a_t_stepTo, .inl (E 0, 320, .inl (A4 o5.2.2.2.2.2.2.2.2.2.2.2.2.2.2.2.2))), (a_t_ways, .inl (E 2, 64, .inr (.inl (A8 t_ways_l162)))), (a_t_nextWays, .inl (E 2, 64, .inr (.inl (A8 o11))))] → va_S A s.heap H locs → lp_ (fun (q : Int × (Nat → Int)) => F_X12_odds_L162 n o5 o11 q.1 q.2) k_ (v162_7, t_ways_l162) = some o22 → W p l e rm_X12_odds s m args below meth c H locs 0 0 Q (F0 m 162 ls []) := by
                  intro k_
                  induction k_ with
                  | zero =>
                    intro v162_7 t_ways_l162 H locs ls hl hP hD hS hq_; exact (lp_zero hq_).elim
                  | succ k_ ih22 =>
                    intro v162_7 t_ways_l162 H locs ls hl hP hD hS hq_
                    obtain ⟨t_22, hb22, hq22⟩ := lp_some hq_
                    replace hb22 : F_X12_odds_L162 n o5 o11 v162_7 t_ways_l162 = some t_22 := hb22
                    unfold F_X12_odds_L162 at hb22
                    refine lv_iload hx hb dX12_odds_162 (lv_at hl 6 rfl) ?_
                    refine lv_aload_n hx hb dX12_odds_164 rfl (lv_at hl 0 rfl) ?_
                    refine m_get X hK hP cl_X12 iT_X12 30 (by decide) fl_X12_200 0 rfl rfl dX12_odds_165 ?_
                    obtain ⟨h23, hb22⟩ := ck_some hb22
                    refine m_icmp_ge X h23 dX12_odds_168 (tgt := 191) (by decide) (fun (hc_ : ¬ (v162_7 < o5.2.2.2.1)) => ?_) (fun (hc_ : v162_7 < o5.2.2.2.1) => ?_)
                    · rw [if_neg hc_] at hb22
                      obtain rfl := Option.some.inj hb22
                      exact E22_0 _ (Option.some.inj hq22).symm _ _ _ (lv_sub hl [0, 1, 2, 3, 4, 5] rfl) hP hD hS
                    · rw [if_pos hc_] at hb22
                      refine lv_aload_n hx hb dX12_odds_171 rfl (lv_at hl 0 rfl) ?_
                      refine m_get X hK hP cl_X12 iT_X12 32 (by decide) fl_X12_71 0 rfl rfl dX12_odds_172 ?_
                      refine lv_iload hx hb dX12_odds_175 (lv_at hl 6 rfl) ?_
                      refine lv_aload_n hx hb dX12_odds_177 rfl (lv_at hl 0 rfl) ?_
                      refine m_get X hK hP cl_X12 iT_X12 33 (by decide) fl_X12_75 0 rfl rfl dX12_odds_178 ?_
                      refine lv_iload hx hb dX12_odds_181 (lv_at hl 6 rfl) ?_
                      obtain ⟨h24, hb22⟩ := ck_some hb22
                      refine m_lald X hK hP 16 rfl (by decide) h24 dX12_odds_183 ?_
                      obtain ⟨h25, hb22⟩ := ck_some hb22
                      refine m_last X hK hP hD hS 15 rfl (by decide) h25 [(a_t, .inr (12, [.ref a_t_now, .ref a_t_read, .ref a_t_past, .int (z4 t_deeds), .ref a_t_images, .ref a_t_isKept, .ref a_t_text, .int (z4 t_letters), .int (z4 t_at), .int (z4 t_tokenAt), .int (z4 t_tokenSort), .int (z4 t_tokenValue), .int (z4 t_items), .int (z4 t_isChanceTold), .int (z4 t_areSumsTold), .ref a_t_metAt, .ref a_t_memoryAt, .ref a_t_upAt, .ref a_t_downAt, .ref a_t_isSignal, .ref a_t_memories, .ref a_t_placeOf, .ref a_t_nextPlace, .int (z4 o5.2.1), .ref a_t_kindOf, .ref a_t_newKind, .int (z4 o5.2.2.1), .ref a_t_stateOfKind, .ref a_t_stateAt, .ref a_t_stepTo, .int (z4 o5.2.2.2.1), .ref a_t_far, .ref a_t_ways, .ref a_t_nextWays, .ref a_t_table])), (a_t_now, .inl (E 0, 98, .inl (A4 t_now))), (a_t_metAt, .inl (E 0, 40, .inl (A4 o5.2.2.2.2.1))), (a_t_memoryAt, .inl (E 0, 40, .inl (A4 o5.2.2.2.2.2.1))), (a_t_isSignal, .inl (E 1, 40, .inl (A4 o5.2.2.2.2.2.2.1))), (a_t_upAt, .inl (E 0, 40, .inl (A4 o5.2.2.2.2.2.2.2.1))), (a_t_downAt, .inl (E 0, 40, .inl (A4 o5.2.2.2.2.2.2.2.2.1))), (a_t_placeOf, .inl (E 0, 64, .inl (A4 o5.2.2.2.2.2.2.2.2.2.1))), (a_t_memories, .inl (E 0, 64, .inl (A4 o5.2.2.2.2.2.2.2.2.2.2.1))), (a_t_nextPlace, .inl (E 0, 320, .inl (A4 o5.2.2.2.2.2.2.2.2.2.2.2.1))), (a_t_kindOf, .inl (E 0, 64, .inl (A4 o5.2.2.2.2.2.2.2.2.2.2.2.2.1))), (a_t_newKind, .inl (E 0, 64, .inl (A4 o5.2.2.2.2.2.2.2.2.2.2.2.2.2.1))), (a_t_stateOfKind, .inl (E 0, 64, .inl (A4 o5.2.2.2.2.2.2.2.2.2.2.2.2.2.2.1))), (a_t_stateAt, .inl (E 0, 64, .inl (A4 o5.2.2.2.2.2.2.2.2.2.2.2.2.2.2.2.1))), (a_t_stepTo, .inl (E 0, 320, .inl (A4 o5.2.2.2.2.2.2.2.2.2.2.2.2.2.2.2.2))), (a_t_ways, .inl (E 2, 64, .inr (.inl (A8 (up_ t_ways_l162 (v162_7).toNat (o11 (v162_7).toNat)))))), (a_t_nextWays, .inl (E 2, 64, .inr (.inl (A8 o11))))] rfl dX12_odds_184 (fun H locs hP hD hS => ?_)
                      refine m_iinc X 6 [(7, .int (z4 (v162_7 + 1))), (0, .ref a_t), (1, .int (z4 x1)), (2, .int (z4 x2)), (3, .int (z4 o5.1)), (4, .long (z8 v58_4)), (6, .int (z4 v58_6))] dX12_odds_185 hl rfl (by decide) rfl (fun ls hl => ?_)
                      refine lv_goto (tgt := 162) hx hb dX12_odds_188 (by decide) ?_
                      obtain rfl := Option.some.inj hb22
                      exact ih22 _ _ _ _ _ (lv_sub hl [1, 2, 3, 4, 5, 6, 0] rfl) hP hD hS hq22
                exact L22 n _ _ _ _ _ (lv_sub hl [1, 2, 3, 4, 5, 6, 0] rfl) hP hD hS hj22
              have L11 : ∀ (k_ : Nat) (v67_7 : Int) (t_nextWays_l67 : Nat → Int), ∀ (H : Heap) (locs : List Loc) (ls : Array Slot), lv_has ls 12 [(0, .ref a_t), (1, .int (z4 x1)), (2, .int (z4 x2)), (3, .int (z4 o5.1)), (4, .long (z8 v58_4)), (6, .int (z4 v58_6)), (7, .int (z4 v67_7))] → va_P D vwCl [(a_t, .inr (12, [.ref a_t_now, .ref a_t_read, .ref a_t_past, .int (z4 t_deeds), .ref a_t_images, .ref a_t_isKept, .ref a_t_text, .int (z4 t_letters), .int (z4 t_at), .int (z4 t_tokenAt), .int (z4 t_tokenSort), .int (z4 t_tokenValue), .int (z4 t_items), .int (z4 t_isChanceTold), .int (z4 t_areSumsTold), .ref a_t_metAt, .ref a_t_memoryAt, .ref a_t_upAt, .ref a_t_downAt, .ref a_t_isSignal, .ref a_t_memories, .ref a_t_placeOf, .ref a_t_nextPlace, .int (z4 o5.2.1), .ref a_t_kindOf, .ref a_t_newKind, .int (z4 o5.2.2.1), .ref a_t_stateOfKind, .ref a_t_stateAt, .ref a_t_stepTo, .int (z4 o5.2.2.2.1), .ref a_t_far, .ref a_t_ways, .ref a_t_nextWays, .ref a_t_table])), (a_t_now, .inl (E 0, 98, .inl (A4 t_now))), (a_t_metAt, .inl (E 0, 40, .inl (A4 o5.2.2.2.2.1))), (a_t_memoryAt, .inl (E 0, 40, .inl (A4 o5.2.2.2.2.2.1))), (a_t_isSignal, .inl (E 1, 40, .inl (A4 o5.2.2.2.2.2.2.1))), (a_t_upAt, .inl (E 0, 40, .inl (A4 o5.2.2.2.2.2.2.2.1))), (a_t_downAt, .inl (E 0, 40, .inl (A4 o5.2.2.2.2.2.2.2.2.1))), (a_t_placeOf, .inl (E 0, 64, .inl (A4 o5.2.2.2.2.2.2.2.2.2.1))), (a_t_memories, .inl (E 0, 64, .inl (A4 o5.2.2.2.2.2.2.2.2.2.2.1))), (a_t_nextPlace, .inl (E 0, 320, .inl (A4 o5.2.2.2.2.2.2.2.2.2.2.2.1))), (a_t_kindOf, .inl (E 0, 64, .inl (A4 o5.2.2.2.2.2.2.2.2.2.2.2.2.1))), (a_t_newKind, .inl (E 0, 64, .inl (A4 o5.2.2.2.2.2.2.2.2.2.2.2.2.2.1))), (a_t_stateOfKind, .inl (E 0, 64, .inl (A4 o5.2.2.2.2.2.2.2.2.2.2.2.2.2.2.1))), (a_t_stateAt, .inl (E 0, 64, .inl (A4 o5.2.2.2.2.2.2.2.2.2.2.2.2.2.2.2.1))), (a_t_stepTo, .inl (E 0, 320, .inl (A4 o5.2.2.2.2.2.2.2.2.2.2.2.2.2.2.2.2))), (a_t_ways, .inl (E 2, 64, .inr (.inl (A8 t_ways_l58)))), (a_t_nextWays, .inl (E 2, 64, .inr (.inl (A8 t_nextWays_l67))))] H → va_D A [(a_t, .inr (12, [.ref a_t_now, .ref a_t_read, .ref a_t_past, .int (z4 t_deeds), .ref a_t_images, .ref a_t_isKept, .ref a_t_text, .int (z4 t_letters), .int (z4 t_at), .int (z4 t_tokenAt), .int (z4 t_tokenSort), .int (z4 t_tokenValue), .int (z4 t_items), .int (z4 t_isChanceTold), .int (z4 t_areSumsTold), .ref a_t_metAt, .ref a_t_memoryAt, .ref a_t_upAt, .ref a_t_downAt, .ref a_t_isSignal, .ref a_t_memories, .ref a_t_placeOf, .ref a_t_nextPlace, .int (z4 o5.2.1), .ref a_t_kindOf, .ref a_t_newKind, .int (z4 o5.2.2.1), .ref a_t_stateOfKind, .ref a_t_stateAt, .ref a_t_stepTo, .int (z4 o5.2.2.2.1), .ref a_t_far, .ref a_t_ways, .ref a_t_nextWays, .ref a_t_table])), (a_t_now, .inl (E 0, 98, .inl (A4 t_now))), (a_t_metAt, .inl (E 0, 40, .inl (A4 o5.2.2.2.2.1))), (a_t_memoryAt, .inl (E 0, 40, .inl (A4 o5.2.2.2.2.2.1))), (a_t_isSignal, .inl (E 1, 40, .inl (A4 o5.2.2.2.2.2.2.1))), (a_t_upAt, .inl (E 0, 40, .inl (A4 o5.2.2.2.2.2.2.2.1))), (a_t_downAt, .inl (E 0, 40, .inl (A4 o5.2.2.2.2.2.2.2.2.1))), (a_t_placeOf, .inl (E 0, 64, .inl (A4 o5.2.2.2.2.2.2.2.2.2.1))), (a_t_memories, .inl (E 0, 64, .inl (A4 o5.2.2.2.2.2.2.2.2.2.2.1))), (a_t_nextPlace, .inl (E 0, 320, .inl (A4 o5.2.2.2.2.2.2.2.2.2.2.2.1))), (a_t_kindOf, .inl (E 0, 64, .inl (A4 o5.2.2.2.2.2.2.2.2.2.2.2.2.1))), (a_t_newKind, .inl (E 0, 64, .inl (A4 o5.2.2.2.2.2.2.2.2.2.2.2.2.2.1))), (a_t_stateOfKind, .inl (E 0, 64, .inl (A4 o5.2.2.2.2.2.2.2.2.2.2.2.2.2.2.1))), (a_t_stateAt, .inl (E 0, 64, .inl (A4 o5.2.2.2.2.2.2.2.2.2.2.2.2.2.2.2.1))), (a_t_stepTo, .inl (E 0, 320, .inl (A4 o5.2.2.2.2.2.2.2.2.2.2.2.2.2.2.2.2))), (a_t_ways, .inl (E 2, 64, .inr (.inl (A8 t_ways_l58)))), (a_t_nextWays, .inl (E 2, 64, .inr (.inl (A8 t_nextWays_l67))))] → va_S A s.heap H locs → lp_ (fun (q : Int × (Nat → Int)) => F_X12_odds_L67 n o5 t_now v58_4 t_ways_l58 q.1 q.2) k_ (v67_7, t_nextWays_l67) = some o11 → W p l e rm_X12_odds s m args below meth c H locs 0 0 Q (F0 m 67 ls []) := by
                intro k_
                induction k_ with
                | zero =>
                  intro v67_7 t_nextWays_l67 H locs ls hl hP hD hS hq_; exact (lp_zero hq_).elim
                | succ k_ ih11 =>
                  intro v67_7 t_nextWays_l67 H locs ls hl hP hD hS hq_
                  obtain ⟨t_11, hb11, hq11⟩ := lp_some hq_
                  replace hb11 : F_X12_odds_L67 n o5 t_now v58_4 t_ways_l58 v67_7 t_nextWays_l67 = some t_11 := hb11
                  unfold F_X12_odds_L67 at hb11
                  refine lv_iload hx hb dX12_odds_67 (lv_at hl 6 rfl) ?_
                  refine lv_aload_n hx hb dX12_odds_69 rfl (lv_at hl 0 rfl) ?_
                  refine m_get X hK hP cl_X12 iT_X12 30 (by decide) fl_X12_200 0 rfl rfl dX12_odds_70 ?_
                  obtain ⟨h12, hb11⟩ := ck_some hb11
                  refine m_icmp_ge X h12 dX12_odds_73 (tgt := 159) (by decide) (fun (hc_ : ¬ (v67_7 < o5.2.2.2.1)) => ?_) (fun (hc_ : v67_7 < o5.2.2.2.1) => ?_)
                  · rw [if_neg hc_] at hb11
                    obtain rfl := Option.some.inj hb11
                    exact E11_0 _ (Option.some.inj hq11).symm _ _ _ (lv_sub hl [0, 1, 2, 3, 4, 5] rfl) hP hD hS
                  · rw [if_pos hc_] at hb11
                    refine m_lconst X 0 rfl dX12_odds_76 ?_
                    refine lv_lstore (lv' := [(8, .long (z8 0)), (0, .ref a_t), (1, .int (z4 x1)), (2, .int (z4 x2)), (3, .int (z4 o5.1)), (4, .long (z8 v58_4)), (6, .int (z4 v58_6)), (7, .int (z4 v67_7))]) hx hb dX12_odds_77 hl (by decide) rfl (fun ls hl => ?_)
                    refine m_iconst X dX12_odds_79 ?_
                    refine lv_istore (lv' := [(10, .int (z4 0)), (8, .long (z8 0)), (0, .ref a_t), (1, .int (z4 x1)), (2, .int (z4 x2)), (3, .int (z4 o5.1)), (4, .long (z8 v58_4)), (6, .int (z4 v58_6)), (7, .int (z4 v67_7))]) hx hb dX12_odds_80 hl (by decide) rfl (fun ls hl => ?_)
                    obtain ⟨o13, hj13, hr13⟩ := bd_some hb11
                    have E13_0 : ∀ (o_ : Int), o13 = o_ → ∀ (H : Heap) (locs : List Loc) (ls : Array Slot), lv_has ls 12 [(0, .ref a_t), (1, .int (z4 x1)), (2, .int (z4 x2)), (3, .int (z4 o5.1)), (4, .long (z8 v58_4)), (6, .int (z4 v58_6)), (7, .int (z4 v67_7)), (8, .long (z8 o_))] → va_P D vwCl [(a_t, .inr (12, [.ref a_t_now, .ref a_t_read, .ref a_t_past, .int (z4 t_deeds), .ref a_t_images, .ref a_t_isKept, .ref a_t_text, .int (z4 t_letters), .int (z4 t_at), .int (z4 t_tokenAt), .int (z4 t_tokenSort), .int (z4 t_tokenValue), .int (z4 t_items), .int (z4 t_isChanceTold), .int (z4 t_areSumsTold), .ref a_t_metAt, .ref a_t_memoryAt, .ref a_t_upAt, .ref a_t_downAt, .ref a_t_isSignal, .ref a_t_memories, .ref a_t_placeOf, .ref a_t_nextPlace, .int (z4 o5.2.1), .ref a_t_kindOf, .ref a_t_newKind, .int (z4 o5.2.2.1), .ref a_t_stateOfKind, .ref a_t_stateAt, .ref a_t_stepTo, .int (z4 o5.2.2.2.1), .ref a_t_far, .ref a_t_ways, .ref a_t_nextWays, .ref a_t_table])), (a_t_now, .inl (E 0, 98, .inl (A4 t_now))), (a_t_metAt, .inl (E 0, 40, .inl (A4 o5.2.2.2.2.1))), (a_t_memoryAt, .inl (E 0, 40, .inl (A4 o5.2.2.2.2.2.1))), (a_t_isSignal, .inl (E 1, 40, .inl (A4 o5.2.2.2.2.2.2.1))), (a_t_upAt, .inl (E 0, 40, .inl (A4 o5.2.2.2.2.2.2.2.1))), (a_t_downAt, .inl (E 0, 40, .inl (A4 o5.2.2.2.2.2.2.2.2.1))), (a_t_placeOf, .inl (E 0, 64, .inl (A4 o5.2.2.2.2.2.2.2.2.2.1))), (a_t_memories, .inl (E 0, 64, .inl (A4 o5.2.2.2.2.2.2.2.2.2.2.1))), (a_t_nextPlace, .inl (E 0, 320, .inl (A4 o5.2.2.2.2.2.2.2.2.2.2.2.1))), (a_t_kindOf, .inl (E 0, 64, .inl (A4 o5.2.2.2.2.2.2.2.2.2.2.2.2.1))), (a_t_newKind, .inl (E 0, 64, .inl (A4 o5.2.2.2.2.2.2.2.2.2.2.2.2.2.1))), (a_t_stateOfKind, .inl (E 0, 64, .inl (A4 o5.2.2.2.2.2.2.2.2.2.2.2.2.2.2.1))), (a_t_stateAt, .inl (E 0, 64, .inl (A4 o5.2.2.2.2.2.2.2.2.2.2.2.2.2.2.2.1))), (a_t_stepTo, .inl (E 0, 320, .inl (A4 o5.2.2.2.2.2.2.2.2.2.2.2.2.2.2.2.2))), (a_t_ways, .inl (E 2, 64, .inr (.inl (A8 t_ways_l58)))), (a_t_nextWays, .inl (E 2, 64, .inr (.inl (A8 t_nextWays_l67))))] H → va_D A [(a_t, .inr (12, [.ref a_t_now, .ref a_t_read, .ref a_t_past, .int (z4 t_deeds), .ref a_t_images, .ref a_t_isKept, .ref a_t_text, .int (z4 t_letters), .int (z4 t_at), .int (z4 t_tokenAt), .int (z4 t_tokenSort), .int (z4 t_tokenValue), .int (z4 t_items), .int (z4 t_isChanceTold), .int (z4 t_areSumsTold), .ref a_t_metAt, .ref a_t_memoryAt, .ref a_t_upAt, .ref a_t_downAt, .ref a_t_isSignal, .ref a_t_memories, .ref a_t_placeOf, .ref a_t_nextPlace, .int (z4 o5.2.1), .ref a_t_kindOf, .ref a_t_newKind, .int (z4 o5.2.2.1), .ref a_t_stateOfKind, .ref a_t_stateAt, .ref a_t_stepTo, .int (z4 o5.2.2.2.1), .ref a_t_far, .ref a_t_ways, .ref a_t_nextWays, .ref a_t_table])), (a_t_now, .inl (E 0, 98, .inl (A4 t_now))), (a_t_metAt, .inl (E 0, 40, .inl (A4 o5.2.2.2.2.1))), (a_t_memoryAt, .inl (E 0, 40, .inl (A4 o5.2.2.2.2.2.1))), (a_t_isSignal, .inl (E 1, 40, .inl (A4 o5.2.2.2.2.2.2.1))), (a_t_upAt, .inl (E 0, 40, .inl (A4 o5.2.2.2.2.2.2.2.1))), (a_t_downAt, .inl (E 0, 40, .inl (A4 o5.2.2.2.2.2.2.2.2.1))), (a_t_placeOf, .inl (E 0, 64, .inl (A4 o5.2.2.2.2.2.2.2.2.2.1))), (a_t_memories, .inl (E 0, 64, .inl (A4 o5.2.2.2.2.2.2.2.2.2.2.1))), (a_t_nextPlace, .inl (E 0, 320, .inl (A4 o5.2.2.2.2.2.2.2.2.2.2.2.1))), (a_t_kindOf, .inl (E 0, 64, .inl (A4 o5.2.2.2.2.2.2.2.2.2.2.2.2.1))), (a_t_newKind, .inl (E 0, 64, .inl (A4 o5.2.2.2.2.2.2.2.2.2.2.2.2.2.1))), (a_t_stateOfKind, .inl (E 0, 64, .inl (A4 o5.2.2.2.2.2.2.2.2.2.2.2.2.2.2.1))), (a_t_stateAt, .inl (E 0, 64, .inl (A4 o5.2.2.2.2.2.2.2.2.2.2.2.2.2.2.2.1))), (a_t_stepTo, .inl (E 0, 320, .inl (A4 o5.2.2.2.2.2.2.2.2.2.2.2.2.2.2.2.2))), (a_t_ways, .inl (E 2, 64, .inr (.inl (A8 t_ways_l58)))), (a_t_nextWays, .inl (E 2, 64, .inr (.inl (A8 t_nextWays_l67))))] → va_S A s.heap H locs → W p l e rm_X12_odds s m args below meth c H locs 0 0 Q (F0 m 144 ls []) := by
                      intro o_ ho_ H locs ls hl hP hD hS
                      subst ho_
                      refine lv_aload_n hx hb dX12_odds_144 rfl (lv_at hl 0 rfl) ?_
                      refine m_get X hK hP cl_X12 iT_X12 33 (by decide) fl_X12_75 0 rfl rfl dX12_odds_145 ?_
                      refine lv_iload hx hb dX12_odds_148 (lv_at hl 6 rfl) ?_
                      refine lv_lload hx hb dX12_odds_150 (lv_at hl 7 rfl) ?_
                      obtain ⟨h21, hr13⟩ := ck_some hr13
                      refine m_last X hK hP hD hS 16 rfl (by decide) h21 [(a_t, .inr (12, [.ref a_t_now, .ref a_t_read, .ref a_t_past, .int (z4 t_deeds), .ref a_t_images, .ref a_t_isKept, .ref a_t_text, .int (z4 t_letters), .int (z4 t_at), .int (z4 t_tokenAt), .int (z4 t_tokenSort), .int (z4 t_tokenValue), .int (z4 t_items), .int (z4 t_isChanceTold), .int (z4 t_areSumsTold), .ref a_t_metAt, .ref a_t_memoryAt, .ref a_t_upAt, .ref a_t_downAt, .ref a_t_isSignal, .ref a_t_memories, .ref a_t_placeOf, .ref a_t_nextPlace, .int (z4 o5.2.1), .ref a_t_kindOf, .ref a_t_newKind, .int (z4 o5.2.2.1), .ref a_t_stateOfKind, .ref a_t_stateAt, .ref a_t_stepTo, .int (z4 o5.2.2.2.1), .ref a_t_far, .ref a_t_ways, .ref a_t_nextWays, .ref a_t_table])), (a_t_now, .inl (E 0, 98, .inl (A4 t_now))), (a_t_metAt, .inl (E 0, 40, .inl (A4 o5.2.2.2.2.1))), (a_t_memoryAt, .inl (E 0, 40, .inl (A4 o5.2.2.2.2.2.1))), (a_t_isSignal, .inl (E 1, 40, .inl (A4 o5.2.2.2.2.2.2.1))), (a_t_upAt, .inl (E 0, 40, .inl (A4 o5.2.2.2.2.2.2.2.1))), (a_t_downAt, .inl (E 0, 40, .inl (A4 o5.2.2.2.2.2.2.2.2.1))), (a_t_placeOf, .inl (E 0, 64, .inl (A4 o5.2.2.2.2.2.2.2.2.2.1))), (a_t_memories, .inl (E 0, 64, .inl (A4 o5.2.2.2.2.2.2.2.2.2.2.1))), (a_t_nextPlace, .inl (E 0, 320, .inl (A4 o5.2.2.2.2.2.2.2.2.2.2.2.1))), (a_t_kindOf, .inl (E 0, 64, .inl (A4 o5.2.2.2.2.2.2.2.2.2.2.2.2.1))), (a_t_newKind, .inl (E 0, 64, .inl (A4 o5.2.2.2.2.2.2.2.2.2.2.2.2.2.1))), (a_t_stateOfKind, .inl (E 0, 64, .inl (A4 o5.2.2.2.2.2.2.2.2.2.2.2.2.2.2.1))), (a_t_stateAt, .inl (E 0, 64, .inl (A4 o5.2.2.2.2.2.2.2.2.2.2.2.2.2.2.2.1))), (a_t_stepTo, .inl (E 0, 320, .inl (A4 o5.2.2.2.2.2.2.2.2.2.2.2.2.2.2.2.2))), (a_t_ways, .inl (E 2, 64, .inr (.inl (A8 t_ways_l58)))), (a_t_nextWays, .inl (E 2, 64, .inr (.inl (A8 (up_ t_nextWays_l67 (v67_7).toNat o13)))))] rfl dX12_odds_152 (fun H locs hP hD hS => ?_)
                      refine m_iinc X 6 [(7, .int (z4 (v67_7 + 1))), (0, .ref a_t), (1, .int (z4 x1)), (2, .int (z4 x2)), (3, .int (z4 o5.1)), (4, .long (z8 v58_4)), (6, .int (z4 v58_6)), (8, .long (z8 o13))] dX12_odds_153 hl rfl (by decide) rfl (fun ls hl => ?_)
                      refine lv_goto (tgt := 67) hx hb dX12_odds_156 (by decide) ?_
                      obtain rfl := Option.some.inj hr13
                      exact ih11 _ _ _ _ _ (lv_sub hl [1, 2, 3, 4, 5, 6, 0] rfl) hP hD hS hq11
                    have L13 : ∀ (k_ : Nat) (v82_8 : Int) (v82_10 : Int), ∀ (H : Heap) (locs : List Loc) (ls : Array Slot), lv_has ls 12 [(0, .ref a_t), (1, .int (z4 x1)), (2, .int (z4 x2)), (3, .int (z4 o5.1)), (4, .long (z8 v58_4)), (6, .int (z4 v58_6)), (7, .int (z4 v67_7)), (8, .long (z8 v82_8)), (10, .int (z4 v82_10))] → va_P D vwCl [(a_t, .inr (12, [.ref a_t_now, .ref a_t_read, .ref a_t_past, .int (z4 t_deeds), .ref a_t_images, .ref a_t_isKept, .ref a_t_text, .int (z4 t_letters), .int (z4 t_at), .int (z4 t_tokenAt), .int (z4 t_tokenSort), .int (z4 t_tokenValue), .int (z4 t_items), .int (z4 t_isChanceTold), .int (z4 t_areSumsTold), .ref a_t_metAt, .ref a_t_memoryAt, .ref a_t_upAt, .ref a_t_downAt, .ref a_t_isSignal, .ref a_t_memories, .ref a_t_placeOf, .ref a_t_nextPlace, .int (z4 o5.2.1), .ref a_t_kindOf, .ref a_t_newKind, .int (z4 o5.2.2.1), .ref a_t_stateOfKind, .ref a_t_stateAt, .ref a_t_stepTo, .int (z4 o5.2.2.2.1), .ref a_t_far, .ref a_t_ways, .ref a_t_nextWays, .ref a_t_table])), (a_t_now, .inl (E 0, 98, .inl (A4 t_now))), (a_t_metAt, .inl (E 0, 40, .inl (A4 o5.2.2.2.2.1))), (a_t_memoryAt, .inl (E 0, 40, .inl (A4 o5.2.2.2.2.2.1))), (a_t_isSignal, .inl (E 1, 40, .inl (A4 o5.2.2.2.2.2.2.1))), (a_t_upAt, .inl (E 0, 40, .inl (A4 o5.2.2.2.2.2.2.2.1))), (a_t_downAt, .inl (E 0, 40, .inl (A4 o5.2.2.2.2.2.2.2.2.1))), (a_t_placeOf, .inl (E 0, 64, .inl (A4 o5.2.2.2.2.2.2.2.2.2.1))), (a_t_memories, .inl (E 0, 64, .inl (A4 o5.2.2.2.2.2.2.2.2.2.2.1))), (a_t_nextPlace, .inl (E 0, 320, .inl (A4 o5.2.2.2.2.2.2.2.2.2.2.2.1))), (a_t_kindOf, .inl (E 0, 64, .inl (A4 o5.2.2.2.2.2.2.2.2.2.2.2.2.1))), (a_t_newKind, .inl (E 0, 64, .inl (A4 o5.2.2.2.2.2.2.2.2.2.2.2.2.2.1))), (a_t_stateOfKind, .inl (E 0, 64, .inl (A4 o5.2.2.2.2.2.2.2.2.2.2.2.2.2.2.1))), (a_t_stateAt, .inl (E 0, 64, .inl (A4 o5.2.2.2.2.2.2.2.2.2.2.2.2.2.2.2.1))), (a_t_stepTo, .inl (E 0, 320, .inl (A4 o5.2.2.2.2.2.2.2.2.2.2.2.2.2.2.2.2))), (a_t_ways, .inl (E 2, 64, .inr (.inl (A8 t_ways_l58)))), (a_t_nextWays, .inl (E 2, 64, .inr (.inl (A8 t_nextWays_l67))))] H → va_D A [(a_t, .inr (12, [.ref a_t_now, .ref a_t_read, .ref a_t_past, .int (z4 t_deeds), .ref a_t_images, .ref a_t_isKept, .ref a_t_text, .int (z4 t_letters), .int (z4 t_at), .int (z4 t_tokenAt), .int (z4 t_tokenSort), .int (z4 t_tokenValue), .int (z4 t_items), .int (z4 t_isChanceTold), .int (z4 t_areSumsTold), .ref a_t_metAt, .ref a_t_memoryAt, .ref a_t_upAt, .ref a_t_downAt, .ref a_t_isSignal, .ref a_t_memories, .ref a_t_placeOf, .ref a_t_nextPlace, .int (z4 o5.2.1), .ref a_t_kindOf, .ref a_t_newKind, .int (z4 o5.2.2.1), .ref a_t_stateOfKind, .ref a_t_stateAt, .ref a_t_stepTo, .int (z4 o5.2.2.2.1), .ref a_t_far, .ref a_t_ways, .ref a_t_nextWays, .ref a_t_table])), (a_t_now, .inl (E 0, 98, .inl (A4 t_now))), (a_t_metAt, .inl (E 0, 40, .inl (A4 o5.2.2.2.2.1))), (a_t_memoryAt, .inl (E 0, 40, .inl (A4 o5.2.2.2.2.2.1))), (a_t_isSignal, .inl (E 1, 40, .inl (A4 o5.2.2.2.2.2.2.1))), (a_t_upAt, .inl (E 0, 40, .inl (A4 o5.2.2.2.2.2.2.2.1))), (a_t_downAt, .inl (E 0, 40, .inl (A4 o5.2.2.2.2.2.2.2.2.1))), (a_t_placeOf, .inl (E 0, 64, .inl (A4 o5.2.2.2.2.2.2.2.2.2.1))), (a_t_memories, .inl (E 0, 64, .inl (A4 o5.2.2.2.2.2.2.2.2.2.2.1))), (a_t_nextPlace, .inl (E 0, 320, .inl (A4 o5.2.2.2.2.2.2.2.2.2.2.2.1))), (a_t_kindOf, .inl (E 0, 64, .inl (A4 o5.2.2.2.2.2.2.2.2.2.2.2.2.1))), (a_t_newKind, .inl (E 0, 64, .inl (A4 o5.2.2.2.2.2.2.2.2.2.2.2.2.2.1))), (a_t_stateOfKind, .inl (E 0, 64, .inl (A4 o5.2.2.2.2.2.2.2.2.2.2.2.2.2.2.1))), (a_t_stateAt, .inl (E 0, 64, .inl (A4 o5.2.2.2.2.2.2.2.2.2.2.2.2.2.2.2.1))), (a_t_stepTo, .inl (E 0, 320, .inl (A4 o5.2.2.2.2.2.2.2.2.2.2.2.2.2.2.2.2))), (a_t_ways, .inl (E 2, 64, .inr (.inl (A8 t_ways_l58)))), (a_t_nextWays, .inl (E 2, 64, .inr (.inl (A8 t_nextWays_l67))))] → va_S A s.heap H locs → lp_ (fun (q : Int × Int) => F_X12_odds_L82 n v67_7 t_now o5 v58_4 t_ways_l58 q.1 q.2) k_ (v82_8, v82_10) = some o13 → W p l e rm_X12_odds s m args below meth c H locs 0 0 Q (F0 m 82 ls []) := by
                      intro k_
                      induction k_ with
                      | zero =>
                        intro v82_8 v82_10 H locs ls hl hP hD hS hq_; exact (lp_zero hq_).elim
                      | succ k_ ih13 =>
                        intro v82_8 v82_10 H locs ls hl hP hD hS hq_
                        obtain ⟨t_13, hb13, hq13⟩ := lp_some hq_
                        replace hb13 : F_X12_odds_L82 n v67_7 t_now o5 v58_4 t_ways_l58 v82_8 v82_10 = some t_13 := hb13
                        unfold F_X12_odds_L82 at hb13
                        refine lv_iload hx hb dX12_odds_82 (lv_at hl 8 rfl) ?_
                        refine m_iconst X dX12_odds_84 ?_
                        obtain ⟨h14, hb13⟩ := ck_some hb13
                        refine m_icmp_ge X ⟨h14, ⟨by decide, by decide⟩⟩ dX12_odds_85 (tgt := 144) (by decide) (fun (hc_ : ¬ (v82_10 < 5)) => ?_) (fun (hc_ : v82_10 < 5) => ?_)
                        · rw [if_neg hc_] at hb13
                          obtain rfl := Option.some.inj hb13
                          exact E13_0 _ (Option.some.inj hq13).symm _ _ _ (lv_sub hl [0, 1, 2, 3, 4, 5, 6, 7] rfl) hP hD hS
                        · rw [if_pos hc_] at hb13
                          refine lv_aload_n hx hb dX12_odds_88 rfl (lv_at hl 0 rfl) ?_
                          refine m_get X hK hP cl_X12 iT_X12 29 (by decide) fl_X12_65 0 rfl rfl dX12_odds_89 ?_
                          refine m_iconst X dX12_odds_92 ?_
                          refine lv_iload hx hb dX12_odds_93 (lv_at hl 6 rfl) ?_
                          refine m_imul X dX12_odds_95 ?_
                          refine lv_iload hx hb dX12_odds_96 (lv_at hl 8 rfl) ?_
                          refine m_iadd X dX12_odds_98 ?_
                          obtain ⟨h15, hb13⟩ := ck_some hb13
                          refine m_iald X hK hP 14 rfl (by decide) h15 dX12_odds_99 ?_
                          refine lv_istore (lv' := [(11, .int (z4 (o5.2.2.2.2.2.2.2.2.2.2.2.2.2.2.2.2 ((5 * v67_7) + v82_10).toNat))), (0, .ref a_t), (1, .int (z4 x1)), (2, .int (z4 x2)), (3, .int (z4 o5.1)), (4, .long (z8 v58_4)), (6, .int (z4 v58_6)), (7, .int (z4 v67_7)), (8, .long (z8 v82_8)), (10, .int (z4 v82_10))]) hx hb dX12_odds_100 hl (by decide) rfl (fun ls hl => ?_)
                          refine lv_lload hx hb dX12_odds_102 (lv_at hl 8 rfl) ?_
                          refine lv_aload_n hx hb dX12_odds_104 rfl (lv_at hl 1 rfl) ?_
                          refine m_get X hK hP cl_X12 iT_X12 0 (by decide) fl_X12_7 0 rfl rfl dX12_odds_105 ?_
                          refine m_bipush X dX12_odds_108 (by decide) ?_
                          refine lv_iload hx hb dX12_odds_110 (lv_at hl 9 rfl) ?_
                          refine m_iadd X dX12_odds_112 ?_
                          obtain ⟨h16, hb13⟩ := ck_some hb13
                          refine m_iald X hK hP 1 rfl (by decide) h16 dX12_odds_113 ?_
                          obtain ⟨h17, hb13⟩ := ck_some hb13
                          refine m_i2l X h17 dX12_odds_114 ?_
                          refine lv_iload hx hb dX12_odds_115 (lv_at hl 0 rfl) ?_
                          refine m_bipush X dX12_odds_117 (by decide) ?_
                          obtain ⟨o18, hj18, hr18⟩ := bd_some hb13
                          have J18 : ∀ (o_ : Int), o18 = o_ → ∀ (H : Heap) (locs : List Loc) (ls : Array Slot), lv_has ls 12 [(0, .ref a_t), (1, .int (z4 x1)), (2, .int (z4 x2)), (3, .int (z4 o5.1)), (4, .long (z8 v58_4)), (6, .int (z4 v58_6)), (7, .int (z4 v67_7)), (10, .int (z4 v82_10))] → va_P D vwCl [(a_t, .inr (12, [.ref a_t_now, .ref a_t_read, .ref a_t_past, .int (z4 t_deeds), .ref a_t_images, .ref a_t_isKept, .ref a_t_text, .int (z4 t_letters), .int (z4 t_at), .int (z4 t_tokenAt), .int (z4 t_tokenSort), .int (z4 t_tokenValue), .int (z4 t_items), .int (z4 t_isChanceTold), .int (z4 t_areSumsTold), .ref a_t_metAt, .ref a_t_memoryAt, .ref a_t_upAt, .ref a_t_downAt, .ref a_t_isSignal, .ref a_t_memories, .ref a_t_placeOf, .ref a_t_nextPlace, .int (z4 o5.2.1), .ref a_t_kindOf, .ref a_t_newKind, .int (z4 o5.2.2.1), .ref a_t_stateOfKind, .ref a_t_stateAt, .ref a_t_stepTo, .int (z4 o5.2.2.2.1), .ref a_t_far, .ref a_t_ways, .ref a_t_nextWays, .ref a_t_table])), (a_t_now, .inl (E 0, 98, .inl (A4 t_now))), (a_t_metAt, .inl (E 0, 40, .inl (A4 o5.2.2.2.2.1))), (a_t_memoryAt, .inl (E 0, 40, .inl (A4 o5.2.2.2.2.2.1))), (a_t_isSignal, .inl (E 1, 40, .inl (A4 o5.2.2.2.2.2.2.1))), (a_t_upAt, .inl (E 0, 40, .inl (A4 o5.2.2.2.2.2.2.2.1))), (a_t_downAt, .inl (E 0, 40, .inl (A4 o5.2.2.2.2.2.2.2.2.1))), (a_t_placeOf, .inl (E 0, 64, .inl (A4 o5.2.2.2.2.2.2.2.2.2.1))), (a_t_memories, .inl (E 0, 64, .inl (A4 o5.2.2.2.2.2.2.2.2.2.2.1))), (a_t_nextPlace, .inl (E 0, 320, .inl (A4 o5.2.2.2.2.2.2.2.2.2.2.2.1))), (a_t_kindOf, .inl (E 0, 64, .inl (A4 o5.2.2.2.2.2.2.2.2.2.2.2.2.1))), (a_t_newKind, .inl (E 0, 64, .inl (A4 o5.2.2.2.2.2.2.2.2.2.2.2.2.2.1))), (a_t_stateOfKind, .inl (E 0, 64, .inl (A4 o5.2.2.2.2.2.2.2.2.2.2.2.2.2.2.1))), (a_t_stateAt, .inl (E 0, 64, .inl (A4 o5.2.2.2.2.2.2.2.2.2.2.2.2.2.2.2.1))), (a_t_stepTo, .inl (E 0, 320, .inl (A4 o5.2.2.2.2.2.2.2.2.2.2.2.2.2.2.2.2))), (a_t_ways, .inl (E 2, 64, .inr (.inl (A8 t_ways_l58)))), (a_t_nextWays, .inl (E 2, 64, .inr (.inl (A8 t_nextWays_l67))))] H → va_D A [(a_t, .inr (12, [.ref a_t_now, .ref a_t_read, .ref a_t_past, .int (z4 t_deeds), .ref a_t_images, .ref a_t_isKept, .ref a_t_text, .int (z4 t_letters), .int (z4 t_at), .int (z4 t_tokenAt), .int (z4 t_tokenSort), .int (z4 t_tokenValue), .int (z4 t_items), .int (z4 t_isChanceTold), .int (z4 t_areSumsTold), .ref a_t_metAt, .ref a_t_memoryAt, .ref a_t_upAt, .ref a_t_downAt, .ref a_t_isSignal, .ref a_t_memories, .ref a_t_placeOf, .ref a_t_nextPlace, .int (z4 o5.2.1), .ref a_t_kindOf, .ref a_t_newKind, .int (z4 o5.2.2.1), .ref a_t_stateOfKind, .ref a_t_stateAt, .ref a_t_stepTo, .int (z4 o5.2.2.2.1), .ref a_t_far, .ref a_t_ways, .ref a_t_nextWays, .ref a_t_table])), (a_t_now, .inl (E 0, 98, .inl (A4 t_now))), (a_t_metAt, .inl (E 0, 40, .inl (A4 o5.2.2.2.2.1))), (a_t_memoryAt, .inl (E 0, 40, .inl (A4 o5.2.2.2.2.2.1))), (a_t_isSignal, .inl (E 1, 40, .inl (A4 o5.2.2.2.2.2.2.1))), (a_t_upAt, .inl (E 0, 40, .inl (A4 o5.2.2.2.2.2.2.2.1))), (a_t_downAt, .inl (E 0, 40, .inl (A4 o5.2.2.2.2.2.2.2.2.1))), (a_t_placeOf, .inl (E 0, 64, .inl (A4 o5.2.2.2.2.2.2.2.2.2.1))), (a_t_memories, .inl (E 0, 64, .inl (A4 o5.2.2.2.2.2.2.2.2.2.2.1))), (a_t_nextPlace, .inl (E 0, 320, .inl (A4 o5.2.2.2.2.2.2.2.2.2.2.2.1))), (a_t_kindOf, .inl (E 0, 64, .inl (A4 o5.2.2.2.2.2.2.2.2.2.2.2.2.1))), (a_t_newKind, .inl (E 0, 64, .inl (A4 o5.2.2.2.2.2.2.2.2.2.2.2.2.2.1))), (a_t_stateOfKind, .inl (E 0, 64, .inl (A4 o5.2.2.2.2.2.2.2.2.2.2.2.2.2.2.1))), (a_t_stateAt, .inl (E 0, 64, .inl (A4 o5.2.2.2.2.2.2.2.2.2.2.2.2.2.2.2.1))), (a_t_stepTo, .inl (E 0, 320, .inl (A4 o5.2.2.2.2.2.2.2.2.2.2.2.2.2.2.2.2))), (a_t_ways, .inl (E 2, 64, .inr (.inl (A8 t_ways_l58)))), (a_t_nextWays, .inl (E 2, 64, .inr (.inl (A8 t_nextWays_l67))))] → va_S A s.heap H locs → W p l e rm_X12_odds s m args below meth c H locs 0 0 Q (F0 m 134 ls [.long (z8 o_), .long (z8 (t_now (10 + v82_10).toNat)), .long (z8 v82_8)]) := by
                            intro o_ ho_ H locs ls hl hP hD hS
                            subst ho_
                            refine m_lmul X dX12_odds_134 ?_
                            refine m_ladd X dX12_odds_135 ?_
                            refine lv_lstore (lv' := [(8, .long (z8 (v82_8 + ((t_now (10 + v82_10).toNat) * o18)))), (0, .ref a_t), (1, .int (z4 x1)), (2, .int (z4 x2)), (3, .int (z4 o5.1)), (4, .long (z8 v58_4)), (6, .int (z4 v58_6)), (7, .int (z4 v67_7)), (10, .int (z4 v82_10))]) hx hb dX12_odds_136 hl (by decide) rfl (fun ls hl => ?_)
                            refine m_iinc X 8 [(10, .int (z4 (v82_10 + 1))), (8, .long (z8 (v82_8 + ((t_now (10 + v82_10).toNat) * o18)))), (0, .ref a_t), (1, .int (z4 x1)), (2, .int (z4 x2)), (3, .int (z4 o5.1)), (4, .long (z8 v58_4)), (6, .int (z4 v58_6)), (7, .int (z4 v67_7))] dX12_odds_138 hl rfl (by decide) rfl (fun ls hl => ?_)
                            refine lv_goto (tgt := 82) hx hb dX12_odds_141 (by decide) ?_
                            obtain rfl := Option.some.inj hr18
                            exact ih13 _ _ _ _ _ (lv_sub hl [2, 3, 4, 5, 6, 7, 8, 1, 0] rfl) hP hD hS hq13
                          obtain ⟨h19, hj18⟩ := ck_some hj18
                          refine m_icmp_ne X ⟨h19, ⟨by decide, by decide⟩⟩ dX12_odds_119 (tgt := 127) (by decide) (fun (hc_ : ¬ (o5.2.2.2.2.2.2.2.2.2.2.2.2.2.2.2.2 ((5 * v67_7) + v82_10).toNat = (-5))) => ?_) (fun (hc_ : o5.2.2.2.2.2.2.2.2.2.2.2.2.2.2.2.2 ((5 * v67_7) + v82_10).toNat = (-5)) => ?_)
                          · rw [if_neg hc_] at hj18
                            refine lv_aload_n hx hb dX12_odds_127 rfl (lv_at hl 1 rfl) ?_
                            refine m_get X hK hP cl_X12 iT_X12 32 (by decide) fl_X12_71 0 rfl rfl dX12_odds_128 ?_
                            refine lv_iload hx hb dX12_odds_131 (lv_at hl 0 rfl) ?_
                            obtain ⟨h20, hj18⟩ := ck_some hj18
                            refine m_lald X hK hP 15 rfl (by decide) h20 dX12_odds_133 ?_
                            exact J18 _ (Option.some.inj hj18).symm _ _ _ (lv_sub hl [1, 2, 3, 4, 5, 6, 7, 9] rfl) hP hD hS
                          · rw [if_pos hc_] at hj18
                            refine lv_lload hx hb dX12_odds_122 (lv_at hl 5 rfl) ?_
                            refine lv_goto (tgt := 134) hx hb dX12_odds_124 (by decide) ?_
                            exact J18 _ (Option.some.inj hj18).symm _ _ _ (lv_sub hl [1, 2, 3, 4, 5, 6, 7, 9] rfl) hP hD hS
                    exact L13 n _ _ _ _ _ (lv_sub hl [2, 3, 4, 5, 6, 7, 8, 1, 0] rfl) hP hD hS hj13
              exact L11 n _ _ _ _ _ (lv_sub hl [1, 2, 3, 4, 5, 6, 0] rfl) hP hD hS hj11
        exact L9 n _ _ _ _ _ _ _ (lv_sub hl [1, 2, 3, 4, 5, 0] rfl) hP hD hS hj9
      have L6 : ∀ (k_ : Nat) (v32_6 : Int) (t_ways_l32 : Nat → Int), ∀ (H : Heap) (locs : List Loc) (ls : Array Slot), lv_has ls 12 [(0, .ref a_t), (1, .int (z4 x1)), (2, .int (z4 x2)), (3, .int (z4 o5.1)), (4, .long (z8 1)), (6, .int (z4 v32_6))] → va_P D vwCl [(a_t, .inr (12, [.ref a_t_now, .ref a_t_read, .ref a_t_past, .int (z4 t_deeds), .ref a_t_images, .ref a_t_isKept, .ref a_t_text, .int (z4 t_letters), .int (z4 t_at), .int (z4 t_tokenAt), .int (z4 t_tokenSort), .int (z4 t_tokenValue), .int (z4 t_items), .int (z4 t_isChanceTold), .int (z4 t_areSumsTold), .ref a_t_metAt, .ref a_t_memoryAt, .ref a_t_upAt, .ref a_t_downAt, .ref a_t_isSignal, .ref a_t_memories, .ref a_t_placeOf, .ref a_t_nextPlace, .int (z4 o5.2.1), .ref a_t_kindOf, .ref a_t_newKind, .int (z4 o5.2.2.1), .ref a_t_stateOfKind, .ref a_t_stateAt, .ref a_t_stepTo, .int (z4 o5.2.2.2.1), .ref a_t_far, .ref a_t_ways, .ref a_t_nextWays, .ref a_t_table])), (a_t_now, .inl (E 0, 98, .inl (A4 t_now))), (a_t_metAt, .inl (E 0, 40, .inl (A4 o5.2.2.2.2.1))), (a_t_memoryAt, .inl (E 0, 40, .inl (A4 o5.2.2.2.2.2.1))), (a_t_isSignal, .inl (E 1, 40, .inl (A4 o5.2.2.2.2.2.2.1))), (a_t_upAt, .inl (E 0, 40, .inl (A4 o5.2.2.2.2.2.2.2.1))), (a_t_downAt, .inl (E 0, 40, .inl (A4 o5.2.2.2.2.2.2.2.2.1))), (a_t_placeOf, .inl (E 0, 64, .inl (A4 o5.2.2.2.2.2.2.2.2.2.1))), (a_t_memories, .inl (E 0, 64, .inl (A4 o5.2.2.2.2.2.2.2.2.2.2.1))), (a_t_nextPlace, .inl (E 0, 320, .inl (A4 o5.2.2.2.2.2.2.2.2.2.2.2.1))), (a_t_kindOf, .inl (E 0, 64, .inl (A4 o5.2.2.2.2.2.2.2.2.2.2.2.2.1))), (a_t_newKind, .inl (E 0, 64, .inl (A4 o5.2.2.2.2.2.2.2.2.2.2.2.2.2.1))), (a_t_stateOfKind, .inl (E 0, 64, .inl (A4 o5.2.2.2.2.2.2.2.2.2.2.2.2.2.2.1))), (a_t_stateAt, .inl (E 0, 64, .inl (A4 o5.2.2.2.2.2.2.2.2.2.2.2.2.2.2.2.1))), (a_t_stepTo, .inl (E 0, 320, .inl (A4 o5.2.2.2.2.2.2.2.2.2.2.2.2.2.2.2.2))), (a_t_ways, .inl (E 2, 64, .inr (.inl (A8 t_ways_l32)))), (a_t_nextWays, .inl (E 2, 64, .inr (.inl (A8 t_nextWays))))] H → va_D A [(a_t, .inr (12, [.ref a_t_now, .ref a_t_read, .ref a_t_past, .int (z4 t_deeds), .ref a_t_images, .ref a_t_isKept, .ref a_t_text, .int (z4 t_letters), .int (z4 t_at), .int (z4 t_tokenAt), .int (z4 t_tokenSort), .int (z4 t_tokenValue), .int (z4 t_items), .int (z4 t_isChanceTold), .int (z4 t_areSumsTold), .ref a_t_metAt, .ref a_t_memoryAt, .ref a_t_upAt, .ref a_t_downAt, .ref a_t_isSignal, .ref a_t_memories, .ref a_t_placeOf, .ref a_t_nextPlace, .int (z4 o5.2.1), .ref a_t_kindOf, .ref a_t_newKind, .int (z4 o5.2.2.1), .ref a_t_stateOfKind, .ref a_t_stateAt, .ref a_t_stepTo, .int (z4 o5.2.2.2.1), .ref a_t_far, .ref a_t_ways, .ref a_t_nextWays, .ref a_t_table])), (a_t_now, .inl (E 0, 98, .inl (A4 t_now))), (a_t_metAt, .inl (E 0, 40, .inl (A4 o5.2.2.2.2.1))), (a_t_memoryAt, .inl (E 0, 40, .inl (A4 o5.2.2.2.2.2.1))), (a_t_isSignal, .inl (E 1, 40, .inl (A4 o5.2.2.2.2.2.2.1))), (a_t_upAt, .inl (E 0, 40, .inl (A4 o5.2.2.2.2.2.2.2.1))), (a_t_downAt, .inl (E 0, 40, .inl (A4 o5.2.2.2.2.2.2.2.2.1))), (a_t_placeOf, .inl (E 0, 64, .inl (A4 o5.2.2.2.2.2.2.2.2.2.1))), (a_t_memories, .inl (E 0, 64, .inl (A4 o5.2.2.2.2.2.2.2.2.2.2.1))), (a_t_nextPlace, .inl (E 0, 320, .inl (A4 o5.2.2.2.2.2.2.2.2.2.2.2.1))), (a_t_kindOf, .inl (E 0, 64, .inl (A4 o5.2.2.2.2.2.2.2.2.2.2.2.2.1))), (a_t_newKind, .inl (E 0, 64, .inl (A4 o5.2.2.2.2.2.2.2.2.2.2.2.2.2.1))), (a_t_stateOfKind, .inl (E 0, 64, .inl (A4 o5.2.2.2.2.2.2.2.2.2.2.2.2.2.2.1))), (a_t_stateAt, .inl (E 0, 64, .inl (A4 o5.2.2.2.2.2.2.2.2.2.2.2.2.2.2.2.1))), (a_t_stepTo, .inl (E 0, 320, .inl (A4 o5.2.2.2.2.2.2.2.2.2.2.2.2.2.2.2.2))), (a_t_ways, .inl (E 2, 64, .inr (.inl (A8 t_ways_l32)))), (a_t_nextWays, .inl (E 2, 64, .inr (.inl (A8 t_nextWays))))] → va_S A s.heap H locs → lp_ (fun (q : Int × (Nat → Int)) => F_X12_odds_L32 n o5 q.1 q.2) k_ (v32_6, t_ways_l32) = some o6 → W p l e rm_X12_odds s m args below meth c H locs 0 0 Q (F0 m 32 ls []) := by
        intro k_
        induction k_ with
        | zero =>
          intro v32_6 t_ways_l32 H locs ls hl hP hD hS hq_; exact (lp_zero hq_).elim
        | succ k_ ih6 =>
          intro v32_6 t_ways_l32 H locs ls hl hP hD hS hq_
          obtain ⟨t_6, hb6, hq6⟩ := lp_some hq_
          replace hb6 : F_X12_odds_L32 n o5 v32_6 t_ways_l32 = some t_6 := hb6
          unfold F_X12_odds_L32 at hb6
          refine lv_iload hx hb dX12_odds_32 (lv_at hl 5 rfl) ?_
          refine lv_aload_n hx hb dX12_odds_34 rfl (lv_at hl 0 rfl) ?_
          refine m_get X hK hP cl_X12 iT_X12 30 (by decide) fl_X12_200 0 rfl rfl dX12_odds_35 ?_
          obtain ⟨h7, hb6⟩ := ck_some hb6
          refine m_icmp_ge X h7 dX12_odds_38 (tgt := 55) (by decide) (fun (hc_ : ¬ (v32_6 < o5.2.2.2.1)) => ?_) (fun (hc_ : v32_6 < o5.2.2.2.1) => ?_)
          · rw [if_neg hc_] at hb6
            obtain rfl := Option.some.inj hb6
            exact E6_0 _ (Option.some.inj hq6).symm _ _ _ (lv_sub hl [0, 1, 2, 3, 4] rfl) hP hD hS
          · rw [if_pos hc_] at hb6
            refine lv_aload_n hx hb dX12_odds_41 rfl (lv_at hl 0 rfl) ?_
            refine m_get X hK hP cl_X12 iT_X12 32 (by decide) fl_X12_71 0 rfl rfl dX12_odds_42 ?_
            refine lv_iload hx hb dX12_odds_45 (lv_at hl 5 rfl) ?_
            refine m_lconst X 0 rfl dX12_odds_47 ?_
            obtain ⟨h8, hb6⟩ := ck_some hb6
            refine m_last X hK hP hD hS 15 rfl (by decide) h8 [(a_t, .inr (12, [.ref a_t_now, .ref a_t_read, .ref a_t_past, .int (z4 t_deeds), .ref a_t_images, .ref a_t_isKept, .ref a_t_text, .int (z4 t_letters), .int (z4 t_at), .int (z4 t_tokenAt), .int (z4 t_tokenSort), .int (z4 t_tokenValue), .int (z4 t_items), .int (z4 t_isChanceTold), .int (z4 t_areSumsTold), .ref a_t_metAt, .ref a_t_memoryAt, .ref a_t_upAt, .ref a_t_downAt, .ref a_t_isSignal, .ref a_t_memories, .ref a_t_placeOf, .ref a_t_nextPlace, .int (z4 o5.2.1), .ref a_t_kindOf, .ref a_t_newKind, .int (z4 o5.2.2.1), .ref a_t_stateOfKind, .ref a_t_stateAt, .ref a_t_stepTo, .int (z4 o5.2.2.2.1), .ref a_t_far, .ref a_t_ways, .ref a_t_nextWays, .ref a_t_table])), (a_t_now, .inl (E 0, 98, .inl (A4 t_now))), (a_t_metAt, .inl (E 0, 40, .inl (A4 o5.2.2.2.2.1))), (a_t_memoryAt, .inl (E 0, 40, .inl (A4 o5.2.2.2.2.2.1))), (a_t_isSignal, .inl (E 1, 40, .inl (A4 o5.2.2.2.2.2.2.1))), (a_t_upAt, .inl (E 0, 40, .inl (A4 o5.2.2.2.2.2.2.2.1))), (a_t_downAt, .inl (E 0, 40, .inl (A4 o5.2.2.2.2.2.2.2.2.1))), (a_t_placeOf, .inl (E 0, 64, .inl (A4 o5.2.2.2.2.2.2.2.2.2.1))), (a_t_memories, .inl (E 0, 64, .inl (A4 o5.2.2.2.2.2.2.2.2.2.2.1))), (a_t_nextPlace, .inl (E 0, 320, .inl (A4 o5.2.2.2.2.2.2.2.2.2.2.2.1))), (a_t_kindOf, .inl (E 0, 64, .inl (A4 o5.2.2.2.2.2.2.2.2.2.2.2.2.1))), (a_t_newKind, .inl (E 0, 64, .inl (A4 o5.2.2.2.2.2.2.2.2.2.2.2.2.2.1))), (a_t_stateOfKind, .inl (E 0, 64, .inl (A4 o5.2.2.2.2.2.2.2.2.2.2.2.2.2.2.1))), (a_t_stateAt, .inl (E 0, 64, .inl (A4 o5.2.2.2.2.2.2.2.2.2.2.2.2.2.2.2.1))), (a_t_stepTo, .inl (E 0, 320, .inl (A4 o5.2.2.2.2.2.2.2.2.2.2.2.2.2.2.2.2))), (a_t_ways, .inl (E 2, 64, .inr (.inl (A8 (up_ t_ways_l32 (v32_6).toNat 0))))), (a_t_nextWays, .inl (E 2, 64, .inr (.inl (A8 t_nextWays))))] rfl dX12_odds_48 (fun H locs hP hD hS => ?_)
            refine m_iinc X 5 [(6, .int (z4 (v32_6 + 1))), (0, .ref a_t), (1, .int (z4 x1)), (2, .int (z4 x2)), (3, .int (z4 o5.1)), (4, .long (z8 1))] dX12_odds_49 hl rfl (by decide) rfl (fun ls hl => ?_)
            refine lv_goto (tgt := 32) hx hb dX12_odds_52 (by decide) ?_
            obtain rfl := Option.some.inj hb6
            exact ih6 _ _ _ _ _ (lv_sub hl [1, 2, 3, 4, 5, 0] rfl) hP hD hS hq6
      exact L6 n _ _ _ _ _ (lv_sub hl [3, 4, 5, 2, 1, 0] rfl) hP hD hS hj6
    · rw [if_pos hc_] at hf
      refine m_iconst X dX12_odds_19 ?_
      obtain rfl := Option.some.inj hf
      exact ret _ _ _ _ hP hD hS dX12_odds_20
def F_X12_inverse_L9 (n : Nat) (v9_2 : Int) (v9_4 : Int) (v9_6 : Int) : Option ((Int × Int × Int) ⊕ (Int)) :=
  ck (r4 v9_6) <|
  if 0 < v9_6 then
    ck (d4_ v9_6 2) <|
    Option.bind (α := Int) (
      ck (r4 (v9_6 % 2)) <|
      if v9_6 % 2 = 1 then
        ck (d8_ (v9_4 * v9_2) 1000003) <|
        some ((v9_4 * v9_2) % 1000003)
      else
        some v9_4) fun o4 =>
    ck (d8_ (v9_2 * v9_2) 1000003) <|
    ck (d4_ v9_6 2) <|
    some (.inl ((v9_2 * v9_2) % 1000003, o4, v9_6 / 2))
  else
    some (.inr v9_4)
def F_X12_inverse (n : Nat)   (x0 : Int) : Option (Int) :=
  (lp_ (fun (q : Int × Int × Int) => F_X12_inverse_L9 n q.1 q.2.1 q.2.2) n (x0, 1, 1000001)).bind fun o1 =>
  some o1
def rm_X12_inverse : Room := { frames := 0, cells := 0, slots := 0, locals := 0 }
set_option maxHeartbeats 4000000 in
set_option maxRecDepth 100000 in
theorem k_X12_inverse {l : Launch} {D : va_G} {E : Nat → ClassId} (n : Nat) (x0 : Int) (res : Int) (hf : F_X12_inverse n x0 = some res) : MR l yX12_inverse (.code yX12_inverse cX12_inverse 7 (some .long)) rm_X12_inverse D E [.long (z8 x0)] [] (some (.long (z8 res))) := by
  refine MRl (by decide) (Nat.le_of_ble_eq_true rfl) ?_
  intro p e s m args below meth c Q X hK hP ret ls hl
  have hx := X.1
  have hb := X.2.1
  have hl : lv_has ls 7 [(0, .long (z8 x0))] := hl
  unfold F_X12_inverse at hf
  refine lv_lload_n hx hb dX12_inverse_0 rfl (lv_at hl 0 rfl) ?_
  refine lv_lstore_n (lv' := [(2, .long (z8 x0)), (0, .long (z8 x0))]) hx hb dX12_inverse_1 rfl hl (by decide) rfl (fun ls hl => ?_)
  refine m_lconst X 1 rfl dX12_inverse_2 ?_
  refine lv_lstore (lv' := [(4, .long (z8 1)), (2, .long (z8 x0)), (0, .long (z8 x0))]) hx hb dX12_inverse_3 hl (by decide) rfl (fun ls hl => ?_)
  refine m_ldc X 1000001 co_X12_236 dX12_inverse_5 ?_
  refine lv_istore (lv' := [(6, .int (z4 1000001)), (4, .long (z8 1)), (2, .long (z8 x0)), (0, .long (z8 x0))]) hx hb dX12_inverse_7 hl (by decide) rfl (fun ls hl => ?_)
  obtain ⟨o1, hj1, hr1⟩ := bd_some hf
  have E1_0 : ∀ (o_ : Int), o1 = o_ → ∀ (ls : Array Slot), lv_has ls 7 [(4, .long (z8 o_))] → W p l e rm_X12_inverse s m args below meth c s.heap [] 0 0 Q (F0 m 54 ls []) := by
    intro o_ ho_ ls hl 
    subst ho_
    refine lv_lload hx hb dX12_inverse_54 (lv_at hl 0 rfl) ?_
    obtain rfl := Option.some.inj hr1
    exact ret _ _ dX12_inverse_56
  have L1 : ∀ (k_ : Nat) (v9_2 : Int) (v9_4 : Int) (v9_6 : Int), ∀ (ls : Array Slot), lv_has ls 7 [(2, .long (z8 v9_2)), (4, .long (z8 v9_4)), (6, .int (z4 v9_6))] → lp_ (fun (q : Int × Int × Int) => F_X12_inverse_L9 n q.1 q.2.1 q.2.2) k_ (v9_2, v9_4, v9_6) = some o1 → W p l e rm_X12_inverse s m args below meth c s.heap [] 0 0 Q (F0 m 9 ls []) := by
    intro k_
    induction k_ with
    | zero =>
      intro v9_2 v9_4 v9_6 ls hl  hq_; exact (lp_zero hq_).elim
    | succ k_ ih1 =>
      intro v9_2 v9_4 v9_6 ls hl  hq_
      obtain ⟨t_1, hb1, hq1⟩ := lp_some hq_
      replace hb1 : F_X12_inverse_L9 n v9_2 v9_4 v9_6 = some t_1 := hb1
      unfold F_X12_inverse_L9 at hb1
      refine lv_iload hx hb dX12_inverse_9 (lv_at hl 2 rfl) ?_
      obtain ⟨h2, hb1⟩ := ck_some hb1
      refine m_if_le X h2 dX12_inverse_11 (tgt := 54) (by decide) (fun (hc_ : ¬ (0 < v9_6)) => ?_) (fun (hc_ : 0 < v9_6) => ?_)
      · rw [if_neg hc_] at hb1
        obtain rfl := Option.some.inj hb1
        exact E1_0 _ (Option.some.inj hq1).symm _ (lv_sub hl [1] rfl) 
      · rw [if_pos hc_] at hb1
        refine lv_iload hx hb dX12_inverse_14 (lv_at hl 2 rfl) ?_
        refine m_iconst X dX12_inverse_16 ?_
        obtain ⟨h3, hb1⟩ := ck_some hb1
        refine m_irem X h3 dX12_inverse_17 ?_
        refine m_iconst X dX12_inverse_18 ?_
        obtain ⟨o4, hj4, hr4⟩ := bd_some hb1
        have J4 : ∀ (o_ : Int), o4 = o_ → ∀ (ls : Array Slot), lv_has ls 7 [(2, .long (z8 v9_2)), (6, .int (z4 v9_6))] → W p l e rm_X12_inverse s m args below meth c s.heap [] 0 0 Q (F0 m 35 ls [.long (z8 o_)]) := by
          intro o_ ho_ ls hl 
          subst ho_
          refine lv_lstore (lv' := [(4, .long (z8 o4)), (2, .long (z8 v9_2)), (6, .int (z4 v9_6))]) hx hb dX12_inverse_35 hl (by decide) rfl (fun ls hl => ?_)
          refine lv_lload_n hx hb dX12_inverse_37 rfl (lv_at hl 1 rfl) ?_
          refine lv_lload_n hx hb dX12_inverse_38 rfl (lv_at hl 1 rfl) ?_
          refine m_lmul X dX12_inverse_39 ?_
          refine m_ldc2 X 1000003 co_X12_237 dX12_inverse_40 ?_
          obtain ⟨h7, hr4⟩ := ck_some hr4
          refine m_lrem X h7 dX12_inverse_43 ?_
          refine lv_lstore_n (lv' := [(2, .long (z8 ((v9_2 * v9_2) % 1000003))), (4, .long (z8 o4)), (6, .int (z4 v9_6))]) hx hb dX12_inverse_44 rfl hl (by decide) rfl (fun ls hl => ?_)
          refine lv_iload hx hb dX12_inverse_45 (lv_at hl 2 rfl) ?_
          refine m_iconst X dX12_inverse_47 ?_
          obtain ⟨h8, hr4⟩ := ck_some hr4
          refine m_idiv X h8 dX12_inverse_48 ?_
          refine lv_istore (lv' := [(6, .int (z4 (v9_6 / 2))), (2, .long (z8 ((v9_2 * v9_2) % 1000003))), (4, .long (z8 o4))]) hx hb dX12_inverse_49 hl (by decide) rfl (fun ls hl => ?_)
          refine lv_goto (tgt := 9) hx hb dX12_inverse_51 (by decide) ?_
          obtain rfl := Option.some.inj hr4
          exact ih1 _ _ _ _ (lv_sub hl [1, 2, 0] rfl)  hq1
        obtain ⟨h5, hj4⟩ := ck_some hj4
        refine m_icmp_ne X ⟨h5, ⟨by decide, by decide⟩⟩ dX12_inverse_19 (tgt := 33) (by decide) (fun (hc_ : ¬ (v9_6 % 2 = 1)) => ?_) (fun (hc_ : v9_6 % 2 = 1) => ?_)
        · rw [if_neg hc_] at hj4
          refine lv_lload hx hb dX12_inverse_33 (lv_at hl 1 rfl) ?_
          exact J4 _ (Option.some.inj hj4).symm _ (lv_sub hl [0, 2] rfl) 
        · rw [if_pos hc_] at hj4
          refine lv_lload hx hb dX12_inverse_22 (lv_at hl 1 rfl) ?_
          refine lv_lload_n hx hb dX12_inverse_24 rfl (lv_at hl 0 rfl) ?_
          refine m_lmul X dX12_inverse_25 ?_
          refine m_ldc2 X 1000003 co_X12_237 dX12_inverse_26 ?_
          obtain ⟨h6, hj4⟩ := ck_some hj4
          refine m_lrem X h6 dX12_inverse_29 ?_
          refine lv_goto (tgt := 35) hx hb dX12_inverse_30 (by decide) ?_
          exact J4 _ (Option.some.inj hj4).symm _ (lv_sub hl [0, 2] rfl) 
  exact L1 n _ _ _ _ (lv_sub hl [2, 1, 0] rfl)  hj1
def F_X12_layTable_L12 (n : Nat) (v2_1 : Int) (v12_2 : Int) (t_table_l12 : Nat → Int) : Option ((Int × (Nat → Int)) ⊕ ((Nat → Int))) :=
  ck (r4 v12_2) <|
  if v12_2 < 65 then
    Option.bind (α := Int) (
      ck (r4 v12_2) <|
      if v12_2 = 64 then
        some 10
      else
        ck (r4 v12_2 ∧ r4 v2_1) <|
        if v12_2 = v2_1 then
          some 10
        else
          some 0) fun o5 =>
    ck (ix_ ((65 * v2_1) + v12_2) 4160) <|
    some (.inl (v12_2 + 1, up_ t_table_l12 ((65 * v2_1) + v12_2).toNat o5))
  else
    some (.inr t_table_l12)
def F_X12_layTable_L61 (n : Nat) (v2_1 : Int) (t_stepTo : Nat → Int) (t_now : Nat → Int) (v61_2 : Int) (t_table_l61 : Nat → Int) : Option ((Int × (Nat → Int)) ⊕ ((Nat → Int))) :=
  ck (r4 v61_2) <|
  if v61_2 < 5 then
    ck (ix_ ((5 * v2_1) + v61_2) 320) <|
    Option.bind (α := (Nat → Int)) (
      ck (r4 (t_stepTo ((5 * v2_1) + v61_2).toNat)) <|
      if t_stepTo ((5 * v2_1) + v61_2).toNat = (-5) then
        some t_table_l61
      else
        ck (ix_ ((65 * v2_1) + (t_stepTo ((5 * v2_1) + v61_2).toNat)) 4160) <|
        ck (ix_ (10 + v61_2) 98) <|
        ck (r4 (t_now (10 + v61_2).toNat)) <|
        ck (d8_ (((t_table_l61 ((65 * v2_1) + (t_stepTo ((5 * v2_1) + v61_2).toNat)).toNat) + 1000003) - (t_now (10 + v61_2).toNat)) 1000003) <|
        ck (ix_ ((65 * v2_1) + (t_stepTo ((5 * v2_1) + v61_2).toNat)) 4160) <|
        some (up_ t_table_l61 ((65 * v2_1) + (t_stepTo ((5 * v2_1) + v61_2).toNat)).toNat ((((t_table_l61 ((65 * v2_1) + (t_stepTo ((5 * v2_1) + v61_2).toNat)).toNat) + 1000003) - (t_now (10 + v61_2).toNat)) % 1000003))) fun o12 =>
    some (.inl (v61_2 + 1, o12))
  else
    some (.inr t_table_l61)
def F_X12_layTable_L2 (n : Nat) (t_states : Int) (t_stepTo : Nat → Int) (t_now : Nat → Int) (v2_1 : Int) (t_table_l2 : Nat → Int) : Option ((Int × (Nat → Int)) ⊕ ((Nat → Int))) :=
  ck (r4 v2_1 ∧ r4 t_states) <|
  if v2_1 < t_states then
    (lp_ (fun (q : Int × (Nat → Int)) => F_X12_layTable_L12 n v2_1 q.1 q.2) n (0, t_table_l2)).bind fun o3 =>
    (lp_ (fun (q : Int × (Nat → Int)) => F_X12_layTable_L61 n v2_1 t_stepTo t_now q.1 q.2) n (0, o3)).bind fun o9 =>
    some (.inl (v2_1 + 1, o9))
  else
    some (.inr t_table_l2)
def F_X12_layTable (n : Nat)  (t_states : Int) (t_table : Nat → Int) (t_stepTo : Nat → Int) (t_now : Nat → Int)  : Option ((Nat → Int)) :=
  (lp_ (fun (q : Int × (Nat → Int)) => F_X12_layTable_L2 n t_states t_stepTo t_now q.1 q.2) n (0, t_table)).bind fun o1 =>
  some o1
def rm_X12_layTable : Room := { frames := 0, cells := 0, slots := 0, locals := 0 }
set_option maxHeartbeats 4000000 in
set_option maxRecDepth 100000 in
theorem k_X12_layTable {l : Launch} {D : va_G} {E : Nat → ClassId} (n : Nat) (a_t a_t_now a_t_read a_t_past a_t_images a_t_isKept a_t_text a_t_metAt a_t_memoryAt a_t_upAt a_t_downAt a_t_isSignal a_t_memories a_t_placeOf a_t_nextPlace a_t_kindOf a_t_newKind a_t_stateOfKind a_t_stateAt a_t_stepTo a_t_far a_t_ways a_t_nextWays a_t_table : Nat) (t_deeds : Int) (t_letters : Int) (t_at : Int) (t_tokenAt : Int) (t_tokenSort : Int) (t_tokenValue : Int) (t_items : Int) (t_isChanceTold : Int) (t_areSumsTold : Int) (t_places : Int) (t_kinds : Int) (t_states : Int) (t_table : Nat → Int) (t_stepTo : Nat → Int) (t_now : Nat → Int) (res : (Nat → Int)) (hf : F_X12_layTable n t_states t_table t_stepTo t_now = some res) : MW l yX12_layTable (.code yX12_layTable cX12_layTable 4 none) rm_X12_layTable D E [.ref a_t] [(a_t, .inr (12, [.ref a_t_now, .ref a_t_read, .ref a_t_past, .int (z4 t_deeds), .ref a_t_images, .ref a_t_isKept, .ref a_t_text, .int (z4 t_letters), .int (z4 t_at), .int (z4 t_tokenAt), .int (z4 t_tokenSort), .int (z4 t_tokenValue), .int (z4 t_items), .int (z4 t_isChanceTold), .int (z4 t_areSumsTold), .ref a_t_metAt, .ref a_t_memoryAt, .ref a_t_upAt, .ref a_t_downAt, .ref a_t_isSignal, .ref a_t_memories, .ref a_t_placeOf, .ref a_t_nextPlace, .int (z4 t_places), .ref a_t_kindOf, .ref a_t_newKind, .int (z4 t_kinds), .ref a_t_stateOfKind, .ref a_t_stateAt, .ref a_t_stepTo, .int (z4 t_states), .ref a_t_far, .ref a_t_ways, .ref a_t_nextWays, .ref a_t_table])), (a_t_table, .inl (E 2, 4160, .inr (.inl (A8 t_table)))), (a_t_stepTo, .inl (E 0, 320, .inl (A4 t_stepTo))), (a_t_now, .inl (E 0, 98, .inl (A4 t_now)))] none [(a_t, .inr (12, [.ref a_t_now, .ref a_t_read, .ref a_t_past, .int (z4 t_deeds), .ref a_t_images, .ref a_t_isKept, .ref a_t_text, .int (z4 t_letters), .int (z4 t_at), .int (z4 t_tokenAt), .int (z4 t_tokenSort), .int (z4 t_tokenValue), .int (z4 t_items), .int (z4 t_isChanceTold), .int (z4 t_areSumsTold), .ref a_t_metAt, .ref a_t_memoryAt, .ref a_t_upAt, .ref a_t_downAt, .ref a_t_isSignal, .ref a_t_memories, .ref a_t_placeOf, .ref a_t_nextPlace, .int (z4 t_places), .ref a_t_kindOf, .ref a_t_newKind, .int (z4 t_kinds), .ref a_t_stateOfKind, .ref a_t_stateAt, .ref a_t_stepTo, .int (z4 t_states), .ref a_t_far, .ref a_t_ways, .ref a_t_nextWays, .ref a_t_table])), (a_t_table, .inl (E 2, 4160, .inr (.inl (A8 res)))), (a_t_stepTo, .inl (E 0, 320, .inl (A4 t_stepTo))), (a_t_now, .inl (E 0, 98, .inl (A4 t_now)))] := by
  refine MWv (by decide) (Nat.le_of_ble_eq_true rfl) ?_
  intro p e s m args below meth c A Q X hK hP hD hA ret ls hl
  have hS : va_S A s.heap s.heap [] := va_S.rf
  have hx := X.1
  have hb := X.2.1
  have hl : lv_has ls 4 [(0, .ref a_t)] := hl
  unfold F_X12_layTable at hf
  refine m_iconst X dX12_layTable_0 ?_
  refine lv_istore_n (lv' := [(1, .int (z4 0)), (0, .ref a_t)]) hx hb dX12_layTable_1 rfl hl (by decide) rfl (fun ls hl => ?_)
  obtain ⟨o1, hj1, hr1⟩ := bd_some hf
  have E1_0 : ∀ (o_ : (Nat → Int)), o1 = o_ → ∀ (H : Heap) (locs : List Loc) (ls : Array Slot), lv_has ls 4 [] → va_P D vwCl [(a_t, .inr (12, [.ref a_t_now, .ref a_t_read, .ref a_t_past, .int (z4 t_deeds), .ref a_t_images, .ref a_t_isKept, .ref a_t_text, .int (z4 t_letters), .int (z4 t_at), .int (z4 t_tokenAt), .int (z4 t_tokenSort), .int (z4 t_tokenValue), .int (z4 t_items), .int (z4 t_isChanceTold), .int (z4 t_areSumsTold), .ref a_t_metAt, .ref a_t_memoryAt, .ref a_t_upAt, .ref a_t_downAt, .ref a_t_isSignal, .ref a_t_memories, .ref a_t_placeOf, .ref a_t_nextPlace, .int (z4 t_places), .ref a_t_kindOf, .ref a_t_newKind, .int (z4 t_kinds), .ref a_t_stateOfKind, .ref a_t_stateAt, .ref a_t_stepTo, .int (z4 t_states), .ref a_t_far, .ref a_t_ways, .ref a_t_nextWays, .ref a_t_table])), (a_t_table, .inl (E 2, 4160, .inr (.inl (A8 o_)))), (a_t_stepTo, .inl (E 0, 320, .inl (A4 t_stepTo))), (a_t_now, .inl (E 0, 98, .inl (A4 t_now)))] H → va_D A [(a_t, .inr (12, [.ref a_t_now, .ref a_t_read, .ref a_t_past, .int (z4 t_deeds), .ref a_t_images, .ref a_t_isKept, .ref a_t_text, .int (z4 t_letters), .int (z4 t_at), .int (z4 t_tokenAt), .int (z4 t_tokenSort), .int (z4 t_tokenValue), .int (z4 t_items), .int (z4 t_isChanceTold), .int (z4 t_areSumsTold), .ref a_t_metAt, .ref a_t_memoryAt, .ref a_t_upAt, .ref a_t_downAt, .ref a_t_isSignal, .ref a_t_memories, .ref a_t_placeOf, .ref a_t_nextPlace, .int (z4 t_places), .ref a_t_kindOf, .ref a_t_newKind, .int (z4 t_kinds), .ref a_t_stateOfKind, .ref a_t_stateAt, .ref a_t_stepTo, .int (z4 t_states), .ref a_t_far, .ref a_t_ways, .ref a_t_nextWays, .ref a_t_table])), (a_t_table, .inl (E 2, 4160, .inr (.inl (A8 o_)))), (a_t_stepTo, .inl (E 0, 320, .inl (A4 t_stepTo))), (a_t_now, .inl (E 0, 98, .inl (A4 t_now)))] → va_S A s.heap H locs → W p l e rm_X12_layTable s m args below meth c H locs 0 0 Q (F0 m 136 ls []) := by
    intro o_ ho_ H locs ls hl hP hD hS
    subst ho_
    obtain rfl := Option.some.inj hr1
    exact ret _ _ _ _ hP hD hS dX12_layTable_136
  have L1 : ∀ (k_ : Nat) (v2_1 : Int) (t_table_l2 : Nat → Int), ∀ (H : Heap) (locs : List Loc) (ls : Array Slot), lv_has ls 4 [(0, .ref a_t), (1, .int (z4 v2_1))] → va_P D vwCl [(a_t, .inr (12, [.ref a_t_now, .ref a_t_read, .ref a_t_past, .int (z4 t_deeds), .ref a_t_images, .ref a_t_isKept, .ref a_t_text, .int (z4 t_letters), .int (z4 t_at), .int (z4 t_tokenAt), .int (z4 t_tokenSort), .int (z4 t_tokenValue), .int (z4 t_items), .int (z4 t_isChanceTold), .int (z4 t_areSumsTold), .ref a_t_metAt, .ref a_t_memoryAt, .ref a_t_upAt, .ref a_t_downAt, .ref a_t_isSignal, .ref a_t_memories, .ref a_t_placeOf, .ref a_t_nextPlace, .int (z4 t_places), .ref a_t_kindOf, .ref a_t_newKind, .int (z4 t_kinds), .ref a_t_stateOfKind, .ref a_t_stateAt, .ref a_t_stepTo, .int (z4 t_states), .ref a_t_far, .ref a_t_ways, .ref a_t_nextWays, .ref a_t_table])), (a_t_table, .inl (E 2, 4160, .inr (.inl (A8 t_table_l2)))), (a_t_stepTo, .inl (E 0, 320, .inl (A4 t_stepTo))), (a_t_now, .inl (E 0, 98, .inl (A4 t_now)))] H → va_D A [(a_t, .inr (12, [.ref a_t_now, .ref a_t_read, .ref a_t_past, .int (z4 t_deeds), .ref a_t_images, .ref a_t_isKept, .ref a_t_text, .int (z4 t_letters), .int (z4 t_at), .int (z4 t_tokenAt), .int (z4 t_tokenSort), .int (z4 t_tokenValue), .int (z4 t_items), .int (z4 t_isChanceTold), .int (z4 t_areSumsTold), .ref a_t_metAt, .ref a_t_memoryAt, .ref a_t_upAt, .ref a_t_downAt, .ref a_t_isSignal, .ref a_t_memories, .ref a_t_placeOf, .ref a_t_nextPlace, .int (z4 t_places), .ref a_t_kindOf, .ref a_t_newKind, .int (z4 t_kinds), .ref a_t_stateOfKind, .ref a_t_stateAt, .ref a_t_stepTo, .int (z4 t_states), .ref a_t_far, .ref a_t_ways, .ref a_t_nextWays, .ref a_t_table])), (a_t_table, .inl (E 2, 4160, .inr (.inl (A8 t_table_l2)))), (a_t_stepTo, .inl (E 0, 320, .inl (A4 t_stepTo))), (a_t_now, .inl (E 0, 98, .inl (A4 t_now)))] → va_S A s.heap H locs → lp_ (fun (q : Int × (Nat → Int)) => F_X12_layTable_L2 n t_states t_stepTo t_now q.1 q.2) k_ (v2_1, t_table_l2) = some o1 → W p l e rm_X12_layTable s m args below meth c H locs 0 0 Q (F0 m 2 ls []) := by
    intro k_
    induction k_ with
    | zero =>
      intro v2_1 t_table_l2 H locs ls hl hP hD hS hq_; exact (lp_zero hq_).elim
    | succ k_ ih1 =>
      intro v2_1 t_table_l2 H locs ls hl hP hD hS hq_
      obtain ⟨t_1, hb1, hq1⟩ := lp_some hq_
      replace hb1 : F_X12_layTable_L2 n t_states t_stepTo t_now v2_1 t_table_l2 = some t_1 := hb1
      unfold F_X12_layTable_L2 at hb1
      refine lv_iload_n hx hb dX12_layTable_2 rfl (lv_at hl 1 rfl) ?_
      refine lv_aload_n hx hb dX12_layTable_3 rfl (lv_at hl 0 rfl) ?_
      refine m_get X hK hP cl_X12 iT_X12 30 (by decide) fl_X12_200 0 rfl rfl dX12_layTable_4 ?_
      obtain ⟨h2, hb1⟩ := ck_some hb1
      refine m_icmp_ge X h2 dX12_layTable_7 (tgt := 136) (by decide) (fun (hc_ : ¬ (v2_1 < t_states)) => ?_) (fun (hc_ : v2_1 < t_states) => ?_)
      · rw [if_neg hc_] at hb1
        obtain rfl := Option.some.inj hb1
        exact E1_0 _ (Option.some.inj hq1).symm _ _ _ (lv_sub hl [] rfl) hP hD hS
      · rw [if_pos hc_] at hb1
        refine m_iconst X dX12_layTable_10 ?_
        refine lv_istore_n (lv' := [(2, .int (z4 0)), (0, .ref a_t), (1, .int (z4 v2_1))]) hx hb dX12_layTable_11 rfl hl (by decide) rfl (fun ls hl => ?_)
        obtain ⟨o3, hj3, hr3⟩ := bd_some hb1
        have E3_0 : ∀ (o_ : (Nat → Int)), o3 = o_ → ∀ (H : Heap) (locs : List Loc) (ls : Array Slot), lv_has ls 4 [(0, .ref a_t), (1, .int (z4 v2_1))] → va_P D vwCl [(a_t, .inr (12, [.ref a_t_now, .ref a_t_read, .ref a_t_past, .int (z4 t_deeds), .ref a_t_images, .ref a_t_isKept, .ref a_t_text, .int (z4 t_letters), .int (z4 t_at), .int (z4 t_tokenAt), .int (z4 t_tokenSort), .int (z4 t_tokenValue), .int (z4 t_items), .int (z4 t_isChanceTold), .int (z4 t_areSumsTold), .ref a_t_metAt, .ref a_t_memoryAt, .ref a_t_upAt, .ref a_t_downAt, .ref a_t_isSignal, .ref a_t_memories, .ref a_t_placeOf, .ref a_t_nextPlace, .int (z4 t_places), .ref a_t_kindOf, .ref a_t_newKind, .int (z4 t_kinds), .ref a_t_stateOfKind, .ref a_t_stateAt, .ref a_t_stepTo, .int (z4 t_states), .ref a_t_far, .ref a_t_ways, .ref a_t_nextWays, .ref a_t_table])), (a_t_table, .inl (E 2, 4160, .inr (.inl (A8 o_)))), (a_t_stepTo, .inl (E 0, 320, .inl (A4 t_stepTo))), (a_t_now, .inl (E 0, 98, .inl (A4 t_now)))] H → va_D A [(a_t, .inr (12, [.ref a_t_now, .ref a_t_read, .ref a_t_past, .int (z4 t_deeds), .ref a_t_images, .ref a_t_isKept, .ref a_t_text, .int (z4 t_letters), .int (z4 t_at), .int (z4 t_tokenAt), .int (z4 t_tokenSort), .int (z4 t_tokenValue), .int (z4 t_items), .int (z4 t_isChanceTold), .int (z4 t_areSumsTold), .ref a_t_metAt, .ref a_t_memoryAt, .ref a_t_upAt, .ref a_t_downAt, .ref a_t_isSignal, .ref a_t_memories, .ref a_t_placeOf, .ref a_t_nextPlace, .int (z4 t_places), .ref a_t_kindOf, .ref a_t_newKind, .int (z4 t_kinds), .ref a_t_stateOfKind, .ref a_t_stateAt, .ref a_t_stepTo, .int (z4 t_states), .ref a_t_far, .ref a_t_ways, .ref a_t_nextWays, .ref a_t_table])), (a_t_table, .inl (E 2, 4160, .inr (.inl (A8 o_)))), (a_t_stepTo, .inl (E 0, 320, .inl (A4 t_stepTo))), (a_t_now, .inl (E 0, 98, .inl (A4 t_now)))] → va_S A s.heap H locs → W p l e rm_X12_layTable s m args below meth c H locs 0 0 Q (F0 m 59 ls []) := by
          intro o_ ho_ H locs ls hl hP hD hS
          subst ho_
          refine m_iconst X dX12_layTable_59 ?_
          refine lv_istore_n (lv' := [(2, .int (z4 0)), (0, .ref a_t), (1, .int (z4 v2_1))]) hx hb dX12_layTable_60 rfl hl (by decide) rfl (fun ls hl => ?_)
          obtain ⟨o9, hj9, hr9⟩ := bd_some hr3
          have E9_0 : ∀ (o_ : (Nat → Int)), o9 = o_ → ∀ (H : Heap) (locs : List Loc) (ls : Array Slot), lv_has ls 4 [(0, .ref a_t), (1, .int (z4 v2_1))] → va_P D vwCl [(a_t, .inr (12, [.ref a_t_now, .ref a_t_read, .ref a_t_past, .int (z4 t_deeds), .ref a_t_images, .ref a_t_isKept, .ref a_t_text, .int (z4 t_letters), .int (z4 t_at), .int (z4 t_tokenAt), .int (z4 t_tokenSort), .int (z4 t_tokenValue), .int (z4 t_items), .int (z4 t_isChanceTold), .int (z4 t_areSumsTold), .ref a_t_metAt, .ref a_t_memoryAt, .ref a_t_upAt, .ref a_t_downAt, .ref a_t_isSignal, .ref a_t_memories, .ref a_t_placeOf, .ref a_t_nextPlace, .int (z4 t_places), .ref a_t_kindOf, .ref a_t_newKind, .int (z4 t_kinds), .ref a_t_stateOfKind, .ref a_t_stateAt, .ref a_t_stepTo, .int (z4 t_states), .ref a_t_far, .ref a_t_ways, .ref a_t_nextWays, .ref a_t_table])), (a_t_table, .inl (E 2, 4160, .inr (.inl (A8 o_)))), (a_t_stepTo, .inl (E 0, 320, .inl (A4 t_stepTo))), (a_t_now, .inl (E 0, 98, .inl (A4 t_now)))] H → va_D A [(a_t, .inr (12, [.ref a_t_now, .ref a_t_read, .ref a_t_past, .int (z4 t_deeds), .ref a_t_images, .ref a_t_isKept, .ref a_t_text, .int (z4 t_letters), .int (z4 t_at), .int (z4 t_tokenAt), .int (z4 t_tokenSort), .int (z4 t_tokenValue), .int (z4 t_items), .int (z4 t_isChanceTold), .int (z4 t_areSumsTold), .ref a_t_metAt, .ref a_t_memoryAt, .ref a_t_upAt, .ref a_t_downAt, .ref a_t_isSignal, .ref a_t_memories, .ref a_t_placeOf, .ref a_t_nextPlace, .int (z4 t_places), .ref a_t_kindOf, .ref a_t_newKind, .int (z4 t_kinds), .ref a_t_stateOfKind, .ref a_t_stateAt, .ref a_t_stepTo, .int (z4 t_states), .ref a_t_far, .ref a_t_ways, .ref a_t_nextWays, .ref a_t_table])), (a_t_table, .inl (E 2, 4160, .inr (.inl (A8 o_)))), (a_t_stepTo, .inl (E 0, 320, .inl (A4 t_stepTo))), (a_t_now, .inl (E 0, 98, .inl (A4 t_now)))] → va_S A s.heap H locs → W p l e rm_X12_layTable s m args below meth c H locs 0 0 Q (F0 m 130 ls []) := by
            intro o_ ho_ H locs ls hl hP hD hS
            subst ho_
            refine m_iinc X 1 [(1, .int (z4 (v2_1 + 1))), (0, .ref a_t)] dX12_layTable_130 hl rfl (by decide) rfl (fun ls hl => ?_)
            refine lv_goto (tgt := 2) hx hb dX12_layTable_133 (by decide) ?_
            obtain rfl := Option.some.inj hr9
            exact ih1 _ _ _ _ _ (lv_sub hl [1, 0] rfl) hP hD hS hq1
          have L9 : ∀ (k_ : Nat) (v61_2 : Int) (t_table_l61 : Nat → Int), ∀ (H : Heap) (locs : List Loc) (ls : Array Slot), lv_has ls 4 [(0, .ref a_t), (1, .int (z4 v2_1)), (2, .int (z4 v61_2))] → va_P D vwCl [(a_t, .inr (12, [.ref a_t_now, .ref a_t_read, .ref a_t_past, .int (z4 t_deeds), .ref a_t_images, .ref a_t_isKept, .ref a_t_text, .int (z4 t_letters), .int (z4 t_at), .int (z4 t_tokenAt), .int (z4 t_tokenSort), .int (z4 t_tokenValue), .int (z4 t_items), .int (z4 t_isChanceTold), .int (z4 t_areSumsTold), .ref a_t_metAt, .ref a_t_memoryAt, .ref a_t_upAt, .ref a_t_downAt, .ref a_t_isSignal, .ref a_t_memories, .ref a_t_placeOf, .ref a_t_nextPlace, .int (z4 t_places), .ref a_t_kindOf, .ref a_t_newKind, .int (z4 t_kinds), .ref a_t_stateOfKind, .ref a_t_stateAt, .ref a_t_stepTo, .int (z4 t_states), .ref a_t_far, .ref a_t_ways, .ref a_t_nextWays, .ref a_t_table])), (a_t_table, .inl (E 2, 4160, .inr (.inl (A8 t_table_l61)))), (a_t_stepTo, .inl (E 0, 320, .inl (A4 t_stepTo))), (a_t_now, .inl (E 0, 98, .inl (A4 t_now)))] H → va_D A [(a_t, .inr (12, [.ref a_t_now, .ref a_t_read, .ref a_t_past, .int (z4 t_deeds), .ref a_t_images, .ref a_t_isKept, .ref a_t_text, .int (z4 t_letters), .int (z4 t_at), .int (z4 t_tokenAt), .int (z4 t_tokenSort), .int (z4 t_tokenValue), .int (z4 t_items), .int (z4 t_isChanceTold), .int (z4 t_areSumsTold), .ref a_t_metAt, .ref a_t_memoryAt, .ref a_t_upAt, .ref a_t_downAt, .ref a_t_isSignal, .ref a_t_memories, .ref a_t_placeOf, .ref a_t_nextPlace, .int (z4 t_places), .ref a_t_kindOf, .ref a_t_newKind, .int (z4 t_kinds), .ref a_t_stateOfKind, .ref a_t_stateAt, .ref a_t_stepTo, .int (z4 t_states), .ref a_t_far, .ref a_t_ways, .ref a_t_nextWays, .ref a_t_table])), (a_t_table, .inl (E 2, 4160, .inr (.inl (A8 t_table_l61)))), (a_t_stepTo, .inl (E 0, 320, .inl (A4 t_stepTo))), (a_t_now, .inl (E 0, 98, .inl (A4 t_now)))] → va_S A s.heap H locs → lp_ (fun (q : Int × (Nat → Int)) => F_X12_layTable_L61 n v2_1 t_stepTo t_now q.1 q.2) k_ (v61_2, t_table_l61) = some o9 → W p l e rm_X12_layTable s m args below meth c H locs 0 0 Q (F0 m 61 ls []) := by
            intro k_
            induction k_ with
            | zero =>
              intro v61_2 t_table_l61 H locs ls hl hP hD hS hq_; exact (lp_zero hq_).elim
            | succ k_ ih9 =>
              intro v61_2 t_table_l61 H locs ls hl hP hD hS hq_
              obtain ⟨t_9, hb9, hq9⟩ := lp_some hq_
              replace hb9 : F_X12_layTable_L61 n v2_1 t_stepTo t_now v61_2 t_table_l61 = some t_9 := hb9
              unfold F_X12_layTable_L61 at hb9
              refine lv_iload_n hx hb dX12_layTable_61 rfl (lv_at hl 2 rfl) ?_
              refine m_iconst X dX12_layTable_62 ?_
              obtain ⟨h10, hb9⟩ := ck_some hb9
              refine m_icmp_ge X ⟨h10, ⟨by decide, by decide⟩⟩ dX12_layTable_63 (tgt := 130) (by decide) (fun (hc_ : ¬ (v61_2 < 5)) => ?_) (fun (hc_ : v61_2 < 5) => ?_)
              · rw [if_neg hc_] at hb9
                obtain rfl := Option.some.inj hb9
                exact E9_0 _ (Option.some.inj hq9).symm _ _ _ (lv_sub hl [0, 1] rfl) hP hD hS
              · rw [if_pos hc_] at hb9
                refine lv_aload_n hx hb dX12_layTable_66 rfl (lv_at hl 0 rfl) ?_
                refine m_get X hK hP cl_X12 iT_X12 29 (by decide) fl_X12_65 0 rfl rfl dX12_layTable_67 ?_
                refine m_iconst X dX12_layTable_70 ?_
                refine lv_iload_n hx hb dX12_layTable_71 rfl (lv_at hl 1 rfl) ?_
                refine m_imul X dX12_layTable_72 ?_
                refine lv_iload_n hx hb dX12_layTable_73 rfl (lv_at hl 2 rfl) ?_
                refine m_iadd X dX12_layTable_74 ?_
                obtain ⟨h11, hb9⟩ := ck_some hb9
                refine m_iald X hK hP 2 rfl (by decide) h11 dX12_layTable_75 ?_
                refine lv_istore_n (lv' := [(3, .int (z4 (t_stepTo ((5 * v2_1) + v61_2).toNat))), (0, .ref a_t), (1, .int (z4 v2_1)), (2, .int (z4 v61_2))]) hx hb dX12_layTable_76 rfl hl (by decide) rfl (fun ls hl => ?_)
                refine lv_iload_n hx hb dX12_layTable_77 rfl (lv_at hl 0 rfl) ?_
                refine m_bipush X dX12_layTable_78 (by decide) ?_
                obtain ⟨o12, hj12, hr12⟩ := bd_some hb9
                have J12 : ∀ (o_ : (Nat → Int)), o12 = o_ → ∀ (H : Heap) (locs : List Loc) (ls : Array Slot), lv_has ls 4 [(0, .ref a_t), (1, .int (z4 v2_1)), (2, .int (z4 v61_2))] → va_P D vwCl [(a_t, .inr (12, [.ref a_t_now, .ref a_t_read, .ref a_t_past, .int (z4 t_deeds), .ref a_t_images, .ref a_t_isKept, .ref a_t_text, .int (z4 t_letters), .int (z4 t_at), .int (z4 t_tokenAt), .int (z4 t_tokenSort), .int (z4 t_tokenValue), .int (z4 t_items), .int (z4 t_isChanceTold), .int (z4 t_areSumsTold), .ref a_t_metAt, .ref a_t_memoryAt, .ref a_t_upAt, .ref a_t_downAt, .ref a_t_isSignal, .ref a_t_memories, .ref a_t_placeOf, .ref a_t_nextPlace, .int (z4 t_places), .ref a_t_kindOf, .ref a_t_newKind, .int (z4 t_kinds), .ref a_t_stateOfKind, .ref a_t_stateAt, .ref a_t_stepTo, .int (z4 t_states), .ref a_t_far, .ref a_t_ways, .ref a_t_nextWays, .ref a_t_table])), (a_t_table, .inl (E 2, 4160, .inr (.inl (A8 o_)))), (a_t_stepTo, .inl (E 0, 320, .inl (A4 t_stepTo))), (a_t_now, .inl (E 0, 98, .inl (A4 t_now)))] H → va_D A [(a_t, .inr (12, [.ref a_t_now, .ref a_t_read, .ref a_t_past, .int (z4 t_deeds), .ref a_t_images, .ref a_t_isKept, .ref a_t_text, .int (z4 t_letters), .int (z4 t_at), .int (z4 t_tokenAt), .int (z4 t_tokenSort), .int (z4 t_tokenValue), .int (z4 t_items), .int (z4 t_isChanceTold), .int (z4 t_areSumsTold), .ref a_t_metAt, .ref a_t_memoryAt, .ref a_t_upAt, .ref a_t_downAt, .ref a_t_isSignal, .ref a_t_memories, .ref a_t_placeOf, .ref a_t_nextPlace, .int (z4 t_places), .ref a_t_kindOf, .ref a_t_newKind, .int (z4 t_kinds), .ref a_t_stateOfKind, .ref a_t_stateAt, .ref a_t_stepTo, .int (z4 t_states), .ref a_t_far, .ref a_t_ways, .ref a_t_nextWays, .ref a_t_table])), (a_t_table, .inl (E 2, 4160, .inr (.inl (A8 o_)))), (a_t_stepTo, .inl (E 0, 320, .inl (A4 t_stepTo))), (a_t_now, .inl (E 0, 98, .inl (A4 t_now)))] → va_S A s.heap H locs → W p l e rm_X12_layTable s m args below meth c H locs 0 0 Q (F0 m 124 ls []) := by
                  intro o_ ho_ H locs ls hl hP hD hS
                  subst ho_
                  refine m_iinc X 2 [(2, .int (z4 (v61_2 + 1))), (0, .ref a_t), (1, .int (z4 v2_1))] dX12_layTable_124 hl rfl (by decide) rfl (fun ls hl => ?_)
                  refine lv_goto (tgt := 61) hx hb dX12_layTable_127 (by decide) ?_
                  obtain rfl := Option.some.inj hr12
                  exact ih9 _ _ _ _ _ (lv_sub hl [1, 2, 0] rfl) hP hD hS hq9
                obtain ⟨h13, hj12⟩ := ck_some hj12
                refine m_icmp_eq X ⟨h13, ⟨by decide, by decide⟩⟩ dX12_layTable_80 (tgt := 124) (by decide) (fun (hc_ : t_stepTo ((5 * v2_1) + v61_2).toNat = (-5)) => ?_) (fun (hc_ : ¬ (t_stepTo ((5 * v2_1) + v61_2).toNat = (-5))) => ?_)
                · rw [if_pos hc_] at hj12
                  exact J12 _ (Option.some.inj hj12).symm _ _ _ (lv_sub hl [1, 2, 3] rfl) hP hD hS
                · rw [if_neg hc_] at hj12
                  refine lv_aload_n hx hb dX12_layTable_83 rfl (lv_at hl 1 rfl) ?_
                  refine m_get X hK hP cl_X12 iT_X12 34 (by decide) fl_X12_78 0 rfl rfl dX12_layTable_84 ?_
                  refine m_bipush X dX12_layTable_87 (by decide) ?_
                  refine lv_iload_n hx hb dX12_layTable_89 rfl (lv_at hl 2 rfl) ?_
                  refine m_imul X dX12_layTable_90 ?_
                  refine lv_iload_n hx hb dX12_layTable_91 rfl (lv_at hl 0 rfl) ?_
                  refine m_iadd X dX12_layTable_92 ?_
                  refine lv_aload_n hx hb dX12_layTable_93 rfl (lv_at hl 1 rfl) ?_
                  refine m_get X hK hP cl_X12 iT_X12 34 (by decide) fl_X12_78 0 rfl rfl dX12_layTable_94 ?_
                  refine m_bipush X dX12_layTable_97 (by decide) ?_
                  refine lv_iload_n hx hb dX12_layTable_99 rfl (lv_at hl 2 rfl) ?_
                  refine m_imul X dX12_layTable_100 ?_
                  refine lv_iload_n hx hb dX12_layTable_101 rfl (lv_at hl 0 rfl) ?_
                  refine m_iadd X dX12_layTable_102 ?_
                  obtain ⟨h14, hj12⟩ := ck_some hj12
                  refine m_lald X hK hP 1 rfl (by decide) h14 dX12_layTable_103 ?_
                  refine m_ldc2 X 1000003 co_X12_237 dX12_layTable_104 ?_
                  refine m_ladd X dX12_layTable_107 ?_
                  refine lv_aload_n hx hb dX12_layTable_108 rfl (lv_at hl 1 rfl) ?_
                  refine m_get X hK hP cl_X12 iT_X12 0 (by decide) fl_X12_7 0 rfl rfl dX12_layTable_109 ?_
                  refine m_bipush X dX12_layTable_112 (by decide) ?_
                  refine lv_iload_n hx hb dX12_layTable_114 rfl (lv_at hl 3 rfl) ?_
                  refine m_iadd X dX12_layTable_115 ?_
                  obtain ⟨h15, hj12⟩ := ck_some hj12
                  refine m_iald X hK hP 3 rfl (by decide) h15 dX12_layTable_116 ?_
                  obtain ⟨h16, hj12⟩ := ck_some hj12
                  refine m_i2l X h16 dX12_layTable_117 ?_
                  refine m_lsub X dX12_layTable_118 ?_
                  refine m_ldc2 X 1000003 co_X12_237 dX12_layTable_119 ?_
                  obtain ⟨h17, hj12⟩ := ck_some hj12
                  refine m_lrem X h17 dX12_layTable_122 ?_
                  obtain ⟨h18, hj12⟩ := ck_some hj12
                  refine m_last X hK hP hD hS 1 rfl (by decide) h18 [(a_t, .inr (12, [.ref a_t_now, .ref a_t_read, .ref a_t_past, .int (z4 t_deeds), .ref a_t_images, .ref a_t_isKept, .ref a_t_text, .int (z4 t_letters), .int (z4 t_at), .int (z4 t_tokenAt), .int (z4 t_tokenSort), .int (z4 t_tokenValue), .int (z4 t_items), .int (z4 t_isChanceTold), .int (z4 t_areSumsTold), .ref a_t_metAt, .ref a_t_memoryAt, .ref a_t_upAt, .ref a_t_downAt, .ref a_t_isSignal, .ref a_t_memories, .ref a_t_placeOf, .ref a_t_nextPlace, .int (z4 t_places), .ref a_t_kindOf, .ref a_t_newKind, .int (z4 t_kinds), .ref a_t_stateOfKind, .ref a_t_stateAt, .ref a_t_stepTo, .int (z4 t_states), .ref a_t_far, .ref a_t_ways, .ref a_t_nextWays, .ref a_t_table])), (a_t_table, .inl (E 2, 4160, .inr (.inl (A8 (up_ t_table_l61 ((65 * v2_1) + (t_stepTo ((5 * v2_1) + v61_2).toNat)).toNat ((((t_table_l61 ((65 * v2_1) + (t_stepTo ((5 * v2_1) + v61_2).toNat)).toNat) + 1000003) - (t_now (10 + v61_2).toNat)) % 1000003)))))), (a_t_stepTo, .inl (E 0, 320, .inl (A4 t_stepTo))), (a_t_now, .inl (E 0, 98, .inl (A4 t_now)))] rfl dX12_layTable_123 (fun H locs hP hD hS => ?_)
                  exact J12 _ (Option.some.inj hj12).symm _ _ _ (lv_sub hl [1, 2, 3] rfl) hP hD hS
          exact L9 n _ _ _ _ _ (lv_sub hl [1, 2, 0] rfl) hP hD hS hj9
        have L3 : ∀ (k_ : Nat) (v12_2 : Int) (t_table_l12 : Nat → Int), ∀ (H : Heap) (locs : List Loc) (ls : Array Slot), lv_has ls 4 [(0, .ref a_t), (1, .int (z4 v2_1)), (2, .int (z4 v12_2))] → va_P D vwCl [(a_t, .inr (12, [.ref a_t_now, .ref a_t_read, .ref a_t_past, .int (z4 t_deeds), .ref a_t_images, .ref a_t_isKept, .ref a_t_text, .int (z4 t_letters), .int (z4 t_at), .int (z4 t_tokenAt), .int (z4 t_tokenSort), .int (z4 t_tokenValue), .int (z4 t_items), .int (z4 t_isChanceTold), .int (z4 t_areSumsTold), .ref a_t_metAt, .ref a_t_memoryAt, .ref a_t_upAt, .ref a_t_downAt, .ref a_t_isSignal, .ref a_t_memories, .ref a_t_placeOf, .ref a_t_nextPlace, .int (z4 t_places), .ref a_t_kindOf, .ref a_t_newKind, .int (z4 t_kinds), .ref a_t_stateOfKind, .ref a_t_stateAt, .ref a_t_stepTo, .int (z4 t_states), .ref a_t_far, .ref a_t_ways, .ref a_t_nextWays, .ref a_t_table])), (a_t_table, .inl (E 2, 4160, .inr (.inl (A8 t_table_l12)))), (a_t_stepTo, .inl (E 0, 320, .inl (A4 t_stepTo))), (a_t_now, .inl (E 0, 98, .inl (A4 t_now)))] H → va_D A [(a_t, .inr (12, [.ref a_t_now, .ref a_t_read, .ref a_t_past, .int (z4 t_deeds), .ref a_t_images, .ref a_t_isKept, .ref a_t_text, .int (z4 t_letters), .int (z4 t_at), .int (z4 t_tokenAt), .int (z4 t_tokenSort), .int (z4 t_tokenValue), .int (z4 t_items), .int (z4 t_isChanceTold), .int (z4 t_areSumsTold), .ref a_t_metAt, .ref a_t_memoryAt, .ref a_t_upAt, .ref a_t_downAt, .ref a_t_isSignal, .ref a_t_memories, .ref a_t_placeOf, .ref a_t_nextPlace, .int (z4 t_places), .ref a_t_kindOf, .ref a_t_newKind, .int (z4 t_kinds), .ref a_t_stateOfKind, .ref a_t_stateAt, .ref a_t_stepTo, .int (z4 t_states), .ref a_t_far, .ref a_t_ways, .ref a_t_nextWays, .ref a_t_table])), (a_t_table, .inl (E 2, 4160, .inr (.inl (A8 t_table_l12)))), (a_t_stepTo, .inl (E 0, 320, .inl (A4 t_stepTo))), (a_t_now, .inl (E 0, 98, .inl (A4 t_now)))] → va_S A s.heap H locs → lp_ (fun (q : Int × (Nat → Int)) => F_X12_layTable_L12 n v2_1 q.1 q.2) k_ (v12_2, t_table_l12) = some o3 → W p l e rm_X12_layTable s m args below meth c H locs 0 0 Q (F0 m 12 ls []) := by
          intro k_
          induction k_ with
          | zero =>
            intro v12_2 t_table_l12 H locs ls hl hP hD hS hq_; exact (lp_zero hq_).elim
          | succ k_ ih3 =>
            intro v12_2 t_table_l12 H locs ls hl hP hD hS hq_
            obtain ⟨t_3, hb3, hq3⟩ := lp_some hq_
            replace hb3 : F_X12_layTable_L12 n v2_1 v12_2 t_table_l12 = some t_3 := hb3
            unfold F_X12_layTable_L12 at hb3
            refine lv_iload_n hx hb dX12_layTable_12 rfl (lv_at hl 2 rfl) ?_
            refine m_bipush X dX12_layTable_13 (by decide) ?_
            obtain ⟨h4, hb3⟩ := ck_some hb3
            refine m_icmp_ge X ⟨h4, ⟨by decide, by decide⟩⟩ dX12_layTable_15 (tgt := 59) (by decide) (fun (hc_ : ¬ (v12_2 < 65)) => ?_) (fun (hc_ : v12_2 < 65) => ?_)
            · rw [if_neg hc_] at hb3
              obtain rfl := Option.some.inj hb3
              exact E3_0 _ (Option.some.inj hq3).symm _ _ _ (lv_sub hl [0, 1] rfl) hP hD hS
            · rw [if_pos hc_] at hb3
              refine lv_aload_n hx hb dX12_layTable_18 rfl (lv_at hl 0 rfl) ?_
              refine m_get X hK hP cl_X12 iT_X12 34 (by decide) fl_X12_78 0 rfl rfl dX12_layTable_19 ?_
              refine m_bipush X dX12_layTable_22 (by decide) ?_
              refine lv_iload_n hx hb dX12_layTable_24 rfl (lv_at hl 1 rfl) ?_
              refine m_imul X dX12_layTable_25 ?_
              refine lv_iload_n hx hb dX12_layTable_26 rfl (lv_at hl 2 rfl) ?_
              refine m_iadd X dX12_layTable_27 ?_
              refine lv_iload_n hx hb dX12_layTable_28 rfl (lv_at hl 2 rfl) ?_
              refine m_bipush X dX12_layTable_29 (by decide) ?_
              obtain ⟨o5, hj5, hr5⟩ := bd_some hb3
              have J5 : ∀ (o_ : Int), o5 = o_ → ∀ (H : Heap) (locs : List Loc) (ls : Array Slot), lv_has ls 4 [(0, .ref a_t), (1, .int (z4 v2_1)), (2, .int (z4 v12_2))] → va_P D vwCl [(a_t, .inr (12, [.ref a_t_now, .ref a_t_read, .ref a_t_past, .int (z4 t_deeds), .ref a_t_images, .ref a_t_isKept, .ref a_t_text, .int (z4 t_letters), .int (z4 t_at), .int (z4 t_tokenAt), .int (z4 t_tokenSort), .int (z4 t_tokenValue), .int (z4 t_items), .int (z4 t_isChanceTold), .int (z4 t_areSumsTold), .ref a_t_metAt, .ref a_t_memoryAt, .ref a_t_upAt, .ref a_t_downAt, .ref a_t_isSignal, .ref a_t_memories, .ref a_t_placeOf, .ref a_t_nextPlace, .int (z4 t_places), .ref a_t_kindOf, .ref a_t_newKind, .int (z4 t_kinds), .ref a_t_stateOfKind, .ref a_t_stateAt, .ref a_t_stepTo, .int (z4 t_states), .ref a_t_far, .ref a_t_ways, .ref a_t_nextWays, .ref a_t_table])), (a_t_table, .inl (E 2, 4160, .inr (.inl (A8 t_table_l12)))), (a_t_stepTo, .inl (E 0, 320, .inl (A4 t_stepTo))), (a_t_now, .inl (E 0, 98, .inl (A4 t_now)))] H → va_D A [(a_t, .inr (12, [.ref a_t_now, .ref a_t_read, .ref a_t_past, .int (z4 t_deeds), .ref a_t_images, .ref a_t_isKept, .ref a_t_text, .int (z4 t_letters), .int (z4 t_at), .int (z4 t_tokenAt), .int (z4 t_tokenSort), .int (z4 t_tokenValue), .int (z4 t_items), .int (z4 t_isChanceTold), .int (z4 t_areSumsTold), .ref a_t_metAt, .ref a_t_memoryAt, .ref a_t_upAt, .ref a_t_downAt, .ref a_t_isSignal, .ref a_t_memories, .ref a_t_placeOf, .ref a_t_nextPlace, .int (z4 t_places), .ref a_t_kindOf, .ref a_t_newKind, .int (z4 t_kinds), .ref a_t_stateOfKind, .ref a_t_stateAt, .ref a_t_stepTo, .int (z4 t_states), .ref a_t_far, .ref a_t_ways, .ref a_t_nextWays, .ref a_t_table])), (a_t_table, .inl (E 2, 4160, .inr (.inl (A8 t_table_l12)))), (a_t_stepTo, .inl (E 0, 320, .inl (A4 t_stepTo))), (a_t_now, .inl (E 0, 98, .inl (A4 t_now)))] → va_S A s.heap H locs → W p l e rm_X12_layTable s m args below meth c H locs 0 0 Q (F0 m 52 ls [.long (z8 o_), .int (z4 ((65 * v2_1) + v12_2)), .ref a_t_table]) := by
                intro o_ ho_ H locs ls hl hP hD hS
                subst ho_
                obtain ⟨h8, hr5⟩ := ck_some hr5
                refine m_last X hK hP hD hS 1 rfl (by decide) h8 [(a_t, .inr (12, [.ref a_t_now, .ref a_t_read, .ref a_t_past, .int (z4 t_deeds), .ref a_t_images, .ref a_t_isKept, .ref a_t_text, .int (z4 t_letters), .int (z4 t_at), .int (z4 t_tokenAt), .int (z4 t_tokenSort), .int (z4 t_tokenValue), .int (z4 t_items), .int (z4 t_isChanceTold), .int (z4 t_areSumsTold), .ref a_t_metAt, .ref a_t_memoryAt, .ref a_t_upAt, .ref a_t_downAt, .ref a_t_isSignal, .ref a_t_memories, .ref a_t_placeOf, .ref a_t_nextPlace, .int (z4 t_places), .ref a_t_kindOf, .ref a_t_newKind, .int (z4 t_kinds), .ref a_t_stateOfKind, .ref a_t_stateAt, .ref a_t_stepTo, .int (z4 t_states), .ref a_t_far, .ref a_t_ways, .ref a_t_nextWays, .ref a_t_table])), (a_t_table, .inl (E 2, 4160, .inr (.inl (A8 (up_ t_table_l12 ((65 * v2_1) + v12_2).toNat o5))))), (a_t_stepTo, .inl (E 0, 320, .inl (A4 t_stepTo))), (a_t_now, .inl (E 0, 98, .inl (A4 t_now)))] rfl dX12_layTable_52 (fun H locs hP hD hS => ?_)
                refine m_iinc X 2 [(2, .int (z4 (v12_2 + 1))), (0, .ref a_t), (1, .int (z4 v2_1))] dX12_layTable_53 hl rfl (by decide) rfl (fun ls hl => ?_)
                refine lv_goto (tgt := 12) hx hb dX12_layTable_56 (by decide) ?_
                obtain rfl := Option.some.inj hr5
                exact ih3 _ _ _ _ _ (lv_sub hl [1, 2, 0] rfl) hP hD hS hq3
              obtain ⟨h6, hj5⟩ := ck_some hj5
              refine m_icmp_ne X ⟨h6, ⟨by decide, by decide⟩⟩ dX12_layTable_31 (tgt := 40) (by decide) (fun (hc_ : ¬ (v12_2 = 64)) => ?_) (fun (hc_ : v12_2 = 64) => ?_)
              · rw [if_neg hc_] at hj5
                refine lv_iload_n hx hb dX12_layTable_40 rfl (lv_at hl 2 rfl) ?_
                refine lv_iload_n hx hb dX12_layTable_41 rfl (lv_at hl 1 rfl) ?_
                obtain ⟨h7, hj5⟩ := ck_some hj5
                refine m_icmp_ne X h7 dX12_layTable_42 (tgt := 51) (by decide) (fun (hc_ : ¬ (v12_2 = v2_1)) => ?_) (fun (hc_ : v12_2 = v2_1) => ?_)
                · rw [if_neg hc_] at hj5
                  refine m_lconst X 0 rfl dX12_layTable_51 ?_
                  exact J5 _ (Option.some.inj hj5).symm _ _ _ (lv_sub hl [0, 1, 2] rfl) hP hD hS
                · rw [if_pos hc_] at hj5
                  refine m_ldc2 X 10 co_X12_230 dX12_layTable_45 ?_
                  refine lv_goto (tgt := 52) hx hb dX12_layTable_48 (by decide) ?_
                  exact J5 _ (Option.some.inj hj5).symm _ _ _ (lv_sub hl [0, 1, 2] rfl) hP hD hS
              · rw [if_pos hc_] at hj5
                refine m_ldc2 X 10 co_X12_230 dX12_layTable_34 ?_
                refine lv_goto (tgt := 52) hx hb dX12_layTable_37 (by decide) ?_
                exact J5 _ (Option.some.inj hj5).symm _ _ _ (lv_sub hl [0, 1, 2] rfl) hP hD hS
        exact L3 n _ _ _ _ _ (lv_sub hl [1, 2, 0] rfl) hP hD hS hj3
  exact L1 n _ _ _ _ _ (lv_sub hl [1, 0] rfl) hP hD hS hj1
def F_X12_change_L2 (n : Nat) (x1 : Int) (x2 : Int) (v2_3 : Int) (t_table_l2 : Nat → Int) : Option ((Int × (Nat → Int)) ⊕ ((Nat → Int))) :=
  ck (r4 v2_3) <|
  if v2_3 < 65 then
    ck (r4 x1 ∧ r4 x2) <|
    if x1 = x2 then
      some (.inr t_table_l2)
    else
      ck (ix_ ((65 * x1) + v2_3) 4160) <|
      ck (ix_ ((65 * x2) + v2_3) 4160) <|
      ck (ix_ ((65 * x1) + v2_3) 4160) <|
      ck (ix_ ((65 * x2) + v2_3) 4160) <|
      some (.inl (v2_3 + 1, up_ (up_ t_table_l2 ((65 * x1) + v2_3).toNat (t_table_l2 ((65 * x2) + v2_3).toNat)) ((65 * x2) + v2_3).toNat (t_table_l2 ((65 * x1) + v2_3).toNat)))
  else
    some (.inr t_table_l2)
def F_X12_change (n : Nat)  (t_table : Nat → Int) (x1 : Int) (x2 : Int) : Option ((Nat → Int)) :=
  (lp_ (fun (q : Int × (Nat → Int)) => F_X12_change_L2 n x1 x2 q.1 q.2) n (0, t_table)).bind fun o1 =>
  some o1
def rm_X12_change : Room := { frames := 0, cells := 0, slots := 0, locals := 0 }
set_option maxHeartbeats 4000000 in
set_option maxRecDepth 100000 in
theorem k_X12_change {l : Launch} {D : va_G} {E : Nat → ClassId} (n : Nat) (a_t a_t_now a_t_read a_t_past a_t_images a_t_isKept a_t_text a_t_metAt a_t_memoryAt a_t_upAt a_t_downAt a_t_isSignal a_t_memories a_t_placeOf a_t_nextPlace a_t_kindOf a_t_newKind a_t_stateOfKind a_t_stateAt a_t_stepTo a_t_far a_t_ways a_t_nextWays a_t_table : Nat) (t_deeds : Int) (t_letters : Int) (t_at : Int) (t_tokenAt : Int) (t_tokenSort : Int) (t_tokenValue : Int) (t_items : Int) (t_isChanceTold : Int) (t_areSumsTold : Int) (t_places : Int) (t_kinds : Int) (t_states : Int) (t_table : Nat → Int) (x1 : Int) (x2 : Int) (res : (Nat → Int)) (hf : F_X12_change n t_table x1 x2 = some res) : MW l yX12_change (.code yX12_change cX12_change 6 none) rm_X12_change D E [.ref a_t, .int (z4 x1), .int (z4 x2)] [(a_t, .inr (12, [.ref a_t_now, .ref a_t_read, .ref a_t_past, .int (z4 t_deeds), .ref a_t_images, .ref a_t_isKept, .ref a_t_text, .int (z4 t_letters), .int (z4 t_at), .int (z4 t_tokenAt), .int (z4 t_tokenSort), .int (z4 t_tokenValue), .int (z4 t_items), .int (z4 t_isChanceTold), .int (z4 t_areSumsTold), .ref a_t_metAt, .ref a_t_memoryAt, .ref a_t_upAt, .ref a_t_downAt, .ref a_t_isSignal, .ref a_t_memories, .ref a_t_placeOf, .ref a_t_nextPlace, .int (z4 t_places), .ref a_t_kindOf, .ref a_t_newKind, .int (z4 t_kinds), .ref a_t_stateOfKind, .ref a_t_stateAt, .ref a_t_stepTo, .int (z4 t_states), .ref a_t_far, .ref a_t_ways, .ref a_t_nextWays, .ref a_t_table])), (a_t_table, .inl (E 2, 4160, .inr (.inl (A8 t_table))))] none [(a_t, .inr (12, [.ref a_t_now, .ref a_t_read, .ref a_t_past, .int (z4 t_deeds), .ref a_t_images, .ref a_t_isKept, .ref a_t_text, .int (z4 t_letters), .int (z4 t_at), .int (z4 t_tokenAt), .int (z4 t_tokenSort), .int (z4 t_tokenValue), .int (z4 t_items), .int (z4 t_isChanceTold), .int (z4 t_areSumsTold), .ref a_t_metAt, .ref a_t_memoryAt, .ref a_t_upAt, .ref a_t_downAt, .ref a_t_isSignal, .ref a_t_memories, .ref a_t_placeOf, .ref a_t_nextPlace, .int (z4 t_places), .ref a_t_kindOf, .ref a_t_newKind, .int (z4 t_kinds), .ref a_t_stateOfKind, .ref a_t_stateAt, .ref a_t_stepTo, .int (z4 t_states), .ref a_t_far, .ref a_t_ways, .ref a_t_nextWays, .ref a_t_table])), (a_t_table, .inl (E 2, 4160, .inr (.inl (A8 res))))] := by
  refine MWv (by decide) (Nat.le_of_ble_eq_true rfl) ?_
  intro p e s m args below meth c A Q X hK hP hD hA ret ls hl
  have hS : va_S A s.heap s.heap [] := va_S.rf
  have hx := X.1
  have hb := X.2.1
  have hl : lv_has ls 6 [(0, .ref a_t), (1, .int (z4 x1)), (2, .int (z4 x2))] := hl
  unfold F_X12_change at hf
  refine m_iconst X dX12_change_0 ?_
  refine lv_istore_n (lv' := [(3, .int (z4 0)), (0, .ref a_t), (1, .int (z4 x1)), (2, .int (z4 x2))]) hx hb dX12_change_1 rfl hl (by decide) rfl (fun ls hl => ?_)
  obtain ⟨o1, hj1, hr1⟩ := bd_some hf
  have E1_0 : ∀ (o_ : (Nat → Int)), o1 = o_ → ∀ (H : Heap) (locs : List Loc) (ls : Array Slot), lv_has ls 6 [] → va_P D vwCl [(a_t, .inr (12, [.ref a_t_now, .ref a_t_read, .ref a_t_past, .int (z4 t_deeds), .ref a_t_images, .ref a_t_isKept, .ref a_t_text, .int (z4 t_letters), .int (z4 t_at), .int (z4 t_tokenAt), .int (z4 t_tokenSort), .int (z4 t_tokenValue), .int (z4 t_items), .int (z4 t_isChanceTold), .int (z4 t_areSumsTold), .ref a_t_metAt, .ref a_t_memoryAt, .ref a_t_upAt, .ref a_t_downAt, .ref a_t_isSignal, .ref a_t_memories, .ref a_t_placeOf, .ref a_t_nextPlace, .int (z4 t_places), .ref a_t_kindOf, .ref a_t_newKind, .int (z4 t_kinds), .ref a_t_stateOfKind, .ref a_t_stateAt, .ref a_t_stepTo, .int (z4 t_states), .ref a_t_far, .ref a_t_ways, .ref a_t_nextWays, .ref a_t_table])), (a_t_table, .inl (E 2, 4160, .inr (.inl (A8 o_))))] H → va_D A [(a_t, .inr (12, [.ref a_t_now, .ref a_t_read, .ref a_t_past, .int (z4 t_deeds), .ref a_t_images, .ref a_t_isKept, .ref a_t_text, .int (z4 t_letters), .int (z4 t_at), .int (z4 t_tokenAt), .int (z4 t_tokenSort), .int (z4 t_tokenValue), .int (z4 t_items), .int (z4 t_isChanceTold), .int (z4 t_areSumsTold), .ref a_t_metAt, .ref a_t_memoryAt, .ref a_t_upAt, .ref a_t_downAt, .ref a_t_isSignal, .ref a_t_memories, .ref a_t_placeOf, .ref a_t_nextPlace, .int (z4 t_places), .ref a_t_kindOf, .ref a_t_newKind, .int (z4 t_kinds), .ref a_t_stateOfKind, .ref a_t_stateAt, .ref a_t_stepTo, .int (z4 t_states), .ref a_t_far, .ref a_t_ways, .ref a_t_nextWays, .ref a_t_table])), (a_t_table, .inl (E 2, 4160, .inr (.inl (A8 o_))))] → va_S A s.heap H locs → W p l e rm_X12_change s m args below meth c H locs 0 0 Q (F0 m 67 ls []) := by
    intro o_ ho_ H locs ls hl hP hD hS
    subst ho_
    obtain rfl := Option.some.inj hr1
    exact ret _ _ _ _ hP hD hS dX12_change_67
  have L1 : ∀ (k_ : Nat) (v2_3 : Int) (t_table_l2 : Nat → Int), ∀ (H : Heap) (locs : List Loc) (ls : Array Slot), lv_has ls 6 [(0, .ref a_t), (1, .int (z4 x1)), (2, .int (z4 x2)), (3, .int (z4 v2_3))] → va_P D vwCl [(a_t, .inr (12, [.ref a_t_now, .ref a_t_read, .ref a_t_past, .int (z4 t_deeds), .ref a_t_images, .ref a_t_isKept, .ref a_t_text, .int (z4 t_letters), .int (z4 t_at), .int (z4 t_tokenAt), .int (z4 t_tokenSort), .int (z4 t_tokenValue), .int (z4 t_items), .int (z4 t_isChanceTold), .int (z4 t_areSumsTold), .ref a_t_metAt, .ref a_t_memoryAt, .ref a_t_upAt, .ref a_t_downAt, .ref a_t_isSignal, .ref a_t_memories, .ref a_t_placeOf, .ref a_t_nextPlace, .int (z4 t_places), .ref a_t_kindOf, .ref a_t_newKind, .int (z4 t_kinds), .ref a_t_stateOfKind, .ref a_t_stateAt, .ref a_t_stepTo, .int (z4 t_states), .ref a_t_far, .ref a_t_ways, .ref a_t_nextWays, .ref a_t_table])), (a_t_table, .inl (E 2, 4160, .inr (.inl (A8 t_table_l2))))] H → va_D A [(a_t, .inr (12, [.ref a_t_now, .ref a_t_read, .ref a_t_past, .int (z4 t_deeds), .ref a_t_images, .ref a_t_isKept, .ref a_t_text, .int (z4 t_letters), .int (z4 t_at), .int (z4 t_tokenAt), .int (z4 t_tokenSort), .int (z4 t_tokenValue), .int (z4 t_items), .int (z4 t_isChanceTold), .int (z4 t_areSumsTold), .ref a_t_metAt, .ref a_t_memoryAt, .ref a_t_upAt, .ref a_t_downAt, .ref a_t_isSignal, .ref a_t_memories, .ref a_t_placeOf, .ref a_t_nextPlace, .int (z4 t_places), .ref a_t_kindOf, .ref a_t_newKind, .int (z4 t_kinds), .ref a_t_stateOfKind, .ref a_t_stateAt, .ref a_t_stepTo, .int (z4 t_states), .ref a_t_far, .ref a_t_ways, .ref a_t_nextWays, .ref a_t_table])), (a_t_table, .inl (E 2, 4160, .inr (.inl (A8 t_table_l2))))] → va_S A s.heap H locs → lp_ (fun (q : Int × (Nat → Int)) => F_X12_change_L2 n x1 x2 q.1 q.2) k_ (v2_3, t_table_l2) = some o1 → W p l e rm_X12_change s m args below meth c H locs 0 0 Q (F0 m 2 ls []) := by
    intro k_
    induction k_ with
    | zero =>
      intro v2_3 t_table_l2 H locs ls hl hP hD hS hq_; exact (lp_zero hq_).elim
    | succ k_ ih1 =>
      intro v2_3 t_table_l2 H locs ls hl hP hD hS hq_
      obtain ⟨t_1, hb1, hq1⟩ := lp_some hq_
      replace hb1 : F_X12_change_L2 n x1 x2 v2_3 t_table_l2 = some t_1 := hb1
      unfold F_X12_change_L2 at hb1
      refine lv_iload_n hx hb dX12_change_2 rfl (lv_at hl 3 rfl) ?_
      refine m_bipush X dX12_change_3 (by decide) ?_
      obtain ⟨h2, hb1⟩ := ck_some hb1
      refine m_icmp_ge X ⟨h2, ⟨by decide, by decide⟩⟩ dX12_change_5 (tgt := 67) (by decide) (fun (hc_ : ¬ (v2_3 < 65)) => ?_) (fun (hc_ : v2_3 < 65) => ?_)
      · rw [if_neg hc_] at hb1
        obtain rfl := Option.some.inj hb1
        exact E1_0 _ (Option.some.inj hq1).symm _ _ _ (lv_sub hl [] rfl) hP hD hS
      · rw [if_pos hc_] at hb1
        refine lv_iload_n hx hb dX12_change_8 rfl (lv_at hl 1 rfl) ?_
        refine lv_iload_n hx hb dX12_change_9 rfl (lv_at hl 2 rfl) ?_
        obtain ⟨h3, hb1⟩ := ck_some hb1
        refine m_icmp_eq X h3 dX12_change_10 (tgt := 67) (by decide) (fun (hc_ : x1 = x2) => ?_) (fun (hc_ : ¬ (x1 = x2)) => ?_)
        · rw [if_pos hc_] at hb1
          obtain rfl := Option.some.inj hb1
          exact E1_0 _ (Option.some.inj hq1).symm _ _ _ (lv_sub hl [] rfl) hP hD hS
        · rw [if_neg hc_] at hb1
          refine lv_aload_n hx hb dX12_change_13 rfl (lv_at hl 0 rfl) ?_
          refine m_get X hK hP cl_X12 iT_X12 34 (by decide) fl_X12_78 0 rfl rfl dX12_change_14 ?_
          refine m_bipush X dX12_change_17 (by decide) ?_
          refine lv_iload_n hx hb dX12_change_19 rfl (lv_at hl 1 rfl) ?_
          refine m_imul X dX12_change_20 ?_
          refine lv_iload_n hx hb dX12_change_21 rfl (lv_at hl 3 rfl) ?_
          refine m_iadd X dX12_change_22 ?_
          obtain ⟨h4, hb1⟩ := ck_some hb1
          refine m_lald X hK hP 1 rfl (by decide) h4 dX12_change_23 ?_
          refine lv_lstore (lv' := [(4, .long (z8 (t_table_l2 ((65 * x1) + v2_3).toNat))), (0, .ref a_t), (1, .int (z4 x1)), (2, .int (z4 x2)), (3, .int (z4 v2_3))]) hx hb dX12_change_24 hl (by decide) rfl (fun ls hl => ?_)
          refine lv_aload_n hx hb dX12_change_26 rfl (lv_at hl 1 rfl) ?_
          refine m_get X hK hP cl_X12 iT_X12 34 (by decide) fl_X12_78 0 rfl rfl dX12_change_27 ?_
          refine m_bipush X dX12_change_30 (by decide) ?_
          refine lv_iload_n hx hb dX12_change_32 rfl (lv_at hl 2 rfl) ?_
          refine m_imul X dX12_change_33 ?_
          refine lv_iload_n hx hb dX12_change_34 rfl (lv_at hl 4 rfl) ?_
          refine m_iadd X dX12_change_35 ?_
          refine lv_aload_n hx hb dX12_change_36 rfl (lv_at hl 1 rfl) ?_
          refine m_get X hK hP cl_X12 iT_X12 34 (by decide) fl_X12_78 0 rfl rfl dX12_change_37 ?_
          refine m_bipush X dX12_change_40 (by decide) ?_
          refine lv_iload_n hx hb dX12_change_42 rfl (lv_at hl 3 rfl) ?_
          refine m_imul X dX12_change_43 ?_
          refine lv_iload_n hx hb dX12_change_44 rfl (lv_at hl 4 rfl) ?_
          refine m_iadd X dX12_change_45 ?_
          obtain ⟨h5, hb1⟩ := ck_some hb1
          refine m_lald X hK hP 1 rfl (by decide) h5 dX12_change_46 ?_
          obtain ⟨h6, hb1⟩ := ck_some hb1
          refine m_last X hK hP hD hS 1 rfl (by decide) h6 [(a_t, .inr (12, [.ref a_t_now, .ref a_t_read, .ref a_t_past, .int (z4 t_deeds), .ref a_t_images, .ref a_t_isKept, .ref a_t_text, .int (z4 t_letters), .int (z4 t_at), .int (z4 t_tokenAt), .int (z4 t_tokenSort), .int (z4 t_tokenValue), .int (z4 t_items), .int (z4 t_isChanceTold), .int (z4 t_areSumsTold), .ref a_t_metAt, .ref a_t_memoryAt, .ref a_t_upAt, .ref a_t_downAt, .ref a_t_isSignal, .ref a_t_memories, .ref a_t_placeOf, .ref a_t_nextPlace, .int (z4 t_places), .ref a_t_kindOf, .ref a_t_newKind, .int (z4 t_kinds), .ref a_t_stateOfKind, .ref a_t_stateAt, .ref a_t_stepTo, .int (z4 t_states), .ref a_t_far, .ref a_t_ways, .ref a_t_nextWays, .ref a_t_table])), (a_t_table, .inl (E 2, 4160, .inr (.inl (A8 (up_ t_table_l2 ((65 * x1) + v2_3).toNat (t_table_l2 ((65 * x2) + v2_3).toNat))))))] rfl dX12_change_47 (fun H locs hP hD hS => ?_)
          refine lv_aload_n hx hb dX12_change_48 rfl (lv_at hl 1 rfl) ?_
          refine m_get X hK hP cl_X12 iT_X12 34 (by decide) fl_X12_78 0 rfl rfl dX12_change_49 ?_
          refine m_bipush X dX12_change_52 (by decide) ?_
          refine lv_iload_n hx hb dX12_change_54 rfl (lv_at hl 3 rfl) ?_
          refine m_imul X dX12_change_55 ?_
          refine lv_iload_n hx hb dX12_change_56 rfl (lv_at hl 4 rfl) ?_
          refine m_iadd X dX12_change_57 ?_
          refine lv_lload hx hb dX12_change_58 (lv_at hl 0 rfl) ?_
          obtain ⟨h7, hb1⟩ := ck_some hb1
          refine m_last X hK hP hD hS 1 rfl (by decide) h7 [(a_t, .inr (12, [.ref a_t_now, .ref a_t_read, .ref a_t_past, .int (z4 t_deeds), .ref a_t_images, .ref a_t_isKept, .ref a_t_text, .int (z4 t_letters), .int (z4 t_at), .int (z4 t_tokenAt), .int (z4 t_tokenSort), .int (z4 t_tokenValue), .int (z4 t_items), .int (z4 t_isChanceTold), .int (z4 t_areSumsTold), .ref a_t_metAt, .ref a_t_memoryAt, .ref a_t_upAt, .ref a_t_downAt, .ref a_t_isSignal, .ref a_t_memories, .ref a_t_placeOf, .ref a_t_nextPlace, .int (z4 t_places), .ref a_t_kindOf, .ref a_t_newKind, .int (z4 t_kinds), .ref a_t_stateOfKind, .ref a_t_stateAt, .ref a_t_stepTo, .int (z4 t_states), .ref a_t_far, .ref a_t_ways, .ref a_t_nextWays, .ref a_t_table])), (a_t_table, .inl (E 2, 4160, .inr (.inl (A8 (up_ (up_ t_table_l2 ((65 * x1) + v2_3).toNat (t_table_l2 ((65 * x2) + v2_3).toNat)) ((65 * x2) + v2_3).toNat (t_table_l2 ((65 * x1) + v2_3).toNat))))))] rfl dX12_change_60 (fun H locs hP hD hS => ?_)
          refine m_iinc X 4 [(3, .int (z4 (v2_3 + 1))), (4, .long (z8 (t_table_l2 ((65 * x1) + v2_3).toNat))), (0, .ref a_t), (1, .int (z4 x1)), (2, .int (z4 x2))] dX12_change_61 hl rfl (by decide) rfl (fun ls hl => ?_)
          refine lv_goto (tgt := 2) hx hb dX12_change_64 (by decide) ?_
          obtain rfl := Option.some.inj hb1
          exact ih1 _ _ _ _ _ (lv_sub hl [2, 3, 4, 0] rfl) hP hD hS hq1
  exact L1 n _ _ _ _ _ (lv_sub hl [1, 2, 3, 0] rfl) hP hD hS hj1
def F_X12_solve_L12 (n : Nat) (t_states : Int) (v2_1 : Int) (t_table_l2 : Nat → Int) (v12_2 : Int) : Option ((Int) ⊕ (Int)) :=
  ck (r4 v12_2 ∧ r4 t_states) <|
  if v12_2 < t_states then
    ck (ix_ ((65 * v12_2) + v2_1) 4160) <|
    ck (r8 (t_table_l2 ((65 * v12_2) + v2_1).toNat)) <|
    if t_table_l2 ((65 * v12_2) + v2_1).toNat = 0 then
      some (.inl (v12_2 + 1))
    else
      some (.inr v12_2)
  else
    some (.inr v12_2)
def F_X12_solve_L74 (n : Nat) (v2_1 : Int) (o10 : Int) (v74_5 : Int) (t_table_l74 : Nat → Int) : Option ((Int × (Nat → Int)) ⊕ ((Nat → Int))) :=
  ck (r4 v74_5) <|
  if v74_5 < 65 then
    ck (ix_ ((65 * v2_1) + v74_5) 4160) <|
    ck (d8_ ((t_table_l74 ((65 * v2_1) + v74_5).toNat) * o10) 1000003) <|
    ck (ix_ ((65 * v2_1) + v74_5) 4160) <|
    some (.inl (v74_5 + 1, up_ t_table_l74 ((65 * v2_1) + v74_5).toNat (((t_table_l74 ((65 * v2_1) + v74_5).toNat) * o10) % 1000003)))
  else
    some (.inr t_table_l74)
def F_X12_solve_L156 (n : Nat) (o18 : Int) (v120_5 : Int) (v2_1 : Int) (v156_8 : Int) (t_table_l156 : Nat → Int) : Option ((Int × (Nat → Int)) ⊕ ((Nat → Int))) :=
  ck (r4 v156_8) <|
  if v156_8 < 65 then
    ck (r8 o18) <|
    if o18 = 0 then
      some (.inr t_table_l156)
    else
      ck (ix_ ((65 * v120_5) + v156_8) 4160) <|
      ck (ix_ ((65 * v2_1) + v156_8) 4160) <|
      ck (d8_ ((t_table_l156 ((65 * v120_5) + v156_8).toNat) + ((1000003 - o18) * (t_table_l156 ((65 * v2_1) + v156_8).toNat))) 1000003) <|
      ck (ix_ ((65 * v120_5) + v156_8) 4160) <|
      some (.inl (v156_8 + 1, up_ t_table_l156 ((65 * v120_5) + v156_8).toNat (((t_table_l156 ((65 * v120_5) + v156_8).toNat) + ((1000003 - o18) * (t_table_l156 ((65 * v2_1) + v156_8).toNat))) % 1000003)))
  else
    some (.inr t_table_l156)
def F_X12_solve_L120 (n : Nat) (t_states : Int) (v2_1 : Int) (v120_5 : Int) (t_table_l120 : Nat → Int) : Option ((Int × (Nat → Int)) ⊕ ((Nat → Int))) :=
  ck (r4 v120_5 ∧ r4 t_states) <|
  if v120_5 < t_states then
    Option.bind (α := Int) (
      ck (r4 v120_5 ∧ r4 v2_1) <|
      if v120_5 = v2_1 then
        some 0
      else
        ck (ix_ ((65 * v120_5) + v2_1) 4160) <|
        some (t_table_l120 ((65 * v120_5) + v2_1).toNat)) fun o18 =>
    (lp_ (fun (q : Int × (Nat → Int)) => F_X12_solve_L156 n o18 v120_5 v2_1 q.1 q.2) n (0, t_table_l120)).bind fun o21 =>
    some (.inl (v120_5 + 1, o21))
  else
    some (.inr t_table_l120)
def F_X12_solve_L2 (n : Nat) (t_states : Int) (v2_1 : Int) (t_table_l2 : Nat → Int) : Option ((Int × (Nat → Int)) ⊕ (((Nat → Int)) ⊕ ((Nat → Int)))) :=
  ck (r4 v2_1 ∧ r4 t_states) <|
  if v2_1 < t_states then
    (lp_ (fun (q : Int) => F_X12_solve_L12 n t_states v2_1 t_table_l2 q) n v2_1).bind fun o3 =>
    ck (r4 o3 ∧ r4 t_states) <|
    if o3 = t_states then
      some (.inr (.inr t_table_l2))
    else
      (F_X12_change n t_table_l2 o3 v2_1).bind fun o8 =>
      ck (ix_ (66 * v2_1) 4160) <|
      (F_X12_inverse n (o8 (66 * v2_1).toNat)).bind fun o10 =>
      (lp_ (fun (q : Int × (Nat → Int)) => F_X12_solve_L74 n v2_1 o10 q.1 q.2) n (0, o8)).bind fun o11 =>
      (lp_ (fun (q : Int × (Nat → Int)) => F_X12_solve_L120 n t_states v2_1 q.1 q.2) n (0, o11)).bind fun o16 =>
      some (.inl (v2_1 + 1, o16))
  else
    some (.inr (.inl t_table_l2))
def F_X12_solve (n : Nat)  (t_states : Int) (t_table : Nat → Int)  : Option (Int × (Nat → Int)) :=
  (lp_ (fun (q : Int × (Nat → Int)) => F_X12_solve_L2 n t_states q.1 q.2) n (0, t_table)).bind fun o1 => match o1 with
  | .inl o1_0 =>
    some (1, o1_0)
  | .inr o1_1 =>
    some (0, o1_1)
def rm_X12_solve : Room := { frames := 1, cells := 0, slots := 0, locals := 26 }
set_option maxHeartbeats 4000000 in
set_option maxRecDepth 100000 in
theorem k_X12_solve {l : Launch} {D : va_G} {E : Nat → ClassId} (n : Nat) (a_t a_t_now a_t_read a_t_past a_t_images a_t_isKept a_t_text a_t_metAt a_t_memoryAt a_t_upAt a_t_downAt a_t_isSignal a_t_memories a_t_placeOf a_t_nextPlace a_t_kindOf a_t_newKind a_t_stateOfKind a_t_stateAt a_t_stepTo a_t_far a_t_ways a_t_nextWays a_t_table : Nat) (t_deeds : Int) (t_letters : Int) (t_at : Int) (t_tokenAt : Int) (t_tokenSort : Int) (t_tokenValue : Int) (t_items : Int) (t_isChanceTold : Int) (t_areSumsTold : Int) (t_places : Int) (t_kinds : Int) (t_states : Int) (t_table : Nat → Int) (res : Int × (Nat → Int)) (hf : F_X12_solve n t_states t_table = some res) : MW l yX12_solve (.code yX12_solve cX12_solve 9 (some .boolean)) rm_X12_solve D E [.ref a_t] [(a_t, .inr (12, [.ref a_t_now, .ref a_t_read, .ref a_t_past, .int (z4 t_deeds), .ref a_t_images, .ref a_t_isKept, .ref a_t_text, .int (z4 t_letters), .int (z4 t_at), .int (z4 t_tokenAt), .int (z4 t_tokenSort), .int (z4 t_tokenValue), .int (z4 t_items), .int (z4 t_isChanceTold), .int (z4 t_areSumsTold), .ref a_t_metAt, .ref a_t_memoryAt, .ref a_t_upAt, .ref a_t_downAt, .ref a_t_isSignal, .ref a_t_memories, .ref a_t_placeOf, .ref a_t_nextPlace, .int (z4 t_places), .ref a_t_kindOf, .ref a_t_newKind, .int (z4 t_kinds), .ref a_t_stateOfKind, .ref a_t_stateAt, .ref a_t_stepTo, .int (z4 t_states), .ref a_t_far, .ref a_t_ways, .ref a_t_nextWays, .ref a_t_table])), (a_t_table, .inl (E 2, 4160, .inr (.inl (A8 t_table))))] (some (.int (z4 res.1))) [(a_t, .inr (12, [.ref a_t_now, .ref a_t_read, .ref a_t_past, .int (z4 t_deeds), .ref a_t_images, .ref a_t_isKept, .ref a_t_text, .int (z4 t_letters), .int (z4 t_at), .int (z4 t_tokenAt), .int (z4 t_tokenSort), .int (z4 t_tokenValue), .int (z4 t_items), .int (z4 t_isChanceTold), .int (z4 t_areSumsTold), .ref a_t_metAt, .ref a_t_memoryAt, .ref a_t_upAt, .ref a_t_downAt, .ref a_t_isSignal, .ref a_t_memories, .ref a_t_placeOf, .ref a_t_nextPlace, .int (z4 t_places), .ref a_t_kindOf, .ref a_t_newKind, .int (z4 t_kinds), .ref a_t_stateOfKind, .ref a_t_stateAt, .ref a_t_stepTo, .int (z4 t_states), .ref a_t_far, .ref a_t_ways, .ref a_t_nextWays, .ref a_t_table])), (a_t_table, .inl (E 2, 4160, .inr (.inl (A8 res.2))))] := by
  refine MWz (by decide) (Nat.le_of_ble_eq_true rfl) ?_
  intro p e s m args below meth c A Q X hK hP hD hA ret ls hl
  have hS : va_S A s.heap s.heap [] := va_S.rf
  have hx := X.1
  have hb := X.2.1
  have hl : lv_has ls 9 [(0, .ref a_t)] := hl
  unfold F_X12_solve at hf
  refine m_iconst X dX12_solve_0 ?_
  refine lv_istore_n (lv' := [(1, .int (z4 0)), (0, .ref a_t)]) hx hb dX12_solve_1 rfl hl (by decide) rfl (fun ls hl => ?_)
  obtain ⟨o1, hj1, hr1⟩ := bd_some hf
  have E1_0 : ∀ (o_ : (Nat → Int)), o1 = (.inl o_) → ∀ (H : Heap) (locs : List Loc) (ls : Array Slot), lv_has ls 9 [] → va_P D vwCl [(a_t, .inr (12, [.ref a_t_now, .ref a_t_read, .ref a_t_past, .int (z4 t_deeds), .ref a_t_images, .ref a_t_isKept, .ref a_t_text, .int (z4 t_letters), .int (z4 t_at), .int (z4 t_tokenAt), .int (z4 t_tokenSort), .int (z4 t_tokenValue), .int (z4 t_items), .int (z4 t_isChanceTold), .int (z4 t_areSumsTold), .ref a_t_metAt, .ref a_t_memoryAt, .ref a_t_upAt, .ref a_t_downAt, .ref a_t_isSignal, .ref a_t_memories, .ref a_t_placeOf, .ref a_t_nextPlace, .int (z4 t_places), .ref a_t_kindOf, .ref a_t_newKind, .int (z4 t_kinds), .ref a_t_stateOfKind, .ref a_t_stateAt, .ref a_t_stepTo, .int (z4 t_states), .ref a_t_far, .ref a_t_ways, .ref a_t_nextWays, .ref a_t_table])), (a_t_table, .inl (E 2, 4160, .inr (.inl (A8 o_))))] H → va_D A [(a_t, .inr (12, [.ref a_t_now, .ref a_t_read, .ref a_t_past, .int (z4 t_deeds), .ref a_t_images, .ref a_t_isKept, .ref a_t_text, .int (z4 t_letters), .int (z4 t_at), .int (z4 t_tokenAt), .int (z4 t_tokenSort), .int (z4 t_tokenValue), .int (z4 t_items), .int (z4 t_isChanceTold), .int (z4 t_areSumsTold), .ref a_t_metAt, .ref a_t_memoryAt, .ref a_t_upAt, .ref a_t_downAt, .ref a_t_isSignal, .ref a_t_memories, .ref a_t_placeOf, .ref a_t_nextPlace, .int (z4 t_places), .ref a_t_kindOf, .ref a_t_newKind, .int (z4 t_kinds), .ref a_t_stateOfKind, .ref a_t_stateAt, .ref a_t_stepTo, .int (z4 t_states), .ref a_t_far, .ref a_t_ways, .ref a_t_nextWays, .ref a_t_table])), (a_t_table, .inl (E 2, 4160, .inr (.inl (A8 o_))))] → va_S A s.heap H locs → W p l e rm_X12_solve s m args below meth c H locs 0 0 Q (F0 m 238 ls []) := by
    intro o1_0 ho_ H locs ls hl hP hD hS
    subst ho_
    refine m_iconst X dX12_solve_238 ?_
    obtain rfl := Option.some.inj hr1
    exact ret _ _ _ _ (Or.inr rfl) hP hD hS dX12_solve_239
  have E1_1 : ∀ (o_ : (Nat → Int)), o1 = (.inr o_) → ∀ (H : Heap) (locs : List Loc) (ls : Array Slot), lv_has ls 9 [] → va_P D vwCl [(a_t, .inr (12, [.ref a_t_now, .ref a_t_read, .ref a_t_past, .int (z4 t_deeds), .ref a_t_images, .ref a_t_isKept, .ref a_t_text, .int (z4 t_letters), .int (z4 t_at), .int (z4 t_tokenAt), .int (z4 t_tokenSort), .int (z4 t_tokenValue), .int (z4 t_items), .int (z4 t_isChanceTold), .int (z4 t_areSumsTold), .ref a_t_metAt, .ref a_t_memoryAt, .ref a_t_upAt, .ref a_t_downAt, .ref a_t_isSignal, .ref a_t_memories, .ref a_t_placeOf, .ref a_t_nextPlace, .int (z4 t_places), .ref a_t_kindOf, .ref a_t_newKind, .int (z4 t_kinds), .ref a_t_stateOfKind, .ref a_t_stateAt, .ref a_t_stepTo, .int (z4 t_states), .ref a_t_far, .ref a_t_ways, .ref a_t_nextWays, .ref a_t_table])), (a_t_table, .inl (E 2, 4160, .inr (.inl (A8 o_))))] H → va_D A [(a_t, .inr (12, [.ref a_t_now, .ref a_t_read, .ref a_t_past, .int (z4 t_deeds), .ref a_t_images, .ref a_t_isKept, .ref a_t_text, .int (z4 t_letters), .int (z4 t_at), .int (z4 t_tokenAt), .int (z4 t_tokenSort), .int (z4 t_tokenValue), .int (z4 t_items), .int (z4 t_isChanceTold), .int (z4 t_areSumsTold), .ref a_t_metAt, .ref a_t_memoryAt, .ref a_t_upAt, .ref a_t_downAt, .ref a_t_isSignal, .ref a_t_memories, .ref a_t_placeOf, .ref a_t_nextPlace, .int (z4 t_places), .ref a_t_kindOf, .ref a_t_newKind, .int (z4 t_kinds), .ref a_t_stateOfKind, .ref a_t_stateAt, .ref a_t_stepTo, .int (z4 t_states), .ref a_t_far, .ref a_t_ways, .ref a_t_nextWays, .ref a_t_table])), (a_t_table, .inl (E 2, 4160, .inr (.inl (A8 o_))))] → va_S A s.heap H locs → W p l e rm_X12_solve s m args below meth c H locs 0 0 Q (F0 m 50 ls []) := by
    intro o1_1 ho_ H locs ls hl hP hD hS
    subst ho_
    refine m_iconst X dX12_solve_50 ?_
    obtain rfl := Option.some.inj hr1
    exact ret _ _ _ _ (Or.inl rfl) hP hD hS dX12_solve_51
  have L1 : ∀ (k_ : Nat) (v2_1 : Int) (t_table_l2 : Nat → Int), ∀ (H : Heap) (locs : List Loc) (ls : Array Slot), lv_has ls 9 [(0, .ref a_t), (1, .int (z4 v2_1))] → va_P D vwCl [(a_t, .inr (12, [.ref a_t_now, .ref a_t_read, .ref a_t_past, .int (z4 t_deeds), .ref a_t_images, .ref a_t_isKept, .ref a_t_text, .int (z4 t_letters), .int (z4 t_at), .int (z4 t_tokenAt), .int (z4 t_tokenSort), .int (z4 t_tokenValue), .int (z4 t_items), .int (z4 t_isChanceTold), .int (z4 t_areSumsTold), .ref a_t_metAt, .ref a_t_memoryAt, .ref a_t_upAt, .ref a_t_downAt, .ref a_t_isSignal, .ref a_t_memories, .ref a_t_placeOf, .ref a_t_nextPlace, .int (z4 t_places), .ref a_t_kindOf, .ref a_t_newKind, .int (z4 t_kinds), .ref a_t_stateOfKind, .ref a_t_stateAt, .ref a_t_stepTo, .int (z4 t_states), .ref a_t_far, .ref a_t_ways, .ref a_t_nextWays, .ref a_t_table])), (a_t_table, .inl (E 2, 4160, .inr (.inl (A8 t_table_l2))))] H → va_D A [(a_t, .inr (12, [.ref a_t_now, .ref a_t_read, .ref a_t_past, .int (z4 t_deeds), .ref a_t_images, .ref a_t_isKept, .ref a_t_text, .int (z4 t_letters), .int (z4 t_at), .int (z4 t_tokenAt), .int (z4 t_tokenSort), .int (z4 t_tokenValue), .int (z4 t_items), .int (z4 t_isChanceTold), .int (z4 t_areSumsTold), .ref a_t_metAt, .ref a_t_memoryAt, .ref a_t_upAt, .ref a_t_downAt, .ref a_t_isSignal, .ref a_t_memories, .ref a_t_placeOf, .ref a_t_nextPlace, .int (z4 t_places), .ref a_t_kindOf, .ref a_t_newKind, .int (z4 t_kinds), .ref a_t_stateOfKind, .ref a_t_stateAt, .ref a_t_stepTo, .int (z4 t_states), .ref a_t_far, .ref a_t_ways, .ref a_t_nextWays, .ref a_t_table])), (a_t_table, .inl (E 2, 4160, .inr (.inl (A8 t_table_l2))))] → va_S A s.heap H locs → lp_ (fun (q : Int × (Nat → Int)) => F_X12_solve_L2 n t_states q.1 q.2) k_ (v2_1, t_table_l2) = some o1 → W p l e rm_X12_solve s m args below meth c H locs 0 0 Q (F0 m 2 ls []) := by
    intro k_
    induction k_ with
    | zero =>
      intro v2_1 t_table_l2 H locs ls hl hP hD hS hq_; exact (lp_zero hq_).elim
    | succ k_ ih1 =>
      intro v2_1 t_table_l2 H locs ls hl hP hD hS hq_
      obtain ⟨t_1, hb1, hq1⟩ := lp_some hq_
      replace hb1 : F_X12_solve_L2 n t_states v2_1 t_table_l2 = some t_1 := hb1
      unfold F_X12_solve_L2 at hb1
      refine lv_iload_n hx hb dX12_solve_2 rfl (lv_at hl 1 rfl) ?_
      refine lv_aload_n hx hb dX12_solve_3 rfl (lv_at hl 0 rfl) ?_
      refine m_get X hK hP cl_X12 iT_X12 30 (by decide) fl_X12_200 0 rfl rfl dX12_solve_4 ?_
      obtain ⟨h2, hb1⟩ := ck_some hb1
      refine m_icmp_ge X h2 dX12_solve_7 (tgt := 238) (by decide) (fun (hc_ : ¬ (v2_1 < t_states)) => ?_) (fun (hc_ : v2_1 < t_states) => ?_)
      · rw [if_neg hc_] at hb1
        obtain rfl := Option.some.inj hb1
        exact E1_0 _ (Option.some.inj hq1).symm _ _ _ (lv_sub hl [] rfl) hP hD hS
      · rw [if_pos hc_] at hb1
        refine lv_iload_n hx hb dX12_solve_10 rfl (lv_at hl 1 rfl) ?_
        refine lv_istore_n (lv' := [(2, .int (z4 v2_1)), (0, .ref a_t), (1, .int (z4 v2_1))]) hx hb dX12_solve_11 rfl hl (by decide) rfl (fun ls hl => ?_)
        obtain ⟨o3, hj3, hr3⟩ := bd_some hb1
        have E3_0 : ∀ (o_ : Int), o3 = o_ → ∀ (H : Heap) (locs : List Loc) (ls : Array Slot), lv_has ls 9 [(0, .ref a_t), (1, .int (z4 v2_1)), (2, .int (z4 o_))] → va_P D vwCl [(a_t, .inr (12, [.ref a_t_now, .ref a_t_read, .ref a_t_past, .int (z4 t_deeds), .ref a_t_images, .ref a_t_isKept, .ref a_t_text, .int (z4 t_letters), .int (z4 t_at), .int (z4 t_tokenAt), .int (z4 t_tokenSort), .int (z4 t_tokenValue), .int (z4 t_items), .int (z4 t_isChanceTold), .int (z4 t_areSumsTold), .ref a_t_metAt, .ref a_t_memoryAt, .ref a_t_upAt, .ref a_t_downAt, .ref a_t_isSignal, .ref a_t_memories, .ref a_t_placeOf, .ref a_t_nextPlace, .int (z4 t_places), .ref a_t_kindOf, .ref a_t_newKind, .int (z4 t_kinds), .ref a_t_stateOfKind, .ref a_t_stateAt, .ref a_t_stepTo, .int (z4 t_states), .ref a_t_far, .ref a_t_ways, .ref a_t_nextWays, .ref a_t_table])), (a_t_table, .inl (E 2, 4160, .inr (.inl (A8 t_table_l2))))] H → va_D A [(a_t, .inr (12, [.ref a_t_now, .ref a_t_read, .ref a_t_past, .int (z4 t_deeds), .ref a_t_images, .ref a_t_isKept, .ref a_t_text, .int (z4 t_letters), .int (z4 t_at), .int (z4 t_tokenAt), .int (z4 t_tokenSort), .int (z4 t_tokenValue), .int (z4 t_items), .int (z4 t_isChanceTold), .int (z4 t_areSumsTold), .ref a_t_metAt, .ref a_t_memoryAt, .ref a_t_upAt, .ref a_t_downAt, .ref a_t_isSignal, .ref a_t_memories, .ref a_t_placeOf, .ref a_t_nextPlace, .int (z4 t_places), .ref a_t_kindOf, .ref a_t_newKind, .int (z4 t_kinds), .ref a_t_stateOfKind, .ref a_t_stateAt, .ref a_t_stepTo, .int (z4 t_states), .ref a_t_far, .ref a_t_ways, .ref a_t_nextWays, .ref a_t_table])), (a_t_table, .inl (E 2, 4160, .inr (.inl (A8 t_table_l2))))] → va_S A s.heap H locs → W p l e rm_X12_solve s m args below meth c H locs 0 0 Q (F0 m 42 ls []) := by
          intro o_ ho_ H locs ls hl hP hD hS
          subst ho_
          refine lv_iload_n hx hb dX12_solve_42 rfl (lv_at hl 2 rfl) ?_
          refine lv_aload_n hx hb dX12_solve_43 rfl (lv_at hl 0 rfl) ?_
          refine m_get X hK hP cl_X12 iT_X12 30 (by decide) fl_X12_200 0 rfl rfl dX12_solve_44 ?_
          obtain ⟨h7, hr3⟩ := ck_some hr3
          refine m_icmp_ne X h7 dX12_solve_47 (tgt := 52) (by decide) (fun (hc_ : ¬ (o3 = t_states)) => ?_) (fun (hc_ : o3 = t_states) => ?_)
          · rw [if_neg hc_] at hr3
            refine lv_aload_n hx hb dX12_solve_52 rfl (lv_at hl 0 rfl) ?_
            refine lv_iload_n hx hb dX12_solve_53 rfl (lv_at hl 2 rfl) ?_
            refine lv_iload_n hx hb dX12_solve_54 rfl (lv_at hl 1 rfl) ?_
            obtain ⟨o8, ho, hr3⟩ := bd_some hr3
            refine m_cVW X hK hP hD hS hA (wr := []) (k_X12_change n a_t a_t_now a_t_read a_t_past a_t_images a_t_isKept a_t_text a_t_metAt a_t_memoryAt a_t_upAt a_t_downAt a_t_isSignal a_t_memories a_t_placeOf a_t_nextPlace a_t_kindOf a_t_newKind a_t_stateOfKind a_t_stateAt a_t_stepTo a_t_far a_t_ways a_t_nextWays a_t_table t_deeds t_letters t_at t_tokenAt t_tokenSort t_tokenValue t_items t_isChanceTold t_areSumsTold t_places t_kinds t_states t_table_l2 o3 v2_1 o8 ho) [0, 1] [] [0, 1] [(a_t, .inr (12, [.ref a_t_now, .ref a_t_read, .ref a_t_past, .int (z4 t_deeds), .ref a_t_images, .ref a_t_isKept, .ref a_t_text, .int (z4 t_letters), .int (z4 t_at), .int (z4 t_tokenAt), .int (z4 t_tokenSort), .int (z4 t_tokenValue), .int (z4 t_items), .int (z4 t_isChanceTold), .int (z4 t_areSumsTold), .ref a_t_metAt, .ref a_t_memoryAt, .ref a_t_upAt, .ref a_t_downAt, .ref a_t_isSignal, .ref a_t_memories, .ref a_t_placeOf, .ref a_t_nextPlace, .int (z4 t_places), .ref a_t_kindOf, .ref a_t_newKind, .int (z4 t_kinds), .ref a_t_stateOfKind, .ref a_t_stateAt, .ref a_t_stepTo, .int (z4 t_states), .ref a_t_far, .ref a_t_ways, .ref a_t_nextWays, .ref a_t_table])), (a_t_table, .inl (E 2, 4160, .inr (.inl (A8 o8))))] rfl rfl rfl rfl (by decide) rfl rfl rfl cl_X12 lk_X12_239 co_X12_change dy_X12_change rfl rfl ⟨Nat.le_of_ble_eq_true rfl, Nat.le_of_ble_eq_true rfl⟩ hl.1 rfl (Nat.le_of_ble_eq_true rfl) dX12_solve_55 (Nat.zero_le _) (Nat.zero_le _) (fun H locs hP hD hS => ?_)
            refine lv_aload_n hx hb dX12_solve_58 rfl (lv_at hl 0 rfl) ?_
            refine m_get X hK hP cl_X12 iT_X12 34 (by decide) fl_X12_78 0 rfl rfl dX12_solve_59 ?_
            refine m_bipush X dX12_solve_62 (by decide) ?_
            refine lv_iload_n hx hb dX12_solve_64 rfl (lv_at hl 1 rfl) ?_
            refine m_imul X dX12_solve_65 ?_
            obtain ⟨h9, hr3⟩ := ck_some hr3
            refine m_lald X hK hP 1 rfl (by decide) h9 dX12_solve_66 ?_
            obtain ⟨o10, ho, hr3⟩ := bd_some hr3
            refine m_cSR X hK (k_X12_inverse n (o8 (66 * v2_1).toNat) o10 ho) (hP.sub (ws' := []) [] rfl) lk_X12_243 co_X12_inverse dy_X12_inverse rfl rfl ⟨Nat.le_of_ble_eq_true rfl, Nat.le_of_ble_eq_true rfl⟩ hl.1 rfl (Nat.le_of_ble_eq_true rfl) dX12_solve_67 (Nat.zero_le _) (Nat.zero_le _) ?_
            refine lv_lstore_n (lv' := [(3, .long (z8 o10)), (0, .ref a_t), (1, .int (z4 v2_1)), (2, .int (z4 o3))]) hx hb dX12_solve_70 rfl hl (by decide) rfl (fun ls hl => ?_)
            refine m_iconst X dX12_solve_71 ?_
            refine lv_istore (lv' := [(5, .int (z4 0)), (3, .long (z8 o10)), (0, .ref a_t), (1, .int (z4 v2_1)), (2, .int (z4 o3))]) hx hb dX12_solve_72 hl (by decide) rfl (fun ls hl => ?_)
            obtain ⟨o11, hj11, hr11⟩ := bd_some hr3
            have E11_0 : ∀ (o_ : (Nat → Int)), o11 = o_ → ∀ (H : Heap) (locs : List Loc) (ls : Array Slot), lv_has ls 9 [(0, .ref a_t), (1, .int (z4 v2_1))] → va_P D vwCl [(a_t, .inr (12, [.ref a_t_now, .ref a_t_read, .ref a_t_past, .int (z4 t_deeds), .ref a_t_images, .ref a_t_isKept, .ref a_t_text, .int (z4 t_letters), .int (z4 t_at), .int (z4 t_tokenAt), .int (z4 t_tokenSort), .int (z4 t_tokenValue), .int (z4 t_items), .int (z4 t_isChanceTold), .int (z4 t_areSumsTold), .ref a_t_metAt, .ref a_t_memoryAt, .ref a_t_upAt, .ref a_t_downAt, .ref a_t_isSignal, .ref a_t_memories, .ref a_t_placeOf, .ref a_t_nextPlace, .int (z4 t_places), .ref a_t_kindOf, .ref a_t_newKind, .int (z4 t_kinds), .ref a_t_stateOfKind, .ref a_t_stateAt, .ref a_t_stepTo, .int (z4 t_states), .ref a_t_far, .ref a_t_ways, .ref a_t_nextWays, .ref a_t_table])), (a_t_table, .inl (E 2, 4160, .inr (.inl (A8 o_))))] H → va_D A [(a_t, .inr (12, [.ref a_t_now, .ref a_t_read, .ref a_t_past, .int (z4 t_deeds), .ref a_t_images, .ref a_t_isKept, .ref a_t_text, .int (z4 t_letters), .int (z4 t_at), .int (z4 t_tokenAt), .int (z4 t_tokenSort), .int (z4 t_tokenValue), .int (z4 t_items), .int (z4 t_isChanceTold), .int (z4 t_areSumsTold), .ref a_t_metAt, .ref a_t_memoryAt, .ref a_t_upAt, .ref a_t_downAt, .ref a_t_isSignal, .ref a_t_memories, .ref a_t_placeOf, .ref a_t_nextPlace, .int (z4 t_places), .ref a_t_kindOf, .ref a_t_newKind, .int (z4 t_kinds), .ref a_t_stateOfKind, .ref a_t_stateAt, .ref a_t_stepTo, .int (z4 t_states), .ref a_t_far, .ref a_t_ways, .ref a_t_nextWays, .ref a_t_table])), (a_t_table, .inl (E 2, 4160, .inr (.inl (A8 o_))))] → va_S A s.heap H locs → W p l e rm_X12_solve s m args below meth c H locs 0 0 Q (F0 m 117 ls []) := by
              intro o_ ho_ H locs ls hl hP hD hS
              subst ho_
              refine m_iconst X dX12_solve_117 ?_
              refine lv_istore (lv' := [(5, .int (z4 0)), (0, .ref a_t), (1, .int (z4 v2_1))]) hx hb dX12_solve_118 hl (by decide) rfl (fun ls hl => ?_)
              obtain ⟨o16, hj16, hr16⟩ := bd_some hr11
              have E16_0 : ∀ (o_ : (Nat → Int)), o16 = o_ → ∀ (H : Heap) (locs : List Loc) (ls : Array Slot), lv_has ls 9 [(0, .ref a_t), (1, .int (z4 v2_1))] → va_P D vwCl [(a_t, .inr (12, [.ref a_t_now, .ref a_t_read, .ref a_t_past, .int (z4 t_deeds), .ref a_t_images, .ref a_t_isKept, .ref a_t_text, .int (z4 t_letters), .int (z4 t_at), .int (z4 t_tokenAt), .int (z4 t_tokenSort), .int (z4 t_tokenValue), .int (z4 t_items), .int (z4 t_isChanceTold), .int (z4 t_areSumsTold), .ref a_t_metAt, .ref a_t_memoryAt, .ref a_t_upAt, .ref a_t_downAt, .ref a_t_isSignal, .ref a_t_memories, .ref a_t_placeOf, .ref a_t_nextPlace, .int (z4 t_places), .ref a_t_kindOf, .ref a_t_newKind, .int (z4 t_kinds), .ref a_t_stateOfKind, .ref a_t_stateAt, .ref a_t_stepTo, .int (z4 t_states), .ref a_t_far, .ref a_t_ways, .ref a_t_nextWays, .ref a_t_table])), (a_t_table, .inl (E 2, 4160, .inr (.inl (A8 o_))))] H → va_D A [(a_t, .inr (12, [.ref a_t_now, .ref a_t_read, .ref a_t_past, .int (z4 t_deeds), .ref a_t_images, .ref a_t_isKept, .ref a_t_text, .int (z4 t_letters), .int (z4 t_at), .int (z4 t_tokenAt), .int (z4 t_tokenSort), .int (z4 t_tokenValue), .int (z4 t_items), .int (z4 t_isChanceTold), .int (z4 t_areSumsTold), .ref a_t_metAt, .ref a_t_memoryAt, .ref a_t_upAt, .ref a_t_downAt, .ref a_t_isSignal, .ref a_t_memories, .ref a_t_placeOf, .ref a_t_nextPlace, .int (z4 t_places), .ref a_t_kindOf, .ref a_t_newKind, .int (z4 t_kinds), .ref a_t_stateOfKind, .ref a_t_stateAt, .ref a_t_stepTo, .int (z4 t_states), .ref a_t_far, .ref a_t_ways, .ref a_t_nextWays, .ref a_t_table])), (a_t_table, .inl (E 2, 4160, .inr (.inl (A8 o_))))] → va_S A s.heap H locs → W p l e rm_X12_solve s m args below meth c H locs 0 0 Q (F0 m 232 ls []) := by
                intro o_ ho_ H locs ls hl hP hD hS
                subst ho_
                refine m_iinc X 1 [(1, .int (z4 (v2_1 + 1))), (0, .ref a_t)] dX12_solve_232 hl rfl (by decide) rfl (fun ls hl => ?_)
                refine lv_goto (tgt := 2) hx hb dX12_solve_235 (by decide) ?_
                obtain rfl := Option.some.inj hr16
                exact ih1 _ _ _ _ _ (lv_sub hl [1, 0] rfl) hP hD hS hq1
              have L16 : ∀ (k_ : Nat) (v120_5 : Int) (t_table_l120 : Nat → Int), ∀ (H : Heap) (locs : List Loc) (ls : Array Slot), lv_has ls 9 [(0, .ref a_t), (1, .int (z4 v2_1)), (5, .int (z4 v120_5))] → va_P D vwCl [(a_t, .inr (12, [.ref a_t_now, .ref a_t_read, .ref a_t_past, .int (z4 t_deeds), .ref a_t_images, .ref a_t_isKept, .ref a_t_text, .int (z4 t_letters), .int (z4 t_at), .int (z4 t_tokenAt), .int (z4 t_tokenSort), .int (z4 t_tokenValue), .int (z4 t_items), .int (z4 t_isChanceTold), .int (z4 t_areSumsTold), .ref a_t_metAt, .ref a_t_memoryAt, .ref a_t_upAt, .ref a_t_downAt, .ref a_t_isSignal, .ref a_t_memories, .ref a_t_placeOf, .ref a_t_nextPlace, .int (z4 t_places), .ref a_t_kindOf, .ref a_t_newKind, .int (z4 t_kinds), .ref a_t_stateOfKind, .ref a_t_stateAt, .ref a_t_stepTo, .int (z4 t_states), .ref a_t_far, .ref a_t_ways, .ref a_t_nextWays, .ref a_t_table])), (a_t_table, .inl (E 2, 4160, .inr (.inl (A8 t_table_l120))))] H → va_D A [(a_t, .inr (12, [.ref a_t_now, .ref a_t_read, .ref a_t_past, .int (z4 t_deeds), .ref a_t_images, .ref a_t_isKept, .ref a_t_text, .int (z4 t_letters), .int (z4 t_at), .int (z4 t_tokenAt), .int (z4 t_tokenSort), .int (z4 t_tokenValue), .int (z4 t_items), .int (z4 t_isChanceTold), .int (z4 t_areSumsTold), .ref a_t_metAt, .ref a_t_memoryAt, .ref a_t_upAt, .ref a_t_downAt, .ref a_t_isSignal, .ref a_t_memories, .ref a_t_placeOf, .ref a_t_nextPlace, .int (z4 t_places), .ref a_t_kindOf, .ref a_t_newKind, .int (z4 t_kinds), .ref a_t_stateOfKind, .ref a_t_stateAt, .ref a_t_stepTo, .int (z4 t_states), .ref a_t_far, .ref a_t_ways, .ref a_t_nextWays, .ref a_t_table])), (a_t_table, .inl (E 2, 4160, .inr (.inl (A8 t_table_l120))))] → va_S A s.heap H locs → lp_ (fun (q : Int × (Nat → Int)) => F_X12_solve_L120 n t_states v2_1 q.1 q.2) k_ (v120_5, t_table_l120) = some o16 → W p l e rm_X12_solve s m args below meth c H locs 0 0 Q (F0 m 120 ls []) := by
                intro k_
                induction k_ with
                | zero =>
                  intro v120_5 t_table_l120 H locs ls hl hP hD hS hq_; exact (lp_zero hq_).elim
                | succ k_ ih16 =>
                  intro v120_5 t_table_l120 H locs ls hl hP hD hS hq_
                  obtain ⟨t_16, hb16, hq16⟩ := lp_some hq_
                  replace hb16 : F_X12_solve_L120 n t_states v2_1 v120_5 t_table_l120 = some t_16 := hb16
                  unfold F_X12_solve_L120 at hb16
                  refine lv_iload hx hb dX12_solve_120 (lv_at hl 2 rfl) ?_
                  refine lv_aload_n hx hb dX12_solve_122 rfl (lv_at hl 0 rfl) ?_
                  refine m_get X hK hP cl_X12 iT_X12 30 (by decide) fl_X12_200 0 rfl rfl dX12_solve_123 ?_
                  obtain ⟨h17, hb16⟩ := ck_some hb16
                  refine m_icmp_ge X h17 dX12_solve_126 (tgt := 232) (by decide) (fun (hc_ : ¬ (v120_5 < t_states)) => ?_) (fun (hc_ : v120_5 < t_states) => ?_)
                  · rw [if_neg hc_] at hb16
                    obtain rfl := Option.some.inj hb16
                    exact E16_0 _ (Option.some.inj hq16).symm _ _ _ (lv_sub hl [0, 1] rfl) hP hD hS
                  · rw [if_pos hc_] at hb16
                    refine lv_iload hx hb dX12_solve_129 (lv_at hl 2 rfl) ?_
                    refine lv_iload_n hx hb dX12_solve_131 rfl (lv_at hl 1 rfl) ?_
                    obtain ⟨o18, hj18, hr18⟩ := bd_some hb16
                    have J18 : ∀ (o_ : Int), o18 = o_ → ∀ (H : Heap) (locs : List Loc) (ls : Array Slot), lv_has ls 9 [(0, .ref a_t), (1, .int (z4 v2_1)), (5, .int (z4 v120_5))] → va_P D vwCl [(a_t, .inr (12, [.ref a_t_now, .ref a_t_read, .ref a_t_past, .int (z4 t_deeds), .ref a_t_images, .ref a_t_isKept, .ref a_t_text, .int (z4 t_letters), .int (z4 t_at), .int (z4 t_tokenAt), .int (z4 t_tokenSort), .int (z4 t_tokenValue), .int (z4 t_items), .int (z4 t_isChanceTold), .int (z4 t_areSumsTold), .ref a_t_metAt, .ref a_t_memoryAt, .ref a_t_upAt, .ref a_t_downAt, .ref a_t_isSignal, .ref a_t_memories, .ref a_t_placeOf, .ref a_t_nextPlace, .int (z4 t_places), .ref a_t_kindOf, .ref a_t_newKind, .int (z4 t_kinds), .ref a_t_stateOfKind, .ref a_t_stateAt, .ref a_t_stepTo, .int (z4 t_states), .ref a_t_far, .ref a_t_ways, .ref a_t_nextWays, .ref a_t_table])), (a_t_table, .inl (E 2, 4160, .inr (.inl (A8 t_table_l120))))] H → va_D A [(a_t, .inr (12, [.ref a_t_now, .ref a_t_read, .ref a_t_past, .int (z4 t_deeds), .ref a_t_images, .ref a_t_isKept, .ref a_t_text, .int (z4 t_letters), .int (z4 t_at), .int (z4 t_tokenAt), .int (z4 t_tokenSort), .int (z4 t_tokenValue), .int (z4 t_items), .int (z4 t_isChanceTold), .int (z4 t_areSumsTold), .ref a_t_metAt, .ref a_t_memoryAt, .ref a_t_upAt, .ref a_t_downAt, .ref a_t_isSignal, .ref a_t_memories, .ref a_t_placeOf, .ref a_t_nextPlace, .int (z4 t_places), .ref a_t_kindOf, .ref a_t_newKind, .int (z4 t_kinds), .ref a_t_stateOfKind, .ref a_t_stateAt, .ref a_t_stepTo, .int (z4 t_states), .ref a_t_far, .ref a_t_ways, .ref a_t_nextWays, .ref a_t_table])), (a_t_table, .inl (E 2, 4160, .inr (.inl (A8 t_table_l120))))] → va_S A s.heap H locs → W p l e rm_X12_solve s m args below meth c H locs 0 0 Q (F0 m 151 ls [.long (z8 o_)]) := by
                      intro o_ ho_ H locs ls hl hP hD hS
                      subst ho_
                      refine lv_lstore (lv' := [(6, .long (z8 o18)), (0, .ref a_t), (1, .int (z4 v2_1)), (5, .int (z4 v120_5))]) hx hb dX12_solve_151 hl (by decide) rfl (fun ls hl => ?_)
                      refine m_iconst X dX12_solve_153 ?_
                      refine lv_istore (lv' := [(8, .int (z4 0)), (6, .long (z8 o18)), (0, .ref a_t), (1, .int (z4 v2_1)), (5, .int (z4 v120_5))]) hx hb dX12_solve_154 hl (by decide) rfl (fun ls hl => ?_)
                      obtain ⟨o21, hj21, hr21⟩ := bd_some hr18
                      have E21_0 : ∀ (o_ : (Nat → Int)), o21 = o_ → ∀ (H : Heap) (locs : List Loc) (ls : Array Slot), lv_has ls 9 [(0, .ref a_t), (1, .int (z4 v2_1)), (5, .int (z4 v120_5))] → va_P D vwCl [(a_t, .inr (12, [.ref a_t_now, .ref a_t_read, .ref a_t_past, .int (z4 t_deeds), .ref a_t_images, .ref a_t_isKept, .ref a_t_text, .int (z4 t_letters), .int (z4 t_at), .int (z4 t_tokenAt), .int (z4 t_tokenSort), .int (z4 t_tokenValue), .int (z4 t_items), .int (z4 t_isChanceTold), .int (z4 t_areSumsTold), .ref a_t_metAt, .ref a_t_memoryAt, .ref a_t_upAt, .ref a_t_downAt, .ref a_t_isSignal, .ref a_t_memories, .ref a_t_placeOf, .ref a_t_nextPlace, .int (z4 t_places), .ref a_t_kindOf, .ref a_t_newKind, .int (z4 t_kinds), .ref a_t_stateOfKind, .ref a_t_stateAt, .ref a_t_stepTo, .int (z4 t_states), .ref a_t_far, .ref a_t_ways, .ref a_t_nextWays, .ref a_t_table])), (a_t_table, .inl (E 2, 4160, .inr (.inl (A8 o_))))] H → va_D A [(a_t, .inr (12, [.ref a_t_now, .ref a_t_read, .ref a_t_past, .int (z4 t_deeds), .ref a_t_images, .ref a_t_isKept, .ref a_t_text, .int (z4 t_letters), .int (z4 t_at), .int (z4 t_tokenAt), .int (z4 t_tokenSort), .int (z4 t_tokenValue), .int (z4 t_items), .int (z4 t_isChanceTold), .int (z4 t_areSumsTold), .ref a_t_metAt, .ref a_t_memoryAt, .ref a_t_upAt, .ref a_t_downAt, .ref a_t_isSignal, .ref a_t_memories, .ref a_t_placeOf, .ref a_t_nextPlace, .int (z4 t_places), .ref a_t_kindOf, .ref a_t_newKind, .int (z4 t_kinds), .ref a_t_stateOfKind, .ref a_t_stateAt, .ref a_t_stepTo, .int (z4 t_states), .ref a_t_far, .ref a_t_ways, .ref a_t_nextWays, .ref a_t_table])), (a_t_table, .inl (E 2, 4160, .inr (.inl (A8 o_))))] → va_S A s.heap H locs → W p l e rm_X12_solve s m args below meth c H locs 0 0 Q (F0 m 226 ls []) := by
                        intro o_ ho_ H locs ls hl hP hD hS
                        subst ho_
                        refine m_iinc X 2 [(5, .int (z4 (v120_5 + 1))), (0, .ref a_t), (1, .int (z4 v2_1))] dX12_solve_226 hl rfl (by decide) rfl (fun ls hl => ?_)
                        refine lv_goto (tgt := 120) hx hb dX12_solve_229 (by decide) ?_
                        obtain rfl := Option.some.inj hr21
                        exact ih16 _ _ _ _ _ (lv_sub hl [1, 2, 0] rfl) hP hD hS hq16
                      have L21 : ∀ (k_ : Nat) (v156_8 : Int) (t_table_l156 : Nat → Int), ∀ (H : Heap) (locs : List Loc) (ls : Array Slot), lv_has ls 9 [(0, .ref a_t), (1, .int (z4 v2_1)), (5, .int (z4 v120_5)), (6, .long (z8 o18)), (8, .int (z4 v156_8))] → va_P D vwCl [(a_t, .inr (12, [.ref a_t_now, .ref a_t_read, .ref a_t_past, .int (z4 t_deeds), .ref a_t_images, .ref a_t_isKept, .ref a_t_text, .int (z4 t_letters), .int (z4 t_at), .int (z4 t_tokenAt), .int (z4 t_tokenSort), .int (z4 t_tokenValue), .int (z4 t_items), .int (z4 t_isChanceTold), .int (z4 t_areSumsTold), .ref a_t_metAt, .ref a_t_memoryAt, .ref a_t_upAt, .ref a_t_downAt, .ref a_t_isSignal, .ref a_t_memories, .ref a_t_placeOf, .ref a_t_nextPlace, .int (z4 t_places), .ref a_t_kindOf, .ref a_t_newKind, .int (z4 t_kinds), .ref a_t_stateOfKind, .ref a_t_stateAt, .ref a_t_stepTo, .int (z4 t_states), .ref a_t_far, .ref a_t_ways, .ref a_t_nextWays, .ref a_t_table])), (a_t_table, .inl (E 2, 4160, .inr (.inl (A8 t_table_l156))))] H → va_D A [(a_t, .inr (12, [.ref a_t_now, .ref a_t_read, .ref a_t_past, .int (z4 t_deeds), .ref a_t_images, .ref a_t_isKept, .ref a_t_text, .int (z4 t_letters), .int (z4 t_at), .int (z4 t_tokenAt), .int (z4 t_tokenSort), .int (z4 t_tokenValue), .int (z4 t_items), .int (z4 t_isChanceTold), .int (z4 t_areSumsTold), .ref a_t_metAt, .ref a_t_memoryAt, .ref a_t_upAt, .ref a_t_downAt, .ref a_t_isSignal, .ref a_t_memories, .ref a_t_placeOf, .ref a_t_nextPlace, .int (z4 t_places), .ref a_t_kindOf, .ref a_t_newKind, .int (z4 t_kinds), .ref a_t_stateOfKind, .ref a_t_stateAt, .ref a_t_stepTo, .int (z4 t_states), .ref a_t_far, .ref a_t_ways, .ref a_t_nextWays, .ref a_t_table])), (a_t_table, .inl (E 2, 4160, .inr (.inl (A8 t_table_l156))))] → va_S A s.heap H locs → lp_ (fun (q : Int × (Nat → Int)) => F_X12_solve_L156 n o18 v120_5 v2_1 q.1 q.2) k_ (v156_8, t_table_l156) = some o21 → W p l e rm_X12_solve s m args below meth c H locs 0 0 Q (F0 m 156 ls []) := by
                        intro k_
                        induction k_ with
                        | zero =>
                          intro v156_8 t_table_l156 H locs ls hl hP hD hS hq_; exact (lp_zero hq_).elim
                        | succ k_ ih21 =>
                          intro v156_8 t_table_l156 H locs ls hl hP hD hS hq_
                          obtain ⟨t_21, hb21, hq21⟩ := lp_some hq_
                          replace hb21 : F_X12_solve_L156 n o18 v120_5 v2_1 v156_8 t_table_l156 = some t_21 := hb21
                          unfold F_X12_solve_L156 at hb21
                          refine lv_iload hx hb dX12_solve_156 (lv_at hl 4 rfl) ?_
                          refine m_bipush X dX12_solve_158 (by decide) ?_
                          obtain ⟨h22, hb21⟩ := ck_some hb21
                          refine m_icmp_ge X ⟨h22, ⟨by decide, by decide⟩⟩ dX12_solve_160 (tgt := 226) (by decide) (fun (hc_ : ¬ (v156_8 < 65)) => ?_) (fun (hc_ : v156_8 < 65) => ?_)
                          · rw [if_neg hc_] at hb21
                            obtain rfl := Option.some.inj hb21
                            exact E21_0 _ (Option.some.inj hq21).symm _ _ _ (lv_sub hl [0, 1, 2] rfl) hP hD hS
                          · rw [if_pos hc_] at hb21
                            refine lv_lload hx hb dX12_solve_163 (lv_at hl 3 rfl) ?_
                            refine m_lconst X 0 rfl dX12_solve_165 ?_
                            obtain ⟨h23, hb21⟩ := ck_some hb21
                            refine m_lcmp_eq X ⟨h23, ⟨by decide, by decide⟩⟩ dX12_solve_166 dX12_solve_167 (tgt := 226) (by decide) (fun (hc_ : o18 = 0) => ?_) (fun (hc_ : ¬ (o18 = 0)) => ?_)
                            · rw [if_pos hc_] at hb21
                              obtain rfl := Option.some.inj hb21
                              exact E21_0 _ (Option.some.inj hq21).symm _ _ _ (lv_sub hl [0, 1, 2] rfl) hP hD hS
                            · rw [if_neg hc_] at hb21
                              refine lv_aload_n hx hb dX12_solve_170 rfl (lv_at hl 0 rfl) ?_
                              refine m_get X hK hP cl_X12 iT_X12 34 (by decide) fl_X12_78 0 rfl rfl dX12_solve_171 ?_
                              refine m_bipush X dX12_solve_174 (by decide) ?_
                              refine lv_iload hx hb dX12_solve_176 (lv_at hl 2 rfl) ?_
                              refine m_imul X dX12_solve_178 ?_
                              refine lv_iload hx hb dX12_solve_179 (lv_at hl 4 rfl) ?_
                              refine m_iadd X dX12_solve_181 ?_
                              refine lv_aload_n hx hb dX12_solve_182 rfl (lv_at hl 0 rfl) ?_
                              refine m_get X hK hP cl_X12 iT_X12 34 (by decide) fl_X12_78 0 rfl rfl dX12_solve_183 ?_
                              refine m_bipush X dX12_solve_186 (by decide) ?_
                              refine lv_iload hx hb dX12_solve_188 (lv_at hl 2 rfl) ?_
                              refine m_imul X dX12_solve_190 ?_
                              refine lv_iload hx hb dX12_solve_191 (lv_at hl 4 rfl) ?_
                              refine m_iadd X dX12_solve_193 ?_
                              obtain ⟨h24, hb21⟩ := ck_some hb21
                              refine m_lald X hK hP 1 rfl (by decide) h24 dX12_solve_194 ?_
                              refine m_ldc2 X 1000003 co_X12_237 dX12_solve_195 ?_
                              refine lv_lload hx hb dX12_solve_198 (lv_at hl 3 rfl) ?_
                              refine m_lsub X dX12_solve_200 ?_
                              refine lv_aload_n hx hb dX12_solve_201 rfl (lv_at hl 0 rfl) ?_
                              refine m_get X hK hP cl_X12 iT_X12 34 (by decide) fl_X12_78 0 rfl rfl dX12_solve_202 ?_
                              refine m_bipush X dX12_solve_205 (by decide) ?_
                              refine lv_iload_n hx hb dX12_solve_207 rfl (lv_at hl 1 rfl) ?_
                              refine m_imul X dX12_solve_208 ?_
                              refine lv_iload hx hb dX12_solve_209 (lv_at hl 4 rfl) ?_
                              refine m_iadd X dX12_solve_211 ?_
                              obtain ⟨h25, hb21⟩ := ck_some hb21
                              refine m_lald X hK hP 1 rfl (by decide) h25 dX12_solve_212 ?_
                              refine m_lmul X dX12_solve_213 ?_
                              refine m_ladd X dX12_solve_214 ?_
                              refine m_ldc2 X 1000003 co_X12_237 dX12_solve_215 ?_
                              obtain ⟨h26, hb21⟩ := ck_some hb21
                              refine m_lrem X h26 dX12_solve_218 ?_
                              obtain ⟨h27, hb21⟩ := ck_some hb21
                              refine m_last X hK hP hD hS 1 rfl (by decide) h27 [(a_t, .inr (12, [.ref a_t_now, .ref a_t_read, .ref a_t_past, .int (z4 t_deeds), .ref a_t_images, .ref a_t_isKept, .ref a_t_text, .int (z4 t_letters), .int (z4 t_at), .int (z4 t_tokenAt), .int (z4 t_tokenSort), .int (z4 t_tokenValue), .int (z4 t_items), .int (z4 t_isChanceTold), .int (z4 t_areSumsTold), .ref a_t_metAt, .ref a_t_memoryAt, .ref a_t_upAt, .ref a_t_downAt, .ref a_t_isSignal, .ref a_t_memories, .ref a_t_placeOf, .ref a_t_nextPlace, .int (z4 t_places), .ref a_t_kindOf, .ref a_t_newKind, .int (z4 t_kinds), .ref a_t_stateOfKind, .ref a_t_stateAt, .ref a_t_stepTo, .int (z4 t_states), .ref a_t_far, .ref a_t_ways, .ref a_t_nextWays, .ref a_t_table])), (a_t_table, .inl (E 2, 4160, .inr (.inl (A8 (up_ t_table_l156 ((65 * v120_5) + v156_8).toNat (((t_table_l156 ((65 * v120_5) + v156_8).toNat) + ((1000003 - o18) * (t_table_l156 ((65 * v2_1) + v156_8).toNat))) % 1000003))))))] rfl dX12_solve_219 (fun H locs hP hD hS => ?_)
                              refine m_iinc X 4 [(8, .int (z4 (v156_8 + 1))), (0, .ref a_t), (1, .int (z4 v2_1)), (5, .int (z4 v120_5)), (6, .long (z8 o18))] dX12_solve_220 hl rfl (by decide) rfl (fun ls hl => ?_)
                              refine lv_goto (tgt := 156) hx hb dX12_solve_223 (by decide) ?_
                              obtain rfl := Option.some.inj hb21
                              exact ih21 _ _ _ _ _ (lv_sub hl [1, 2, 3, 4, 0] rfl) hP hD hS hq21
                      exact L21 n _ _ _ _ _ (lv_sub hl [2, 3, 4, 1, 0] rfl) hP hD hS hj21
                    obtain ⟨h19, hj18⟩ := ck_some hj18
                    refine m_icmp_ne X h19 dX12_solve_132 (tgt := 139) (by decide) (fun (hc_ : ¬ (v120_5 = v2_1)) => ?_) (fun (hc_ : v120_5 = v2_1) => ?_)
                    · rw [if_neg hc_] at hj18
                      refine lv_aload_n hx hb dX12_solve_139 rfl (lv_at hl 0 rfl) ?_
                      refine m_get X hK hP cl_X12 iT_X12 34 (by decide) fl_X12_78 0 rfl rfl dX12_solve_140 ?_
                      refine m_bipush X dX12_solve_143 (by decide) ?_
                      refine lv_iload hx hb dX12_solve_145 (lv_at hl 2 rfl) ?_
                      refine m_imul X dX12_solve_147 ?_
                      refine lv_iload_n hx hb dX12_solve_148 rfl (lv_at hl 1 rfl) ?_
                      refine m_iadd X dX12_solve_149 ?_
                      obtain ⟨h20, hj18⟩ := ck_some hj18
                      refine m_lald X hK hP 1 rfl (by decide) h20 dX12_solve_150 ?_
                      exact J18 _ (Option.some.inj hj18).symm _ _ _ (lv_sub hl [0, 1, 2] rfl) hP hD hS
                    · rw [if_pos hc_] at hj18
                      refine m_lconst X 0 rfl dX12_solve_135 ?_
                      refine lv_goto (tgt := 151) hx hb dX12_solve_136 (by decide) ?_
                      exact J18 _ (Option.some.inj hj18).symm _ _ _ (lv_sub hl [0, 1, 2] rfl) hP hD hS
              exact L16 n _ _ _ _ _ (lv_sub hl [1, 2, 0] rfl) hP hD hS hj16
            have L11 : ∀ (k_ : Nat) (v74_5 : Int) (t_table_l74 : Nat → Int), ∀ (H : Heap) (locs : List Loc) (ls : Array Slot), lv_has ls 9 [(0, .ref a_t), (1, .int (z4 v2_1)), (3, .long (z8 o10)), (5, .int (z4 v74_5))] → va_P D vwCl [(a_t, .inr (12, [.ref a_t_now, .ref a_t_read, .ref a_t_past, .int (z4 t_deeds), .ref a_t_images, .ref a_t_isKept, .ref a_t_text, .int (z4 t_letters), .int (z4 t_at), .int (z4 t_tokenAt), .int (z4 t_tokenSort), .int (z4 t_tokenValue), .int (z4 t_items), .int (z4 t_isChanceTold), .int (z4 t_areSumsTold), .ref a_t_metAt, .ref a_t_memoryAt, .ref a_t_upAt, .ref a_t_downAt, .ref a_t_isSignal, .ref a_t_memories, .ref a_t_placeOf, .ref a_t_nextPlace, .int (z4 t_places), .ref a_t_kindOf, .ref a_t_newKind, .int (z4 t_kinds), .ref a_t_stateOfKind, .ref a_t_stateAt, .ref a_t_stepTo, .int (z4 t_states), .ref a_t_far, .ref a_t_ways, .ref a_t_nextWays, .ref a_t_table])), (a_t_table, .inl (E 2, 4160, .inr (.inl (A8 t_table_l74))))] H → va_D A [(a_t, .inr (12, [.ref a_t_now, .ref a_t_read, .ref a_t_past, .int (z4 t_deeds), .ref a_t_images, .ref a_t_isKept, .ref a_t_text, .int (z4 t_letters), .int (z4 t_at), .int (z4 t_tokenAt), .int (z4 t_tokenSort), .int (z4 t_tokenValue), .int (z4 t_items), .int (z4 t_isChanceTold), .int (z4 t_areSumsTold), .ref a_t_metAt, .ref a_t_memoryAt, .ref a_t_upAt, .ref a_t_downAt, .ref a_t_isSignal, .ref a_t_memories, .ref a_t_placeOf, .ref a_t_nextPlace, .int (z4 t_places), .ref a_t_kindOf, .ref a_t_newKind, .int (z4 t_kinds), .ref a_t_stateOfKind, .ref a_t_stateAt, .ref a_t_stepTo, .int (z4 t_states), .ref a_t_far, .ref a_t_ways, .ref a_t_nextWays, .ref a_t_table])), (a_t_table, .inl (E 2, 4160, .inr (.inl (A8 t_table_l74))))] → va_S A s.heap H locs → lp_ (fun (q : Int × (Nat → Int)) => F_X12_solve_L74 n v2_1 o10 q.1 q.2) k_ (v74_5, t_table_l74) = some o11 → W p l e rm_X12_solve s m args below meth c H locs 0 0 Q (F0 m 74 ls []) := by
              intro k_
              induction k_ with
              | zero =>
                intro v74_5 t_table_l74 H locs ls hl hP hD hS hq_; exact (lp_zero hq_).elim
              | succ k_ ih11 =>
                intro v74_5 t_table_l74 H locs ls hl hP hD hS hq_
                obtain ⟨t_11, hb11, hq11⟩ := lp_some hq_
                replace hb11 : F_X12_solve_L74 n v2_1 o10 v74_5 t_table_l74 = some t_11 := hb11
                unfold F_X12_solve_L74 at hb11
                refine lv_iload hx hb dX12_solve_74 (lv_at hl 3 rfl) ?_
                refine m_bipush X dX12_solve_76 (by decide) ?_
                obtain ⟨h12, hb11⟩ := ck_some hb11
                refine m_icmp_ge X ⟨h12, ⟨by decide, by decide⟩⟩ dX12_solve_78 (tgt := 117) (by decide) (fun (hc_ : ¬ (v74_5 < 65)) => ?_) (fun (hc_ : v74_5 < 65) => ?_)
                · rw [if_neg hc_] at hb11
                  obtain rfl := Option.some.inj hb11
                  exact E11_0 _ (Option.some.inj hq11).symm _ _ _ (lv_sub hl [0, 1] rfl) hP hD hS
                · rw [if_pos hc_] at hb11
                  refine lv_aload_n hx hb dX12_solve_81 rfl (lv_at hl 0 rfl) ?_
                  refine m_get X hK hP cl_X12 iT_X12 34 (by decide) fl_X12_78 0 rfl rfl dX12_solve_82 ?_
                  refine m_bipush X dX12_solve_85 (by decide) ?_
                  refine lv_iload_n hx hb dX12_solve_87 rfl (lv_at hl 1 rfl) ?_
                  refine m_imul X dX12_solve_88 ?_
                  refine lv_iload hx hb dX12_solve_89 (lv_at hl 3 rfl) ?_
                  refine m_iadd X dX12_solve_91 ?_
                  refine lv_aload_n hx hb dX12_solve_92 rfl (lv_at hl 0 rfl) ?_
                  refine m_get X hK hP cl_X12 iT_X12 34 (by decide) fl_X12_78 0 rfl rfl dX12_solve_93 ?_
                  refine m_bipush X dX12_solve_96 (by decide) ?_
                  refine lv_iload_n hx hb dX12_solve_98 rfl (lv_at hl 1 rfl) ?_
                  refine m_imul X dX12_solve_99 ?_
                  refine lv_iload hx hb dX12_solve_100 (lv_at hl 3 rfl) ?_
                  refine m_iadd X dX12_solve_102 ?_
                  obtain ⟨h13, hb11⟩ := ck_some hb11
                  refine m_lald X hK hP 1 rfl (by decide) h13 dX12_solve_103 ?_
                  refine lv_lload_n hx hb dX12_solve_104 rfl (lv_at hl 2 rfl) ?_
                  refine m_lmul X dX12_solve_105 ?_
                  refine m_ldc2 X 1000003 co_X12_237 dX12_solve_106 ?_
                  obtain ⟨h14, hb11⟩ := ck_some hb11
                  refine m_lrem X h14 dX12_solve_109 ?_
                  obtain ⟨h15, hb11⟩ := ck_some hb11
                  refine m_last X hK hP hD hS 1 rfl (by decide) h15 [(a_t, .inr (12, [.ref a_t_now, .ref a_t_read, .ref a_t_past, .int (z4 t_deeds), .ref a_t_images, .ref a_t_isKept, .ref a_t_text, .int (z4 t_letters), .int (z4 t_at), .int (z4 t_tokenAt), .int (z4 t_tokenSort), .int (z4 t_tokenValue), .int (z4 t_items), .int (z4 t_isChanceTold), .int (z4 t_areSumsTold), .ref a_t_metAt, .ref a_t_memoryAt, .ref a_t_upAt, .ref a_t_downAt, .ref a_t_isSignal, .ref a_t_memories, .ref a_t_placeOf, .ref a_t_nextPlace, .int (z4 t_places), .ref a_t_kindOf, .ref a_t_newKind, .int (z4 t_kinds), .ref a_t_stateOfKind, .ref a_t_stateAt, .ref a_t_stepTo, .int (z4 t_states), .ref a_t_far, .ref a_t_ways, .ref a_t_nextWays, .ref a_t_table])), (a_t_table, .inl (E 2, 4160, .inr (.inl (A8 (up_ t_table_l74 ((65 * v2_1) + v74_5).toNat (((t_table_l74 ((65 * v2_1) + v74_5).toNat) * o10) % 1000003))))))] rfl dX12_solve_110 (fun H locs hP hD hS => ?_)
                  refine m_iinc X 3 [(5, .int (z4 (v74_5 + 1))), (0, .ref a_t), (1, .int (z4 v2_1)), (3, .long (z8 o10))] dX12_solve_111 hl rfl (by decide) rfl (fun ls hl => ?_)
                  refine lv_goto (tgt := 74) hx hb dX12_solve_114 (by decide) ?_
                  obtain rfl := Option.some.inj hb11
                  exact ih11 _ _ _ _ _ (lv_sub hl [1, 2, 3, 0] rfl) hP hD hS hq11
            exact L11 n _ _ _ _ _ (lv_sub hl [2, 3, 1, 0] rfl) hP hD hS hj11
          · rw [if_pos hc_] at hr3
            obtain rfl := Option.some.inj hr3
            exact E1_1 _ (Option.some.inj hq1).symm _ _ _ (lv_sub hl [] rfl) hP hD hS
        have L3 : ∀ (k_ : Nat) (v12_2 : Int), ∀ (H : Heap) (locs : List Loc) (ls : Array Slot), lv_has ls 9 [(0, .ref a_t), (1, .int (z4 v2_1)), (2, .int (z4 v12_2))] → va_P D vwCl [(a_t, .inr (12, [.ref a_t_now, .ref a_t_read, .ref a_t_past, .int (z4 t_deeds), .ref a_t_images, .ref a_t_isKept, .ref a_t_text, .int (z4 t_letters), .int (z4 t_at), .int (z4 t_tokenAt), .int (z4 t_tokenSort), .int (z4 t_tokenValue), .int (z4 t_items), .int (z4 t_isChanceTold), .int (z4 t_areSumsTold), .ref a_t_metAt, .ref a_t_memoryAt, .ref a_t_upAt, .ref a_t_downAt, .ref a_t_isSignal, .ref a_t_memories, .ref a_t_placeOf, .ref a_t_nextPlace, .int (z4 t_places), .ref a_t_kindOf, .ref a_t_newKind, .int (z4 t_kinds), .ref a_t_stateOfKind, .ref a_t_stateAt, .ref a_t_stepTo, .int (z4 t_states), .ref a_t_far, .ref a_t_ways, .ref a_t_nextWays, .ref a_t_table])), (a_t_table, .inl (E 2, 4160, .inr (.inl (A8 t_table_l2))))] H → va_D A [(a_t, .inr (12, [.ref a_t_now, .ref a_t_read, .ref a_t_past, .int (z4 t_deeds), .ref a_t_images, .ref a_t_isKept, .ref a_t_text, .int (z4 t_letters), .int (z4 t_at), .int (z4 t_tokenAt), .int (z4 t_tokenSort), .int (z4 t_tokenValue), .int (z4 t_items), .int (z4 t_isChanceTold), .int (z4 t_areSumsTold), .ref a_t_metAt, .ref a_t_memoryAt, .ref a_t_upAt, .ref a_t_downAt, .ref a_t_isSignal, .ref a_t_memories, .ref a_t_placeOf, .ref a_t_nextPlace, .int (z4 t_places), .ref a_t_kindOf, .ref a_t_newKind, .int (z4 t_kinds), .ref a_t_stateOfKind, .ref a_t_stateAt, .ref a_t_stepTo, .int (z4 t_states), .ref a_t_far, .ref a_t_ways, .ref a_t_nextWays, .ref a_t_table])), (a_t_table, .inl (E 2, 4160, .inr (.inl (A8 t_table_l2))))] → va_S A s.heap H locs → lp_ (fun (q : Int) => F_X12_solve_L12 n t_states v2_1 t_table_l2 q) k_ v12_2 = some o3 → W p l e rm_X12_solve s m args below meth c H locs 0 0 Q (F0 m 12 ls []) := by
          intro k_
          induction k_ with
          | zero =>
            intro v12_2 H locs ls hl hP hD hS hq_; exact (lp_zero hq_).elim
          | succ k_ ih3 =>
            intro v12_2 H locs ls hl hP hD hS hq_
            obtain ⟨t_3, hb3, hq3⟩ := lp_some hq_
            replace hb3 : F_X12_solve_L12 n t_states v2_1 t_table_l2 v12_2 = some t_3 := hb3
            unfold F_X12_solve_L12 at hb3
            refine lv_iload_n hx hb dX12_solve_12 rfl (lv_at hl 2 rfl) ?_
            refine lv_aload_n hx hb dX12_solve_13 rfl (lv_at hl 0 rfl) ?_
            refine m_get X hK hP cl_X12 iT_X12 30 (by decide) fl_X12_200 0 rfl rfl dX12_solve_14 ?_
            obtain ⟨h4, hb3⟩ := ck_some hb3
            refine m_icmp_ge X h4 dX12_solve_17 (tgt := 42) (by decide) (fun (hc_ : ¬ (v12_2 < t_states)) => ?_) (fun (hc_ : v12_2 < t_states) => ?_)
            · rw [if_neg hc_] at hb3
              obtain rfl := Option.some.inj hb3
              exact E3_0 _ (Option.some.inj hq3).symm _ _ _ (lv_sub hl [0, 1, 2] rfl) hP hD hS
            · rw [if_pos hc_] at hb3
              refine lv_aload_n hx hb dX12_solve_20 rfl (lv_at hl 0 rfl) ?_
              refine m_get X hK hP cl_X12 iT_X12 34 (by decide) fl_X12_78 0 rfl rfl dX12_solve_21 ?_
              refine m_bipush X dX12_solve_24 (by decide) ?_
              refine lv_iload_n hx hb dX12_solve_26 rfl (lv_at hl 2 rfl) ?_
              refine m_imul X dX12_solve_27 ?_
              refine lv_iload_n hx hb dX12_solve_28 rfl (lv_at hl 1 rfl) ?_
              refine m_iadd X dX12_solve_29 ?_
              obtain ⟨h5, hb3⟩ := ck_some hb3
              refine m_lald X hK hP 1 rfl (by decide) h5 dX12_solve_30 ?_
              refine m_lconst X 0 rfl dX12_solve_31 ?_
              obtain ⟨h6, hb3⟩ := ck_some hb3
              refine m_lcmp_ne X ⟨h6, ⟨by decide, by decide⟩⟩ dX12_solve_32 dX12_solve_33 (tgt := 42) (by decide) (fun (hc_ : ¬ (t_table_l2 ((65 * v12_2) + v2_1).toNat = 0)) => ?_) (fun (hc_ : t_table_l2 ((65 * v12_2) + v2_1).toNat = 0) => ?_)
              · rw [if_neg hc_] at hb3
                obtain rfl := Option.some.inj hb3
                exact E3_0 _ (Option.some.inj hq3).symm _ _ _ (lv_sub hl [0, 1, 2] rfl) hP hD hS
              · rw [if_pos hc_] at hb3
                refine m_iinc X 2 [(2, .int (z4 (v12_2 + 1))), (0, .ref a_t), (1, .int (z4 v2_1))] dX12_solve_36 hl rfl (by decide) rfl (fun ls hl => ?_)
                refine lv_goto (tgt := 12) hx hb dX12_solve_39 (by decide) ?_
                obtain rfl := Option.some.inj hb3
                exact ih3 _ _ _ _ (lv_sub hl [1, 2, 0] rfl) hP hD hS hq3
        exact L3 n _ _ _ _ (lv_sub hl [1, 2, 0] rfl) hP hD hS hj3
  exact L1 n _ _ _ _ _ (lv_sub hl [1, 0] rfl) hP hD hS hj1
def F_X12_mean (n : Nat)  (t_now : Nat → Int) (t_metAt : Nat → Int) (t_memoryAt : Nat → Int) (t_isSignal : Nat → Int) (t_upAt : Nat → Int) (t_downAt : Nat → Int) (t_placeOf : Nat → Int) (t_memories : Nat → Int) (t_nextPlace : Nat → Int) (t_kindOf : Nat → Int) (t_newKind : Nat → Int) (t_stateOfKind : Nat → Int) (t_stateAt : Nat → Int) (t_stepTo : Nat → Int) (t_table : Nat → Int)  : Option (Int × Int × Int × Int × (Nat → Int) × (Nat → Int) × (Nat → Int) × (Nat → Int) × (Nat → Int) × (Nat → Int) × (Nat → Int) × (Nat → Int) × (Nat → Int) × (Nat → Int) × (Nat → Int) × (Nat → Int) × (Nat → Int) × (Nat → Int)) :=
  (F_X12_stateNow n t_now t_metAt t_memoryAt t_isSignal t_upAt t_downAt t_placeOf t_memories t_nextPlace t_kindOf t_newKind t_stateOfKind t_stateAt t_stepTo).bind fun o1 =>
  (F_X12_layTable n o1.2.2.2.1 t_table o1.2.2.2.2.2.2.2.2.2.2.2.2.2.2.2.2 t_now).bind fun o2 =>
  (F_X12_solve n o1.2.2.2.1 o2).bind fun o3 =>
  Option.bind (α := Int) (
    ck (r4 o3.1) <|
    if o3.1 = 0 then
      some (-9)
    else
      ck (ix_ ((65 * o1.1) + 64) 4160) <|
      some (o3.2 ((65 * o1.1) + 64).toNat)) fun o4 =>
  some (o4, o1.2.1, o1.2.2.1, o1.2.2.2.1, o1.2.2.2.2.1, o1.2.2.2.2.2.1, o1.2.2.2.2.2.2.1, o1.2.2.2.2.2.2.2.1, o1.2.2.2.2.2.2.2.2.1, o1.2.2.2.2.2.2.2.2.2.1, o1.2.2.2.2.2.2.2.2.2.2.1, o1.2.2.2.2.2.2.2.2.2.2.2.1, o1.2.2.2.2.2.2.2.2.2.2.2.2.1, o1.2.2.2.2.2.2.2.2.2.2.2.2.2.1, o1.2.2.2.2.2.2.2.2.2.2.2.2.2.2.1, o1.2.2.2.2.2.2.2.2.2.2.2.2.2.2.2.1, o1.2.2.2.2.2.2.2.2.2.2.2.2.2.2.2.2, o3.2)
def rm_X12_mean : Room := { frames := 5, cells := 0, slots := 0, locals := 118 }
set_option maxHeartbeats 4000000 in
set_option maxRecDepth 100000 in
theorem k_X12_mean {l : Launch} {D : va_G} {E : Nat → ClassId} (n : Nat) (a_t a_t_now a_t_read a_t_past a_t_images a_t_isKept a_t_text a_t_metAt a_t_memoryAt a_t_upAt a_t_downAt a_t_isSignal a_t_memories a_t_placeOf a_t_nextPlace a_t_kindOf a_t_newKind a_t_stateOfKind a_t_stateAt a_t_stepTo a_t_far a_t_ways a_t_nextWays a_t_table : Nat) (t_deeds : Int) (t_letters : Int) (t_at : Int) (t_tokenAt : Int) (t_tokenSort : Int) (t_tokenValue : Int) (t_items : Int) (t_isChanceTold : Int) (t_areSumsTold : Int) (t_places : Int) (t_kinds : Int) (t_states : Int) (t_now : Nat → Int) (t_metAt : Nat → Int) (t_memoryAt : Nat → Int) (t_isSignal : Nat → Int) (t_upAt : Nat → Int) (t_downAt : Nat → Int) (t_placeOf : Nat → Int) (t_memories : Nat → Int) (t_nextPlace : Nat → Int) (t_kindOf : Nat → Int) (t_newKind : Nat → Int) (t_stateOfKind : Nat → Int) (t_stateAt : Nat → Int) (t_stepTo : Nat → Int) (t_table : Nat → Int) (res : Int × Int × Int × Int × (Nat → Int) × (Nat → Int) × (Nat → Int) × (Nat → Int) × (Nat → Int) × (Nat → Int) × (Nat → Int) × (Nat → Int) × (Nat → Int) × (Nat → Int) × (Nat → Int) × (Nat → Int) × (Nat → Int) × (Nat → Int)) (hf : F_X12_mean n t_now t_metAt t_memoryAt t_isSignal t_upAt t_downAt t_placeOf t_memories t_nextPlace t_kindOf t_newKind t_stateOfKind t_stateAt t_stepTo t_table = some res) : MW l yX12_mean (.code yX12_mean cX12_mean 2 (some .int)) rm_X12_mean D E [.ref a_t] [(a_t, .inr (12, [.ref a_t_now, .ref a_t_read, .ref a_t_past, .int (z4 t_deeds), .ref a_t_images, .ref a_t_isKept, .ref a_t_text, .int (z4 t_letters), .int (z4 t_at), .int (z4 t_tokenAt), .int (z4 t_tokenSort), .int (z4 t_tokenValue), .int (z4 t_items), .int (z4 t_isChanceTold), .int (z4 t_areSumsTold), .ref a_t_metAt, .ref a_t_memoryAt, .ref a_t_upAt, .ref a_t_downAt, .ref a_t_isSignal, .ref a_t_memories, .ref a_t_placeOf, .ref a_t_nextPlace, .int (z4 t_places), .ref a_t_kindOf, .ref a_t_newKind, .int (z4 t_kinds), .ref a_t_stateOfKind, .ref a_t_stateAt, .ref a_t_stepTo, .int (z4 t_states), .ref a_t_far, .ref a_t_ways, .ref a_t_nextWays, .ref a_t_table])), (a_t_now, .inl (E 0, 98, .inl (A4 t_now))), (a_t_metAt, .inl (E 0, 40, .inl (A4 t_metAt))), (a_t_memoryAt, .inl (E 0, 40, .inl (A4 t_memoryAt))), (a_t_isSignal, .inl (E 1, 40, .inl (A4 t_isSignal))), (a_t_upAt, .inl (E 0, 40, .inl (A4 t_upAt))), (a_t_downAt, .inl (E 0, 40, .inl (A4 t_downAt))), (a_t_placeOf, .inl (E 0, 64, .inl (A4 t_placeOf))), (a_t_memories, .inl (E 0, 64, .inl (A4 t_memories))), (a_t_nextPlace, .inl (E 0, 320, .inl (A4 t_nextPlace))), (a_t_kindOf, .inl (E 0, 64, .inl (A4 t_kindOf))), (a_t_newKind, .inl (E 0, 64, .inl (A4 t_newKind))), (a_t_stateOfKind, .inl (E 0, 64, .inl (A4 t_stateOfKind))), (a_t_stateAt, .inl (E 0, 64, .inl (A4 t_stateAt))), (a_t_stepTo, .inl (E 0, 320, .inl (A4 t_stepTo))), (a_t_table, .inl (E 2, 4160, .inr (.inl (A8 t_table))))] (some (.int (z4 res.1))) [(a_t, .inr (12, [.ref a_t_now, .ref a_t_read, .ref a_t_past, .int (z4 t_deeds), .ref a_t_images, .ref a_t_isKept, .ref a_t_text, .int (z4 t_letters), .int (z4 t_at), .int (z4 t_tokenAt), .int (z4 t_tokenSort), .int (z4 t_tokenValue), .int (z4 t_items), .int (z4 t_isChanceTold), .int (z4 t_areSumsTold), .ref a_t_metAt, .ref a_t_memoryAt, .ref a_t_upAt, .ref a_t_downAt, .ref a_t_isSignal, .ref a_t_memories, .ref a_t_placeOf, .ref a_t_nextPlace, .int (z4 res.2.1), .ref a_t_kindOf, .ref a_t_newKind, .int (z4 res.2.2.1), .ref a_t_stateOfKind, .ref a_t_stateAt, .ref a_t_stepTo, .int (z4 res.2.2.2.1), .ref a_t_far, .ref a_t_ways, .ref a_t_nextWays, .ref a_t_table])), (a_t_now, .inl (E 0, 98, .inl (A4 t_now))), (a_t_metAt, .inl (E 0, 40, .inl (A4 res.2.2.2.2.1))), (a_t_memoryAt, .inl (E 0, 40, .inl (A4 res.2.2.2.2.2.1))), (a_t_isSignal, .inl (E 1, 40, .inl (A4 res.2.2.2.2.2.2.1))), (a_t_upAt, .inl (E 0, 40, .inl (A4 res.2.2.2.2.2.2.2.1))), (a_t_downAt, .inl (E 0, 40, .inl (A4 res.2.2.2.2.2.2.2.2.1))), (a_t_placeOf, .inl (E 0, 64, .inl (A4 res.2.2.2.2.2.2.2.2.2.1))), (a_t_memories, .inl (E 0, 64, .inl (A4 res.2.2.2.2.2.2.2.2.2.2.1))), (a_t_nextPlace, .inl (E 0, 320, .inl (A4 res.2.2.2.2.2.2.2.2.2.2.2.1))), (a_t_kindOf, .inl (E 0, 64, .inl (A4 res.2.2.2.2.2.2.2.2.2.2.2.2.1))), (a_t_newKind, .inl (E 0, 64, .inl (A4 res.2.2.2.2.2.2.2.2.2.2.2.2.2.1))), (a_t_stateOfKind, .inl (E 0, 64, .inl (A4 res.2.2.2.2.2.2.2.2.2.2.2.2.2.2.1))), (a_t_stateAt, .inl (E 0, 64, .inl (A4 res.2.2.2.2.2.2.2.2.2.2.2.2.2.2.2.1))), (a_t_stepTo, .inl (E 0, 320, .inl (A4 res.2.2.2.2.2.2.2.2.2.2.2.2.2.2.2.2.1))), (a_t_table, .inl (E 2, 4160, .inr (.inl (A8 res.2.2.2.2.2.2.2.2.2.2.2.2.2.2.2.2.2))))] := by
  refine MWi (by decide) (Nat.le_of_ble_eq_true rfl) ?_
  intro p e s m args below meth c A Q X hK hP hD hA ret ls hl
  have hS : va_S A s.heap s.heap [] := va_S.rf
  have hx := X.1
  have hb := X.2.1
  have hl : lv_has ls 2 [(0, .ref a_t)] := hl
  unfold F_X12_mean at hf
  refine lv_aload_n hx hb dX12_mean_0 rfl (lv_at hl 0 rfl) ?_
  obtain ⟨o1, ho, hf⟩ := bd_some hf
  refine m_cVW X hK hP hD hS hA (wr := [(a_t_table, .inl (E 2, 4160, .inr (.inl (A8 t_table))))]) (k_X12_stateNow n a_t a_t_now a_t_read a_t_past a_t_images a_t_isKept a_t_text a_t_metAt a_t_memoryAt a_t_upAt a_t_downAt a_t_isSignal a_t_memories a_t_placeOf a_t_nextPlace a_t_kindOf a_t_newKind a_t_stateOfKind a_t_stateAt a_t_stepTo a_t_far a_t_ways a_t_nextWays a_t_table t_deeds t_letters t_at t_tokenAt t_tokenSort t_tokenValue t_items t_isChanceTold t_areSumsTold t_places t_kinds t_states t_now t_metAt t_memoryAt t_isSignal t_upAt t_downAt t_placeOf t_memories t_nextPlace t_kindOf t_newKind t_stateOfKind t_stateAt t_stepTo o1 ho) [0, 1, 2, 3, 4, 5, 6, 7, 8, 9, 10, 11, 12, 13, 14] [15] [1, 2, 3, 4, 5, 6, 7, 8, 9, 10, 11, 12, 13, 14, 15, 0] [(a_t, .inr (12, [.ref a_t_now, .ref a_t_read, .ref a_t_past, .int (z4 t_deeds), .ref a_t_images, .ref a_t_isKept, .ref a_t_text, .int (z4 t_letters), .int (z4 t_at), .int (z4 t_tokenAt), .int (z4 t_tokenSort), .int (z4 t_tokenValue), .int (z4 t_items), .int (z4 t_isChanceTold), .int (z4 t_areSumsTold), .ref a_t_metAt, .ref a_t_memoryAt, .ref a_t_upAt, .ref a_t_downAt, .ref a_t_isSignal, .ref a_t_memories, .ref a_t_placeOf, .ref a_t_nextPlace, .int (z4 o1.2.1), .ref a_t_kindOf, .ref a_t_newKind, .int (z4 o1.2.2.1), .ref a_t_stateOfKind, .ref a_t_stateAt, .ref a_t_stepTo, .int (z4 o1.2.2.2.1), .ref a_t_far, .ref a_t_ways, .ref a_t_nextWays, .ref a_t_table])), (a_t_now, .inl (E 0, 98, .inl (A4 t_now))), (a_t_metAt, .inl (E 0, 40, .inl (A4 o1.2.2.2.2.1))), (a_t_memoryAt, .inl (E 0, 40, .inl (A4 o1.2.2.2.2.2.1))), (a_t_isSignal, .inl (E 1, 40, .inl (A4 o1.2.2.2.2.2.2.1))), (a_t_upAt, .inl (E 0, 40, .inl (A4 o1.2.2.2.2.2.2.2.1))), (a_t_downAt, .inl (E 0, 40, .inl (A4 o1.2.2.2.2.2.2.2.2.1))), (a_t_placeOf, .inl (E 0, 64, .inl (A4 o1.2.2.2.2.2.2.2.2.2.1))), (a_t_memories, .inl (E 0, 64, .inl (A4 o1.2.2.2.2.2.2.2.2.2.2.1))), (a_t_nextPlace, .inl (E 0, 320, .inl (A4 o1.2.2.2.2.2.2.2.2.2.2.2.1))), (a_t_kindOf, .inl (E 0, 64, .inl (A4 o1.2.2.2.2.2.2.2.2.2.2.2.2.1))), (a_t_newKind, .inl (E 0, 64, .inl (A4 o1.2.2.2.2.2.2.2.2.2.2.2.2.2.1))), (a_t_stateOfKind, .inl (E 0, 64, .inl (A4 o1.2.2.2.2.2.2.2.2.2.2.2.2.2.2.1))), (a_t_stateAt, .inl (E 0, 64, .inl (A4 o1.2.2.2.2.2.2.2.2.2.2.2.2.2.2.2.1))), (a_t_stepTo, .inl (E 0, 320, .inl (A4 o1.2.2.2.2.2.2.2.2.2.2.2.2.2.2.2.2))), (a_t_table, .inl (E 2, 4160, .inr (.inl (A8 t_table))))] rfl rfl rfl rfl (by decide) rfl rfl rfl cl_X12 lk_X12_224 co_X12_stateNow dy_X12_stateNow rfl rfl ⟨Nat.le_of_ble_eq_true rfl, Nat.le_of_ble_eq_true rfl⟩ hl.1 rfl (Nat.le_of_ble_eq_true rfl) dX12_mean_1 (Nat.zero_le _) (Nat.zero_le _) (fun H locs hP hD hS => ?_)
  refine lv_istore_n (lv' := [(1, .int (z4 o1.1)), (0, .ref a_t)]) hx hb dX12_mean_4 rfl hl (by decide) rfl (fun ls hl => ?_)
  refine lv_aload_n hx hb dX12_mean_5 rfl (lv_at hl 1 rfl) ?_
  obtain ⟨o2, ho, hf⟩ := bd_some hf
  refine m_cVW X hK hP hD hS hA (wr := [(a_t_metAt, .inl (E 0, 40, .inl (A4 o1.2.2.2.2.1))), (a_t_memoryAt, .inl (E 0, 40, .inl (A4 o1.2.2.2.2.2.1))), (a_t_isSignal, .inl (E 1, 40, .inl (A4 o1.2.2.2.2.2.2.1))), (a_t_upAt, .inl (E 0, 40, .inl (A4 o1.2.2.2.2.2.2.2.1))), (a_t_downAt, .inl (E 0, 40, .inl (A4 o1.2.2.2.2.2.2.2.2.1))), (a_t_placeOf, .inl (E 0, 64, .inl (A4 o1.2.2.2.2.2.2.2.2.2.1))), (a_t_memories, .inl (E 0, 64, .inl (A4 o1.2.2.2.2.2.2.2.2.2.2.1))), (a_t_nextPlace, .inl (E 0, 320, .inl (A4 o1.2.2.2.2.2.2.2.2.2.2.2.1))), (a_t_kindOf, .inl (E 0, 64, .inl (A4 o1.2.2.2.2.2.2.2.2.2.2.2.2.1))), (a_t_newKind, .inl (E 0, 64, .inl (A4 o1.2.2.2.2.2.2.2.2.2.2.2.2.2.1))), (a_t_stateOfKind, .inl (E 0, 64, .inl (A4 o1.2.2.2.2.2.2.2.2.2.2.2.2.2.2.1))), (a_t_stateAt, .inl (E 0, 64, .inl (A4 o1.2.2.2.2.2.2.2.2.2.2.2.2.2.2.2.1)))]) (k_X12_layTable n a_t a_t_now a_t_read a_t_past a_t_images a_t_isKept a_t_text a_t_metAt a_t_memoryAt a_t_upAt a_t_downAt a_t_isSignal a_t_memories a_t_placeOf a_t_nextPlace a_t_kindOf a_t_newKind a_t_stateOfKind a_t_stateAt a_t_stepTo a_t_far a_t_ways a_t_nextWays a_t_table t_deeds t_letters t_at t_tokenAt t_tokenSort t_tokenValue t_items t_isChanceTold t_areSumsTold o1.2.1 o1.2.2.1 o1.2.2.2.1 t_table o1.2.2.2.2.2.2.2.2.2.2.2.2.2.2.2.2 t_now o2 ho) [0, 15, 14, 1] [2, 3, 4, 5, 6, 7, 8, 9, 10, 11, 12, 13] [12, 15, 0, 1, 2, 3, 4, 5, 6, 7, 8, 9, 10, 11, 14, 13] [(a_t, .inr (12, [.ref a_t_now, .ref a_t_read, .ref a_t_past, .int (z4 t_deeds), .ref a_t_images, .ref a_t_isKept, .ref a_t_text, .int (z4 t_letters), .int (z4 t_at), .int (z4 t_tokenAt), .int (z4 t_tokenSort), .int (z4 t_tokenValue), .int (z4 t_items), .int (z4 t_isChanceTold), .int (z4 t_areSumsTold), .ref a_t_metAt, .ref a_t_memoryAt, .ref a_t_upAt, .ref a_t_downAt, .ref a_t_isSignal, .ref a_t_memories, .ref a_t_placeOf, .ref a_t_nextPlace, .int (z4 o1.2.1), .ref a_t_kindOf, .ref a_t_newKind, .int (z4 o1.2.2.1), .ref a_t_stateOfKind, .ref a_t_stateAt, .ref a_t_stepTo, .int (z4 o1.2.2.2.1), .ref a_t_far, .ref a_t_ways, .ref a_t_nextWays, .ref a_t_table])), (a_t_now, .inl (E 0, 98, .inl (A4 t_now))), (a_t_metAt, .inl (E 0, 40, .inl (A4 o1.2.2.2.2.1))), (a_t_memoryAt, .inl (E 0, 40, .inl (A4 o1.2.2.2.2.2.1))), (a_t_isSignal, .inl (E 1, 40, .inl (A4 o1.2.2.2.2.2.2.1))), (a_t_upAt, .inl (E 0, 40, .inl (A4 o1.2.2.2.2.2.2.2.1))), (a_t_downAt, .inl (E 0, 40, .inl (A4 o1.2.2.2.2.2.2.2.2.1))), (a_t_placeOf, .inl (E 0, 64, .inl (A4 o1.2.2.2.2.2.2.2.2.2.1))), (a_t_memories, .inl (E 0, 64, .inl (A4 o1.2.2.2.2.2.2.2.2.2.2.1))), (a_t_nextPlace, .inl (E 0, 320, .inl (A4 o1.2.2.2.2.2.2.2.2.2.2.2.1))), (a_t_kindOf, .inl (E 0, 64, .inl (A4 o1.2.2.2.2.2.2.2.2.2.2.2.2.1))), (a_t_newKind, .inl (E 0, 64, .inl (A4 o1.2.2.2.2.2.2.2.2.2.2.2.2.2.1))), (a_t_stateOfKind, .inl (E 0, 64, .inl (A4 o1.2.2.2.2.2.2.2.2.2.2.2.2.2.2.1))), (a_t_stateAt, .inl (E 0, 64, .inl (A4 o1.2.2.2.2.2.2.2.2.2.2.2.2.2.2.2.1))), (a_t_stepTo, .inl (E 0, 320, .inl (A4 o1.2.2.2.2.2.2.2.2.2.2.2.2.2.2.2.2))), (a_t_table, .inl (E 2, 4160, .inr (.inl (A8 o2))))] rfl rfl rfl rfl (by decide) rfl rfl rfl cl_X12 lk_X12_247 co_X12_layTable dy_X12_layTable rfl rfl ⟨Nat.le_of_ble_eq_true rfl, Nat.le_of_ble_eq_true rfl⟩ hl.1 rfl (Nat.le_of_ble_eq_true rfl) dX12_mean_6 (Nat.zero_le _) (Nat.zero_le _) (fun H locs hP hD hS => ?_)
  refine lv_aload_n hx hb dX12_mean_9 rfl (lv_at hl 1 rfl) ?_
  obtain ⟨o3, ho, hf⟩ := bd_some hf
  refine m_cVW X hK hP hD hS hA (wr := [(a_t_now, .inl (E 0, 98, .inl (A4 t_now))), (a_t_metAt, .inl (E 0, 40, .inl (A4 o1.2.2.2.2.1))), (a_t_memoryAt, .inl (E 0, 40, .inl (A4 o1.2.2.2.2.2.1))), (a_t_isSignal, .inl (E 1, 40, .inl (A4 o1.2.2.2.2.2.2.1))), (a_t_upAt, .inl (E 0, 40, .inl (A4 o1.2.2.2.2.2.2.2.1))), (a_t_downAt, .inl (E 0, 40, .inl (A4 o1.2.2.2.2.2.2.2.2.1))), (a_t_placeOf, .inl (E 0, 64, .inl (A4 o1.2.2.2.2.2.2.2.2.2.1))), (a_t_memories, .inl (E 0, 64, .inl (A4 o1.2.2.2.2.2.2.2.2.2.2.1))), (a_t_nextPlace, .inl (E 0, 320, .inl (A4 o1.2.2.2.2.2.2.2.2.2.2.2.1))), (a_t_kindOf, .inl (E 0, 64, .inl (A4 o1.2.2.2.2.2.2.2.2.2.2.2.2.1))), (a_t_newKind, .inl (E 0, 64, .inl (A4 o1.2.2.2.2.2.2.2.2.2.2.2.2.2.1))), (a_t_stateOfKind, .inl (E 0, 64, .inl (A4 o1.2.2.2.2.2.2.2.2.2.2.2.2.2.2.1))), (a_t_stateAt, .inl (E 0, 64, .inl (A4 o1.2.2.2.2.2.2.2.2.2.2.2.2.2.2.2.1))), (a_t_stepTo, .inl (E 0, 320, .inl (A4 o1.2.2.2.2.2.2.2.2.2.2.2.2.2.2.2.2)))]) (k_X12_solve n a_t a_t_now a_t_read a_t_past a_t_images a_t_isKept a_t_text a_t_metAt a_t_memoryAt a_t_upAt a_t_downAt a_t_isSignal a_t_memories a_t_placeOf a_t_nextPlace a_t_kindOf a_t_newKind a_t_stateOfKind a_t_stateAt a_t_stepTo a_t_far a_t_ways a_t_nextWays a_t_table t_deeds t_letters t_at t_tokenAt t_tokenSort t_tokenValue t_items t_isChanceTold t_areSumsTold o1.2.1 o1.2.2.1 o1.2.2.2.1 o2 o3 ho) [0, 15] [1, 2, 3, 4, 5, 6, 7, 8, 9, 10, 11, 12, 13, 14] [14, 0, 1, 2, 3, 4, 5, 6, 7, 8, 9, 10, 11, 12, 13, 15] [(a_t, .inr (12, [.ref a_t_now, .ref a_t_read, .ref a_t_past, .int (z4 t_deeds), .ref a_t_images, .ref a_t_isKept, .ref a_t_text, .int (z4 t_letters), .int (z4 t_at), .int (z4 t_tokenAt), .int (z4 t_tokenSort), .int (z4 t_tokenValue), .int (z4 t_items), .int (z4 t_isChanceTold), .int (z4 t_areSumsTold), .ref a_t_metAt, .ref a_t_memoryAt, .ref a_t_upAt, .ref a_t_downAt, .ref a_t_isSignal, .ref a_t_memories, .ref a_t_placeOf, .ref a_t_nextPlace, .int (z4 o1.2.1), .ref a_t_kindOf, .ref a_t_newKind, .int (z4 o1.2.2.1), .ref a_t_stateOfKind, .ref a_t_stateAt, .ref a_t_stepTo, .int (z4 o1.2.2.2.1), .ref a_t_far, .ref a_t_ways, .ref a_t_nextWays, .ref a_t_table])), (a_t_now, .inl (E 0, 98, .inl (A4 t_now))), (a_t_metAt, .inl (E 0, 40, .inl (A4 o1.2.2.2.2.1))), (a_t_memoryAt, .inl (E 0, 40, .inl (A4 o1.2.2.2.2.2.1))), (a_t_isSignal, .inl (E 1, 40, .inl (A4 o1.2.2.2.2.2.2.1))), (a_t_upAt, .inl (E 0, 40, .inl (A4 o1.2.2.2.2.2.2.2.1))), (a_t_downAt, .inl (E 0, 40, .inl (A4 o1.2.2.2.2.2.2.2.2.1))), (a_t_placeOf, .inl (E 0, 64, .inl (A4 o1.2.2.2.2.2.2.2.2.2.1))), (a_t_memories, .inl (E 0, 64, .inl (A4 o1.2.2.2.2.2.2.2.2.2.2.1))), (a_t_nextPlace, .inl (E 0, 320, .inl (A4 o1.2.2.2.2.2.2.2.2.2.2.2.1))), (a_t_kindOf, .inl (E 0, 64, .inl (A4 o1.2.2.2.2.2.2.2.2.2.2.2.2.1))), (a_t_newKind, .inl (E 0, 64, .inl (A4 o1.2.2.2.2.2.2.2.2.2.2.2.2.2.1))), (a_t_stateOfKind, .inl (E 0, 64, .inl (A4 o1.2.2.2.2.2.2.2.2.2.2.2.2.2.2.1))), (a_t_stateAt, .inl (E 0, 64, .inl (A4 o1.2.2.2.2.2.2.2.2.2.2.2.2.2.2.2.1))), (a_t_stepTo, .inl (E 0, 320, .inl (A4 o1.2.2.2.2.2.2.2.2.2.2.2.2.2.2.2.2))), (a_t_table, .inl (E 2, 4160, .inr (.inl (A8 o3.2))))] rfl rfl rfl rfl (by decide) rfl rfl rfl cl_X12 lk_X12_250 co_X12_solve dy_X12_solve rfl rfl ⟨Nat.le_of_ble_eq_true rfl, Nat.le_of_ble_eq_true rfl⟩ hl.1 rfl (Nat.le_of_ble_eq_true rfl) dX12_mean_10 (Nat.zero_le _) (Nat.zero_le _) (fun H locs hP hD hS => ?_)
  obtain ⟨o4, hj4, hr4⟩ := bd_some hf
  have J4 : ∀ (o_ : Int), o4 = o_ → ∀ (H : Heap) (locs : List Loc) (ls : Array Slot), lv_has ls 2 [] → va_P D vwCl [(a_t, .inr (12, [.ref a_t_now, .ref a_t_read, .ref a_t_past, .int (z4 t_deeds), .ref a_t_images, .ref a_t_isKept, .ref a_t_text, .int (z4 t_letters), .int (z4 t_at), .int (z4 t_tokenAt), .int (z4 t_tokenSort), .int (z4 t_tokenValue), .int (z4 t_items), .int (z4 t_isChanceTold), .int (z4 t_areSumsTold), .ref a_t_metAt, .ref a_t_memoryAt, .ref a_t_upAt, .ref a_t_downAt, .ref a_t_isSignal, .ref a_t_memories, .ref a_t_placeOf, .ref a_t_nextPlace, .int (z4 o1.2.1), .ref a_t_kindOf, .ref a_t_newKind, .int (z4 o1.2.2.1), .ref a_t_stateOfKind, .ref a_t_stateAt, .ref a_t_stepTo, .int (z4 o1.2.2.2.1), .ref a_t_far, .ref a_t_ways, .ref a_t_nextWays, .ref a_t_table])), (a_t_now, .inl (E 0, 98, .inl (A4 t_now))), (a_t_metAt, .inl (E 0, 40, .inl (A4 o1.2.2.2.2.1))), (a_t_memoryAt, .inl (E 0, 40, .inl (A4 o1.2.2.2.2.2.1))), (a_t_isSignal, .inl (E 1, 40, .inl (A4 o1.2.2.2.2.2.2.1))), (a_t_upAt, .inl (E 0, 40, .inl (A4 o1.2.2.2.2.2.2.2.1))), (a_t_downAt, .inl (E 0, 40, .inl (A4 o1.2.2.2.2.2.2.2.2.1))), (a_t_placeOf, .inl (E 0, 64, .inl (A4 o1.2.2.2.2.2.2.2.2.2.1))), (a_t_memories, .inl (E 0, 64, .inl (A4 o1.2.2.2.2.2.2.2.2.2.2.1))), (a_t_nextPlace, .inl (E 0, 320, .inl (A4 o1.2.2.2.2.2.2.2.2.2.2.2.1))), (a_t_kindOf, .inl (E 0, 64, .inl (A4 o1.2.2.2.2.2.2.2.2.2.2.2.2.1))), (a_t_newKind, .inl (E 0, 64, .inl (A4 o1.2.2.2.2.2.2.2.2.2.2.2.2.2.1))), (a_t_stateOfKind, .inl (E 0, 64, .inl (A4 o1.2.2.2.2.2.2.2.2.2.2.2.2.2.2.1))), (a_t_stateAt, .inl (E 0, 64, .inl (A4 o1.2.2.2.2.2.2.2.2.2.2.2.2.2.2.2.1))), (a_t_stepTo, .inl (E 0, 320, .inl (A4 o1.2.2.2.2.2.2.2.2.2.2.2.2.2.2.2.2))), (a_t_table, .inl (E 2, 4160, .inr (.inl (A8 o3.2))))] H → va_D A [(a_t, .inr (12, [.ref a_t_now, .ref a_t_read, .ref a_t_past, .int (z4 t_deeds), .ref a_t_images, .ref a_t_isKept, .ref a_t_text, .int (z4 t_letters), .int (z4 t_at), .int (z4 t_tokenAt), .int (z4 t_tokenSort), .int (z4 t_tokenValue), .int (z4 t_items), .int (z4 t_isChanceTold), .int (z4 t_areSumsTold), .ref a_t_metAt, .ref a_t_memoryAt, .ref a_t_upAt, .ref a_t_downAt, .ref a_t_isSignal, .ref a_t_memories, .ref a_t_placeOf, .ref a_t_nextPlace, .int (z4 o1.2.1), .ref a_t_kindOf, .ref a_t_newKind, .int (z4 o1.2.2.1), .ref a_t_stateOfKind, .ref a_t_stateAt, .ref a_t_stepTo, .int (z4 o1.2.2.2.1), .ref a_t_far, .ref a_t_ways, .ref a_t_nextWays, .ref a_t_table])), (a_t_now, .inl (E 0, 98, .inl (A4 t_now))), (a_t_metAt, .inl (E 0, 40, .inl (A4 o1.2.2.2.2.1))), (a_t_memoryAt, .inl (E 0, 40, .inl (A4 o1.2.2.2.2.2.1))), (a_t_isSignal, .inl (E 1, 40, .inl (A4 o1.2.2.2.2.2.2.1))), (a_t_upAt, .inl (E 0, 40, .inl (A4 o1.2.2.2.2.2.2.2.1))), (a_t_downAt, .inl (E 0, 40, .inl (A4 o1.2.2.2.2.2.2.2.2.1))), (a_t_placeOf, .inl (E 0, 64, .inl (A4 o1.2.2.2.2.2.2.2.2.2.1))), (a_t_memories, .inl (E 0, 64, .inl (A4 o1.2.2.2.2.2.2.2.2.2.2.1))), (a_t_nextPlace, .inl (E 0, 320, .inl (A4 o1.2.2.2.2.2.2.2.2.2.2.2.1))), (a_t_kindOf, .inl (E 0, 64, .inl (A4 o1.2.2.2.2.2.2.2.2.2.2.2.2.1))), (a_t_newKind, .inl (E 0, 64, .inl (A4 o1.2.2.2.2.2.2.2.2.2.2.2.2.2.1))), (a_t_stateOfKind, .inl (E 0, 64, .inl (A4 o1.2.2.2.2.2.2.2.2.2.2.2.2.2.2.1))), (a_t_stateAt, .inl (E 0, 64, .inl (A4 o1.2.2.2.2.2.2.2.2.2.2.2.2.2.2.2.1))), (a_t_stepTo, .inl (E 0, 320, .inl (A4 o1.2.2.2.2.2.2.2.2.2.2.2.2.2.2.2.2))), (a_t_table, .inl (E 2, 4160, .inr (.inl (A8 o3.2))))] → va_S A s.heap H locs → W p l e rm_X12_mean s m args below meth c H locs 0 0 Q (F0 m 34 ls [.int (z4 o_)]) := by
    intro o_ ho_ H locs ls hl hP hD hS
    subst ho_
    obtain rfl := Option.some.inj hr4
    exact ret _ _ _ _ hP hD hS dX12_mean_34
  obtain ⟨h5, hj4⟩ := ck_some hj4
  refine m_if_eq X h5 dX12_mean_13 (tgt := 32) (by decide) (fun (hc_ : o3.1 = 0) => ?_) (fun (hc_ : ¬ (o3.1 = 0)) => ?_)
  · rw [if_pos hc_] at hj4
    refine m_bipush X dX12_mean_32 (by decide) ?_
    exact J4 _ (Option.some.inj hj4).symm _ _ _ (lv_sub hl [] rfl) hP hD hS
  · rw [if_neg hc_] at hj4
    refine lv_aload_n hx hb dX12_mean_16 rfl (lv_at hl 1 rfl) ?_
    refine m_get X hK hP cl_X12 iT_X12 34 (by decide) fl_X12_78 0 rfl rfl dX12_mean_17 ?_
    refine m_bipush X dX12_mean_20 (by decide) ?_
    refine lv_iload_n hx hb dX12_mean_22 rfl (lv_at hl 0 rfl) ?_
    refine m_imul X dX12_mean_23 ?_
    refine m_bipush X dX12_mean_24 (by decide) ?_
    refine m_iadd X dX12_mean_26 ?_
    obtain ⟨h6, hj4⟩ := ck_some hj4
    refine m_lald X hK hP 15 rfl (by decide) h6 dX12_mean_27 ?_
    refine m_l2i X dX12_mean_28 ?_
    refine lv_goto (tgt := 34) hx hb dX12_mean_29 (by decide) ?_
    exact J4 _ (Option.some.inj hj4).symm _ _ _ (lv_sub hl [] rfl) hP hD hS
