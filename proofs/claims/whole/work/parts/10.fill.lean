def F_J7_fill_53178_L5 (n : Nat) (N0 : Nat) (x1 : Int) (v5_2 : Int) (p0_l5 : Nat → Int) : Option ((Int × (Nat → Int)) ⊕ ((Nat → Int))) :=
  ck (r4 v5_2 ∧ r4 (N0 : Int)) <|
  if v5_2 < (N0 : Int) then
    ck (ix_ v5_2 (N0 : Int)) <|
    some (.inl (v5_2 + 1, up_ p0_l5 (v5_2).toNat x1))
  else
    some (.inr p0_l5)
def F_J7_fill_53178 (n : Nat) (N0 : Nat) (p0 : Nat → Int) (x1 : Int) : Option ((Nat → Int)) :=
  (lp_ (fun (q : Int × (Nat → Int)) => F_J7_fill_53178_L5 n N0 x1 q.1 q.2) n (0, p0)).bind fun o1 =>
  some o1
def rm_J7_fill_53178 : Room := { frames := 0, cells := 0, slots := 0, locals := 0 }
set_option maxHeartbeats 4000000 in
set_option maxRecDepth 100000 in
theorem k_J7_fill_53178 {l : Launch} {D : va_G} {E : Nat → ClassId} (n : Nat) (a_p0 : Nat) (N0 : Nat) (hN0 : N0 ≤ 2147483648) (p0 : Nat → Int) (x1 : Int) (res : (Nat → Int)) (hf : F_J7_fill_53178 n N0 p0 x1 = some res) : MW l yJ7_fill_53178 (.code yJ7_fill_53178 cJ7_fill_53178 4 none) rm_J7_fill_53178 D E [.ref a_p0, .int (z4 x1)] [(a_p0, .inl (E 0, N0, .inl (A4 p0)))] none [(a_p0, .inl (E 0, N0, .inl (A4 res)))] := by
  refine MWv (by decide) (Nat.le_of_ble_eq_true rfl) ?_
  intro p e s m args below meth c A Q X hK hP hD hA ret ls hl
  have hS : va_S A s.heap s.heap [] := va_S.rf
  have hx := X.1
  have hb := X.2.1
  have hl : lv_has ls 4 [(0, .ref a_p0), (1, .int (z4 x1))] := hl
  unfold F_J7_fill_53178 at hf
  refine m_iconst X dJ7_fill_53178_0 ?_
  refine lv_istore_n (lv' := [(2, .int (z4 0)), (0, .ref a_p0), (1, .int (z4 x1))]) hx hb dJ7_fill_53178_1 rfl hl (by decide) rfl (fun ls hl => ?_)
  refine lv_aload_n hx hb dJ7_fill_53178_2 rfl (lv_at hl 1 rfl) ?_
  refine m_alen X hK hP 0 rfl dJ7_fill_53178_3 ?_
  refine lv_istore_n (lv' := [(3, .int (z4 (N0 : Int))), (2, .int (z4 0)), (0, .ref a_p0), (1, .int (z4 x1))]) hx hb dJ7_fill_53178_4 rfl hl (by decide) rfl (fun ls hl => ?_)
  obtain ⟨o1, hj1, hr1⟩ := bd_some hf
  have E1_0 : ∀ (o_ : (Nat → Int)), o1 = o_ → ∀ (H : Heap) (locs : List Loc) (ls : Array Slot), lv_has ls 4 [] → va_P D vwCl [(a_p0, .inl (E 0, N0, .inl (A4 o_)))] H → va_D A [(a_p0, .inl (E 0, N0, .inl (A4 o_)))] → va_S A s.heap H locs → W p l e rm_J7_fill_53178 s m args below meth c H locs 0 0 Q (F0 m 20 ls []) := by
    intro o_ ho_ H locs ls hl hP hD hS
    subst ho_
    obtain rfl := Option.some.inj hr1
    exact ret _ _ _ _ hP hD hS dJ7_fill_53178_20
  have L1 : ∀ (k_ : Nat) (v5_2 : Int) (p0_l5 : Nat → Int), ∀ (H : Heap) (locs : List Loc) (ls : Array Slot), lv_has ls 4 [(0, .ref a_p0), (1, .int (z4 x1)), (2, .int (z4 v5_2)), (3, .int (z4 (N0 : Int)))] → va_P D vwCl [(a_p0, .inl (E 0, N0, .inl (A4 p0_l5)))] H → va_D A [(a_p0, .inl (E 0, N0, .inl (A4 p0_l5)))] → va_S A s.heap H locs → lp_ (fun (q : Int × (Nat → Int)) => F_J7_fill_53178_L5 n N0 x1 q.1 q.2) k_ (v5_2, p0_l5) = some o1 → W p l e rm_J7_fill_53178 s m args below meth c H locs 0 0 Q (F0 m 5 ls []) := by
    intro k_
    induction k_ with
    | zero =>
      intro v5_2 p0_l5 H locs ls hl hP hD hS hq_; exact (lp_zero hq_).elim
    | succ k_ ih1 =>
      intro v5_2 p0_l5 H locs ls hl hP hD hS hq_
      obtain ⟨t_1, hb1, hq1⟩ := lp_some hq_
      replace hb1 : F_J7_fill_53178_L5 n N0 x1 v5_2 p0_l5 = some t_1 := hb1
      unfold F_J7_fill_53178_L5 at hb1
      refine lv_iload_n hx hb dJ7_fill_53178_5 rfl (lv_at hl 2 rfl) ?_
      refine lv_iload_n hx hb dJ7_fill_53178_6 rfl (lv_at hl 3 rfl) ?_
      obtain ⟨h2, hb1⟩ := ck_some hb1
      refine m_icmp_ge X h2 dJ7_fill_53178_7 (tgt := 20) (by decide) (fun (hc_ : ¬ (v5_2 < (N0 : Int))) => ?_) (fun (hc_ : v5_2 < (N0 : Int)) => ?_)
      · rw [if_neg hc_] at hb1
        obtain rfl := Option.some.inj hb1
        exact E1_0 _ (Option.some.inj hq1).symm _ _ _ (lv_sub hl [] rfl) hP hD hS
      · rw [if_pos hc_] at hb1
        refine lv_aload_n hx hb dJ7_fill_53178_10 rfl (lv_at hl 0 rfl) ?_
        refine lv_iload_n hx hb dJ7_fill_53178_11 rfl (lv_at hl 2 rfl) ?_
        refine lv_iload_n hx hb dJ7_fill_53178_12 rfl (lv_at hl 1 rfl) ?_
        obtain ⟨h3, hb1⟩ := ck_some hb1
        refine m_iast X hK hP hD hS 0 rfl hN0 h3 [(a_p0, .inl (E 0, N0, .inl (A4 (up_ p0_l5 (v5_2).toNat x1))))] rfl dJ7_fill_53178_13 (fun H locs hP hD hS => ?_)
        refine m_iinc X 2 [(2, .int (z4 (v5_2 + 1))), (0, .ref a_p0), (1, .int (z4 x1)), (3, .int (z4 (N0 : Int)))] dJ7_fill_53178_14 hl rfl (by decide) rfl (fun ls hl => ?_)
        refine lv_goto (tgt := 5) hx hb dJ7_fill_53178_17 (by decide) ?_
        obtain rfl := Option.some.inj hb1
        exact ih1 _ _ _ _ _ (lv_sub hl [1, 2, 0, 3] rfl) hP hD hS hq1
  exact L1 n _ _ _ _ _ (lv_sub hl [2, 3, 1, 0] rfl) hP hD hS hj1
