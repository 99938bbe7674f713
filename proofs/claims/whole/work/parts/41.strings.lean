theorem fJ_38 : Cond.fieldLink RJ0 38 "java/lang/String" "COMPACT_STRINGS" "Z" ∈ TT := TT_in 562 (by decide +kernel) (by decide +kernel)
theorem fJ_1053 : Cond.fieldLink RJ0 1053 "jdk/internal/util/Preconditions" "SIOOBE_FORMATTER" "Ljava/util/function/BiFunction;" ∈ TT := TT_in 578 (by decide +kernel) (by decide +kernel)
theorem fJ_9 : Cond.fieldLink RJ0 9 "java/lang/String" "value" "[B" ∈ TT := TT_in 1251 (by decide +kernel) (by decide +kernel)
theorem fJ_15 : Cond.fieldLink RJ0 15 "java/lang/String" "coder" "B" ∈ TT := TT_in 1252 (by decide +kernel) (by decide +kernel)
def chI (w k : Nat) : Int := (([[114, 117, 108, 101], [99, 104, 97, 110, 99, 101], [115, 117, 109, 115]] : List (List Int)).getD w []).getD k 0
theorem ch_ok : ∀ w, w < 3 → ∀ k, k < lenJ.getD w 0 → (bytJ.getD w []).getD k 0 = z4 (chI w k) ∧ 0 ≤ chI w k ∧ chI w k < 128 := by decide +kernel
def rm_J0_coder_7d493 : Room := { frames := 0, cells := 0, slots := 0, locals := 0 }
def rm_J0_isLatin1_aae02 : Room := { frames := 0, cells := 0, slots := 0, locals := 0 }
def rm_J0_length_8abf5 : Room := { frames := 1, cells := 0, slots := 0, locals := 20 }
def rm_J3_checkIndex_8e157 : Room := { frames := 0, cells := 0, slots := 0, locals := 0 }
def rm_J0_checkIndex_df160 : Room := { frames := 1, cells := 0, slots := 0, locals := 30 }
def rm_J1_charAt_3b067 : Room := { frames := 2, cells := 0, slots := 0, locals := 60 }
def rm_J0_charAt_5068e : Room := { frames := 3, cells := 0, slots := 0, locals := 90 }
section STRS
variable {l : Launch} {D : va_G} {E : Nat → ClassId} {B : Nat} {Z : ZT}
theorem k_J0_coder {w : Nat} (hw : w < 3) : MRs l yJ0_coder_7d493 (.code yJ0_coder_7d493 cJ0_coder_7d493 1 (some .byte)) rm_J0_coder_7d493 D E B Z [.ref (Z.2.1 w)] [] (some (.int (z4 0))) := by
  refine MRs_of (by decide +kernel) (Nat.le_of_ble_eq_true rfl) ?_
  intro p e s m args below meth c X hr hk hK hF hP ls hl
  have hx := X.1
  have hb := X.2.1
  have hl : lv_has ls 1 [(0, .ref (Z.2.1 w))] := hl
  have hS : va_S (fun q => B ≤ q) s.heap s.heap [] := va_S.rf
  refine va_gets hx hb hF.2.2.1 hS X.2.2.2.1 (X.2.2.2.2 _ (List.mem_cons_of_mem _ fJ_38)) (fun _ h => h) dJ0_coder_7d493_0 ?_
  refine lv_if_eq (tgt := 13) hx hb dJ0_coder_7d493_3 (by decide) (fun h => absurd h (by decide)) (fun _ => ?_)
  refine lv_aload_n hx hb dJ0_coder_7d493_6 rfl (lv_at hl 0 rfl) ?_
  refine vk_getf hx hb (hF.2.2.2.2.1.1 w hw).2.1 hS X.2.2.2.1 (X.2.2.2.2 _ (List.mem_cons_of_mem _ fJ_15)) (fun _ h => h) dJ0_coder_7d493_7 ?_
  refine lv_goto (tgt := 14) hx hb dJ0_coder_7d493_10 (by decide) ?_
  exact W.zret hx hb hr rfl (fun t ht _ => ⟨rfl, ht⟩) (fun _ h => by cases h) dJ0_coder_7d493_14 hk
theorem k_J0_isLatin1 {w : Nat} (hw : w < 3) : MRs l yJ0_isLatin1_aae02 (.code yJ0_isLatin1_aae02 cJ0_isLatin1_aae02 1 (some .boolean)) rm_J0_isLatin1_aae02 D E B Z [.ref (Z.2.1 w)] [] (some (.int (z4 1))) := by
  refine MRs_of (by decide +kernel) (Nat.le_of_ble_eq_true rfl) ?_
  intro p e s m args below meth c X hr hk hK hF hP ls hl
  have hx := X.1
  have hb := X.2.1
  have hl : lv_has ls 1 [(0, .ref (Z.2.1 w))] := hl
  have hS : va_S (fun q => B ≤ q) s.heap s.heap [] := va_S.rf
  refine va_gets hx hb hF.2.2.1 hS X.2.2.2.1 (X.2.2.2.2 _ (List.mem_cons_of_mem _ fJ_38)) (fun _ h => h) dJ0_isLatin1_aae02_0 ?_
  refine lv_if_eq (tgt := 17) hx hb dJ0_isLatin1_aae02_3 (by decide) (fun h => absurd h (by decide)) (fun _ => ?_)
  refine lv_aload_n hx hb dJ0_isLatin1_aae02_6 rfl (lv_at hl 0 rfl) ?_
  refine vk_getf hx hb (hF.2.2.2.2.1.1 w hw).2.1 hS X.2.2.2.1 (X.2.2.2.2 _ (List.mem_cons_of_mem _ fJ_15)) (fun _ h => h) dJ0_isLatin1_aae02_7 ?_
  refine lv_if_ne (tgt := 17) hx hb dJ0_isLatin1_aae02_10 (by decide) (fun h => absurd rfl h) (fun _ => ?_)
  refine m_iconst X dJ0_isLatin1_aae02_13 ?_
  refine lv_goto (tgt := 18) hx hb dJ0_isLatin1_aae02_14 (by decide) ?_
  exact m_zretR X hr hk (Or.inr rfl) dJ0_isLatin1_aae02_18
theorem k_J0_length {w : Nat} (hw : w < 3) : MRs l yJ0_length_8abf5 (.code yJ0_length_8abf5 cJ0_length_8abf5 1 (some .int)) rm_J0_length_8abf5 D E B Z [.ref (Z.2.1 w)] [] (some (.int (z4 (lenJ.getD w 0 : Nat)))) := by
  refine MRs_of (by decide +kernel) (Nat.le_of_ble_eq_true rfl) ?_
  intro p e s m args below meth c X hr hk hK hF hP ls hl
  have hx := X.1
  have hb := X.2.1
  have hl : lv_has ls 1 [(0, .ref (Z.2.1 w))] := hl
  have hS : va_S (fun q => B ≤ q) s.heap s.heap [] := va_S.rf
  refine lv_aload_n hx hb dJ0_length_8abf5_0 rfl (lv_at hl 0 rfl) ?_
  refine vk_getf hx hb (hF.2.2.2.2.1.1 w hw).2.2.1 hS X.2.2.2.1 (X.2.2.2.2 _ (List.mem_cons_of_mem _ fJ_9)) (fun _ h => h) dJ0_length_8abf5_1 ?_
  refine va_tlen hx hb (hF.2.2.2.2.1.1 w hw).2.2.2 hS (v := z4 (lenJ.getD w 0 : Nat)) (Int32.ofInt_eq_ofNat).symm dJ0_length_8abf5_4 ?_
  refine lv_aload_n hx hb dJ0_length_8abf5_5 rfl (lv_at hl 0 rfl) ?_
  refine m_cVRs X hK hF (fun _ h => h) hS (k_J0_coder hw) hP (vk_recv hF.2.2.2.2.1 hw hS) lk_J0_335 co_J0_coder_7d493 dy_J0_coder_7d493 rfl rfl ⟨Nat.le_of_ble_eq_true rfl, Nat.le_of_ble_eq_true rfl⟩ hl.1 rfl (Nat.le_of_ble_eq_true rfl) dJ0_length_8abf5_6 (Nat.zero_le _) (Nat.zero_le _) ?_
  have h4 : r4 ((lenJ.getD w 0 : Nat) : Int) := by
    rcases (show w = 0 ∨ w = 1 ∨ w = 2 by omega) with rfl | rfl | rfl <;> exact ⟨by decide, by decide⟩
  refine m_ishr X ⟨h4, by decide, by decide⟩ dJ0_length_8abf5_9 ?_
  rw [show sr_ ((lenJ.getD w 0 : Nat) : Int) 0 = ((lenJ.getD w 0 : Nat) : Int) by unfold sr_; simp]
  exact m_iretR X hr hk dJ0_length_8abf5_10
theorem k_J3_checkIndex {i n : Int} (h : 0 ≤ i ∧ i < n) (hn : n < 2147483648) (v : Value) (hv : v = .null ∨ ∃ t, v = .ref t) : MR l yJ3_checkIndex_8e157 (.code yJ3_checkIndex_8e157 cJ3_checkIndex_8e157 3 (some .int)) rm_J3_checkIndex_8e157 D E [.int (z4 i), .int (z4 n), v] [] (some (.int (z4 i))) := by
  have hc : (lg_sl [.int (z4 i), .int (z4 n), v]).length ≤ 3 := by
    rcases hv with rfl | ⟨t, rfl⟩ <;> exact Nat.le_of_ble_eq_true rfl
  refine MRiF (by decide +kernel) hc ?_
  intro p e s m args below meth c Q X hK hP ret ls hl
  have hx := X.1
  have hb := X.2.1
  have hl : lv_has ls 3 [(0, .int (z4 i)), (1, .int (z4 n)), (2, v)] := hl
  have r1 : r4 i := ⟨by omega, by omega⟩
  have r2 : r4 n := ⟨by omega, by omega⟩
  refine lv_iload_n hx hb dJ3_checkIndex_8e157_0 rfl (lv_at hl 0 rfl) ?_
  refine m_if_lt X r1 dJ3_checkIndex_8e157_1 (tgt := 9) (by decide) (fun q => absurd q (by omega)) (fun _ => ?_)
  refine lv_iload_n hx hb dJ3_checkIndex_8e157_4 rfl (lv_at hl 0 rfl) ?_
  refine lv_iload_n hx hb dJ3_checkIndex_8e157_5 rfl (lv_at hl 1 rfl) ?_
  refine m_icmp_lt X ⟨r1, r2⟩ dJ3_checkIndex_8e157_6 (tgt := 16) (by decide) (fun _ => ?_) (fun q => absurd h.2 q)
  refine lv_iload_n hx hb dJ3_checkIndex_8e157_16 rfl (lv_at hl 0 rfl) ?_
  exact ret _ _ dJ3_checkIndex_8e157_17
theorem k_J0_checkIndex {i n : Int} (h : 0 ≤ i ∧ i < n) (hn : n < 2147483648) : MRs l yJ0_checkIndex_df160 (.code yJ0_checkIndex_df160 cJ0_checkIndex_df160 2 none) rm_J0_checkIndex_df160 D E B Z [.int (z4 i), .int (z4 n)] [] none := by
  refine MRs_of (by decide +kernel) (Nat.le_of_ble_eq_true rfl) ?_
  intro p e s m args below meth c X hr hk hK hF hP ls hl
  have hx := X.1
  have hb := X.2.1
  have hl : lv_has ls 2 [(0, .int (z4 i)), (1, .int (z4 n))] := hl
  have hS : va_S (fun q => B ≤ q) s.heap s.heap [] := va_S.rf
  refine lv_iload_n hx hb dJ0_checkIndex_df160_0 rfl (lv_at hl 0 rfl) ?_
  refine lv_iload_n hx hb dJ0_checkIndex_df160_1 rfl (lv_at hl 1 rfl) ?_
  obtain ⟨v, hv, hZ⟩ : ∃ v : Value, (v = .null ∨ ∃ t, v = .ref t) ∧ va_Z "jdk/internal/util/Preconditions" "SIOOBE_FORMATTER" "Ljava/util/function/BiFunction;" v (fun q => B ≤ q) s s.heap := by
    rcases hF.2.2.2.1 with h | ⟨t, h⟩
    · exact ⟨_, Or.inl rfl, h⟩
    · exact ⟨_, Or.inr ⟨t, rfl⟩, h⟩
  refine va_gets hx hb hZ hS X.2.2.2.1 (X.2.2.2.2 _ (List.mem_cons_of_mem _ fJ_1053)) (fun _ h => h) dJ0_checkIndex_df160_2 ?_
  refine m_cSR X hK (k_J3_checkIndex h hn v hv) hP lk_J0_1059 co_J3_checkIndex_8e157 dy_J3_checkIndex_8e157 rfl rfl ⟨Nat.le_of_ble_eq_true rfl, Nat.le_of_ble_eq_true rfl⟩ hl.1 rfl (Nat.le_of_ble_eq_true rfl) dJ0_checkIndex_df160_5 (Nat.zero_le _) (Nat.zero_le _) ?_
  refine lv_pop hx hb dJ0_checkIndex_df160_8 rfl ?_
  exact W.vret hx hb hr (fun t ht _ => ⟨rfl, ht⟩) (fun _ h => by cases h) dJ0_checkIndex_df160_9 hk
theorem k_J1_charAt {w : Nat} (hw : w < 3) {k : Int} (hk0 : 0 ≤ k ∧ k < (lenJ.getD w 0 : Nat)) : MRs l yJ1_charAt_3b067 (.code yJ1_charAt_3b067 cJ1_charAt_3b067 2 (some .char)) rm_J1_charAt_3b067 D E B Z [.ref (Z.2.2 w), .int (z4 k)] [] (some (.int (z4 (chI w k.toNat)))) := by
  refine MRs_of (by decide +kernel) (Nat.le_of_ble_eq_true rfl) ?_
  intro p e s m args below meth c X hr hk hK hF hP ls hl
  have hx := X.1
  have hb := X.2.1
  have hl : lv_has ls 2 [(0, .ref (Z.2.2 w)), (1, .int (z4 k))] := hl
  have hS : va_S (fun q => B ≤ q) s.heap s.heap [] := va_S.rf
  have hT := (hF.2.2.2.2.1.1 w hw).2.2.2
  have hL : (lenJ.getD w 0 : Nat) ≤ 6 := by
    rcases (show w = 0 ∨ w = 1 ∨ w = 2 by omega) with rfl | rfl | rfl <;> decide
  have hin := z4_in (n := lenJ.getD w 0) (by omega) hk0
  obtain ⟨c1, c2, c3⟩ := ch_ok w hw k.toNat (by omega)
  refine lv_iload_n hx hb dJ1_charAt_3b067_0 rfl (lv_at hl 1 rfl) ?_
  refine lv_aload_n hx hb dJ1_charAt_3b067_1 rfl (lv_at hl 0 rfl) ?_
  refine va_tlen hx hb hT hS (v := z4 (lenJ.getD w 0 : Nat)) (Int32.ofInt_eq_ofNat).symm dJ1_charAt_3b067_2 ?_
  refine m_cSRs X hK hF (fun _ h => h) hS (k_J0_checkIndex hk0 (by omega)) hP lk_J1_9 co_J0_checkIndex_df160 dy_J0_checkIndex_df160 rfl rfl ⟨Nat.le_of_ble_eq_true rfl, Nat.le_of_ble_eq_true rfl⟩ hl.1 rfl (Nat.le_of_ble_eq_true rfl) dJ1_charAt_3b067_3 (Nat.zero_le _) (Nat.zero_le _) ?_
  refine lv_aload_n hx hb dJ1_charAt_3b067_6 rfl (lv_at hl 0 rfl) ?_
  refine lv_iload_n hx hb dJ1_charAt_3b067_7 rfl (lv_at hl 1 rfl) ?_
  refine va_tb hx hb hT hS hin.1 (v := .int (z4 (chI w k.toNat))) (by rw [hin.2]; show Value.int _ = _; rw [c1]) dJ1_charAt_3b067_8 ?_
  refine m_sipush X dJ1_charAt_3b067_9 (by decide) ?_
  refine m_iand X ⟨⟨by omega, by omega⟩, ⟨by decide, by decide⟩⟩ dJ1_charAt_3b067_12 ?_
  have e1 : an_ (chI w k.toNat) 255 = chI w k.toNat := by
    unfold an_
    have : ((chI w k.toNat).toNat &&& (255 : Int).toNat) = (chI w k.toNat).toNat % 2 ^ 8 := Nat.and_two_pow_sub_one_eq_mod _ 8
    rw [this, Nat.mod_eq_of_lt (by omega)]
    omega
  rw [e1]
  have r5 : r4 (chI w k.toNat) := ⟨by omega, by omega⟩
  refine lv_i2c hx hb dJ1_charAt_3b067_13 (v := z4 (chI w k.toNat)) (lg_i2c_word (by rw [z4_toInt r5]; omega) (by rw [z4_toInt r5]; omega)) ?_
  refine W.zret hx hb hr ?_ (fun t ht _ => ⟨rfl, ht⟩) (fun _ h => by cases h) dJ1_charAt_3b067_14 hk
  show Value.int _ = Value.int _
  congr 1
  first | exact lg_i2c_word (by rw [z4_toInt r5]; omega) (by rw [z4_toInt r5]; omega) | (rw [← lg_i2c_nf]; exact lg_i2c_word (by rw [z4_toInt r5]; omega) (by rw [z4_toInt r5]; omega))
theorem k_J0_charAt {w : Nat} (hw : w < 3) {k : Int} (hk0 : 0 ≤ k ∧ k < (lenJ.getD w 0 : Nat)) : MRs l yJ0_charAt_5068e (.code yJ0_charAt_5068e cJ0_charAt_5068e 2 (some .char)) rm_J0_charAt_5068e D E B Z [.ref (Z.2.1 w), .int (z4 k)] [] (some (.int (z4 (chI w k.toNat)))) := by
  refine MRs_of (by decide +kernel) (Nat.le_of_ble_eq_true rfl) ?_
  intro p e s m args below meth c X hr hk hK hF hP ls hl
  have hx := X.1
  have hb := X.2.1
  have hl : lv_has ls 2 [(0, .ref (Z.2.1 w)), (1, .int (z4 k))] := hl
  have hS : va_S (fun q => B ≤ q) s.heap s.heap [] := va_S.rf
  have hL : (lenJ.getD w 0 : Nat) ≤ 6 := by
    rcases (show w = 0 ∨ w = 1 ∨ w = 2 by omega) with rfl | rfl | rfl <;> decide
  obtain ⟨c1, c2, c3⟩ := ch_ok w hw k.toNat (by omega)
  have r5 : r4 (chI w k.toNat) := ⟨by omega, by omega⟩
  refine lv_aload_n hx hb dJ0_charAt_5068e_0 rfl (lv_at hl 0 rfl) ?_
  refine m_cVRs X hK hF (fun _ h => h) hS (k_J0_isLatin1 hw) hP (vk_recv hF.2.2.2.2.1 hw hS) lk_J0_492 co_J0_isLatin1_aae02 dy_J0_isLatin1_aae02 rfl rfl ⟨Nat.le_of_ble_eq_true rfl, Nat.le_of_ble_eq_true rfl⟩ hl.1 rfl (Nat.le_of_ble_eq_true rfl) dJ0_charAt_5068e_1 (Nat.zero_le _) (Nat.zero_le _) ?_
  refine m_if_eq X ⟨by decide, by decide⟩ dJ0_charAt_5068e_4 (tgt := 16) (by decide) (fun q => absurd q (by decide)) (fun _ => ?_)
  refine lv_aload_n hx hb dJ0_charAt_5068e_7 rfl (lv_at hl 0 rfl) ?_
  refine vk_getf hx hb (hF.2.2.2.2.1.1 w hw).2.2.1 hS X.2.2.2.1 (X.2.2.2.2 _ (List.mem_cons_of_mem _ fJ_9)) (fun _ h => h) dJ0_charAt_5068e_8 ?_
  refine lv_iload_n hx hb dJ0_charAt_5068e_11 rfl (lv_at hl 1 rfl) ?_
  refine m_cSRs X hK hF (fun _ h => h) hS (k_J1_charAt hw hk0) hP lk_J0_495 co_J1_charAt_3b067 dy_J1_charAt_3b067 rfl rfl ⟨Nat.le_of_ble_eq_true rfl, Nat.le_of_ble_eq_true rfl⟩ hl.1 rfl (Nat.le_of_ble_eq_true rfl) dJ0_charAt_5068e_12 (Nat.zero_le _) (Nat.zero_le _) ?_
  refine W.zret hx hb hr ?_ (fun t ht _ => ⟨rfl, ht⟩) (fun _ h => by cases h) dJ0_charAt_5068e_15 hk
  show Value.int _ = Value.int _
  congr 1
  first | exact lg_i2c_word (by rw [z4_toInt r5]; omega) (by rw [z4_toInt r5]; omega) | (rw [← lg_i2c_nf]; exact lg_i2c_word (by rw [z4_toInt r5]; omega) (by rw [z4_toInt r5]; omega))
end STRS
