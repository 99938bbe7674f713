abbrev cy_ (sp n dp n0 n1 : Int) : Prop := 0 ≤ sp ∧ 0 ≤ n ∧ sp + n ≤ n0 ∧ 0 ≤ dp ∧ dp + n ≤ n1 ∧ n < 2147483648 ∧ sp < 2147483648 ∧ dp < 2147483648
abbrev hR_ (x y : Int) : Prop := r4 x ∧ (0 ≤ y ∧ y < 32)
abbrev ix_ (i n : Int) : Prop := 0 ≤ i ∧ i < n
/-- how many bits are 1, of numbers below 16 -/
def bc_ (x : Int) : Int := if x = 0 then 0 else if x = 1 ∨ x = 2 ∨ x = 4 ∨ x = 8 then 1 else if x = 3 ∨ x = 5 ∨ x = 6 ∨ x = 9 ∨ x = 10 ∨ x = 12 then 2 else if x = 15 then 4 else 3
def us_ (x : Int32) (y : Int32) : Int32 := (x.toUInt32 >>> (y.toUInt32 &&& Int32.toUInt32 31)).toInt32
def bc0 (v : Int32) : Int32 := v - (us_ v (Int32.ofInt 1) &&& z4 1431655765)
def bc1 (v : Int32) : Int32 := (v &&& z4 858993459) + (us_ v (Int32.ofInt 2) &&& z4 858993459)
def bc2 (v : Int32) : Int32 := (v + us_ v (Int32.ofInt 4)) &&& z4 252645135
def bc3 (v : Int32) : Int32 := v + us_ v ((Int8.ofInt 8).toInt32)
def bc4 (v : Int32) : Int32 := v + us_ v ((Int8.ofInt 16).toInt32)
def bc5 (v : Int32) : Int32 := v &&& (Int8.ofInt 63).toInt32
theorem bc_ok (x : Int) (h : 0 ≤ x ∧ x < 16) : bc5 (bc4 (bc3 (bc2 (bc1 (bc0 (z4 x)))))) = z4 (bc_ x) := by
  rcases (show x = 0 ∨ x = 1 ∨ x = 2 ∨ x = 3 ∨ x = 4 ∨ x = 5 ∨ x = 6 ∨ x = 7 ∨ x = 8 ∨ x = 9 ∨ x = 10 ∨ x = 11 ∨ x = 12 ∨ x = 13 ∨ x = 14 ∨ x = 15 by omega) with rfl | rfl | rfl | rfl | rfl | rfl | rfl | rfl | rfl | rfl | rfl | rfl | rfl | rfl | rfl | rfl <;> decide
def F_J6_bitCount_0f7a4 (n : Nat) (x0 : Int) : Option Int := ck (0 ≤ x0 ∧ x0 < 16) (some (bc_ x0))
def rm_J6_bitCount_0f7a4 : Room := { frames := 0, cells := 0, slots := 0, locals := 0 }
set_option maxHeartbeats 4000000 in
set_option maxRecDepth 100000 in
theorem k_J6_bitCount_0f7a4 {l : Launch} {D : va_G} {E : Nat → ClassId} (n : Nat) (x0 : Int) (res : Int) (hf : F_J6_bitCount_0f7a4 n x0 = some res) : MR l yJ6_bitCount_0f7a4 (.code yJ6_bitCount_0f7a4 cJ6_bitCount_0f7a4 1 (some .int)) rm_J6_bitCount_0f7a4 D E [.int (z4 x0)] [] (some (.int (z4 res))) := by
  unfold F_J6_bitCount_0f7a4 at hf
  obtain ⟨h, hf⟩ := ck_some hf
  obtain rfl := Option.some.inj hf
  refine MRi (by decide) (Nat.le_of_ble_eq_true rfl) ?_
  intro p e s m args below meth c Q X hK hP ret ls hl
  have hx := X.1
  have hb := X.2.1
  have hl : lv_has ls 1 [(0, .int (z4 x0))] := hl
  refine lv_iload_n hx hb dJ6_bitCount_0f7a4_0 rfl (lv_at hl 0 rfl) ?_
  refine lv_iload_n hx hb dJ6_bitCount_0f7a4_1 rfl (lv_at hl 0 rfl) ?_
  refine lv_iconst hx hb dJ6_bitCount_0f7a4_2 rfl ?_
  refine lv_iushr hx hb dJ6_bitCount_0f7a4_3 rfl ?_
  refine lv_ldcw hx hb X.2.2.2.1 (X.2.2.2.2 _ (List.mem_cons_of_mem _ co_J6_265)) dJ6_bitCount_0f7a4_4 ?_
  refine lv_iand hx hb dJ6_bitCount_0f7a4_7 ?_
  refine lv_isub hx hb dJ6_bitCount_0f7a4_8 ?_
  refine lv_istore_n hx hb dJ6_bitCount_0f7a4_9 rfl hl (by decide) rfl (fun ls hl => ?_)
  refine lv_iload_n hx hb dJ6_bitCount_0f7a4_10 rfl (lv_at hl 0 rfl) ?_
  refine lv_ldcw hx hb X.2.2.2.1 (X.2.2.2.2 _ (List.mem_cons_of_mem _ co_J6_266)) dJ6_bitCount_0f7a4_11 ?_
  refine lv_iand hx hb dJ6_bitCount_0f7a4_14 ?_
  refine lv_iload_n hx hb dJ6_bitCount_0f7a4_15 rfl (lv_at hl 0 rfl) ?_
  refine lv_iconst hx hb dJ6_bitCount_0f7a4_16 rfl ?_
  refine lv_iushr hx hb dJ6_bitCount_0f7a4_17 rfl ?_
  refine lv_ldcw hx hb X.2.2.2.1 (X.2.2.2.2 _ (List.mem_cons_of_mem _ co_J6_266)) dJ6_bitCount_0f7a4_18 ?_
  refine lv_iand hx hb dJ6_bitCount_0f7a4_21 ?_
  refine lv_iadd hx hb dJ6_bitCount_0f7a4_22 ?_
  refine lv_istore_n hx hb dJ6_bitCount_0f7a4_23 rfl hl (by decide) rfl (fun ls hl => ?_)
  refine lv_iload_n hx hb dJ6_bitCount_0f7a4_24 rfl (lv_at hl 0 rfl) ?_
  refine lv_iload_n hx hb dJ6_bitCount_0f7a4_25 rfl (lv_at hl 0 rfl) ?_
  refine lv_iconst hx hb dJ6_bitCount_0f7a4_26 rfl ?_
  refine lv_iushr hx hb dJ6_bitCount_0f7a4_27 rfl ?_
  refine lv_iadd hx hb dJ6_bitCount_0f7a4_28 ?_
  refine lv_ldcw hx hb X.2.2.2.1 (X.2.2.2.2 _ (List.mem_cons_of_mem _ co_J6_267)) dJ6_bitCount_0f7a4_29 ?_
  refine lv_iand hx hb dJ6_bitCount_0f7a4_32 ?_
  refine lv_istore_n hx hb dJ6_bitCount_0f7a4_33 rfl hl (by decide) rfl (fun ls hl => ?_)
  refine lv_iload_n hx hb dJ6_bitCount_0f7a4_34 rfl (lv_at hl 0 rfl) ?_
  refine lv_iload_n hx hb dJ6_bitCount_0f7a4_35 rfl (lv_at hl 0 rfl) ?_
  refine lv_bipush hx hb dJ6_bitCount_0f7a4_36 rfl ?_
  refine lv_iushr hx hb dJ6_bitCount_0f7a4_38 rfl ?_
  refine lv_iadd hx hb dJ6_bitCount_0f7a4_39 ?_
  refine lv_istore_n hx hb dJ6_bitCount_0f7a4_40 rfl hl (by decide) rfl (fun ls hl => ?_)
  refine lv_iload_n hx hb dJ6_bitCount_0f7a4_41 rfl (lv_at hl 0 rfl) ?_
  refine lv_iload_n hx hb dJ6_bitCount_0f7a4_42 rfl (lv_at hl 0 rfl) ?_
  refine lv_bipush hx hb dJ6_bitCount_0f7a4_43 rfl ?_
  refine lv_iushr hx hb dJ6_bitCount_0f7a4_45 rfl ?_
  refine lv_iadd hx hb dJ6_bitCount_0f7a4_46 ?_
  refine lv_istore_n hx hb dJ6_bitCount_0f7a4_47 rfl hl (by decide) rfl (fun ls hl => ?_)
  refine lv_iload_n hx hb dJ6_bitCount_0f7a4_48 rfl (lv_at hl 0 rfl) ?_
  refine lv_bipush hx hb dJ6_bitCount_0f7a4_49 rfl ?_
  refine lv_iand hx hb dJ6_bitCount_0f7a4_51 ?_
  exact W.eq (g2 := F0 m 52 ls [.int (z4 (bc_ x0))]) (by rw [← bc_ok x0 h]; rfl) (ret _ _ dJ6_bitCount_0f7a4_52)
theorem z4_tdiv {x y : Int} (hx : r4 x) (hy : 0 < y ∧ y < 2147483648) : z4 x / z4 y = z4 (x.tdiv y) := by
  have h2 : r4 y := ⟨by omega, by omega⟩
  have e1 : (z4 x / z4 y).toInt = x.tdiv y := by
    rw [Int32.toInt_div_of_ne_right _ _ (fun q => by
      have := congrArg Int32.toInt q
      rw [z4_toInt h2] at this
      have h5 : (-1 : Int32).toInt = -1 := rfl
      rw [h5] at this
      omega), z4_toInt hx, z4_toInt h2]
  rw [← e1, z4_back]
theorem z4_trem {x y : Int} (hx : r4 x) (hy : 0 < y ∧ y < 2147483648) : z4 x - z4 x / z4 y * z4 y = z4 (x.tmod y) := by
  rw [z4_tdiv hx hy, z4_mul, z4_sub]
  congr 1
  have := Int.tmod_add_mul_tdiv x y
  rw [Int.mul_comm] at this
  omega
theorem z4_xor_ge {x y : Int} (hx : r4 x) (hy : 0 < y ∧ y < 2147483648) : (0 ≤ z4 x ^^^ z4 y) ↔ 0 ≤ x := by
  have h2 : r4 y := ⟨by omega, by omega⟩
  rw [Int32.le_iff_toInt_le]
  show (0 : Int) ≤ (z4 x ^^^ z4 y).toBitVec.toInt ↔ _
  have m1 : (z4 x).toBitVec.msb = decide (x < 0) := by
    rw [BitVec.msb_eq_toInt]
    show decide ((z4 x).toInt < 0) = _
    rw [z4_toInt hx]
  have m2 : (z4 y).toBitVec.msb = false := by
    rw [BitVec.msb_eq_toInt]
    show decide ((z4 y).toInt < 0) = _
    rw [z4_toInt h2]
    simp; omega
  have m3 : (z4 x ^^^ z4 y).toBitVec.msb = decide (x < 0) := by
    rw [Int32.toBitVec_xor, BitVec.msb_xor, m1, m2]
    simp
  rw [BitVec.msb_eq_toInt] at m3
  have m4 := decide_eq_decide.mp m3
  omega
theorem MRiF {l : Launch} {y : MethodName} {cc : ByteArray} {nL : Nat} {rm : Room} {D : va_G} {E : Nat → ClassId} {av : List Value} {wc : va_W} {x : Int} (hy : plainFor y = true) (hlen : (lg_sl av).length ≤ nL)
    (body : ∀ (p : Program) (e : Env) (s : State) (m : MethodId) (args : Array Value) (below : List Frame) (meth : Method) (c : Code) (Q : State → Prop), CallFix p m c cc nL s args (.code y cc nL (some .int) :: TT) y.cls → KK D E s → va_P D vwCl wc s.heap → (∀ (pc : Nat) (ls : Array Slot), decode cc pc = .ok (.ireturn, 1) → W p l e rm s m args below meth c s.heap [] 0 0 Q (F0 m pc ls [.int (z4 x)])) → ∀ ls : Array Slot, lv_has ls nL (lv_args 0 av) →
      W p l e rm s m args below meth c s.heap [] 0 0 Q (F0 m 0 ls [])) : MR l y (.code y cc nL (some .int)) rm D E av wc (some (.int (z4 x))) := by
  refine va_MetF (cc := cc) (maxL := nL) (ret := some .int) hy rfl ?_
  intro p e s m args below meth c s₁ B hml hv
  obtain ⟨hav, hP, hK⟩ := hv
  subst hav
  rw [lg_entry_eq]
  have X : CallFix p m c cc nL s av.toArray (.code y cc nL (some .int) :: TT) y.cls := ⟨B.exec, B.bytes, hml, findClass_of_methodNamed B.named, atoms_spec (ws := .code y cc nL (some .int) :: TT) B.pre⟩
  exact body p e s m _ below meth c _ X hK hP (fun _ _ d => m_iretR X B.returns B.notSynchronized d) _ (lv_entry av hlen)
def F_J9_floorMod_7cf53 (n : Nat) (x0 x1 : Int) : Option Int := ck (r4 x0 ∧ 0 < x1 ∧ x1 < 2147483648) (some (x0 % x1))
def rm_J9_floorMod_7cf53 : Room := { frames := 0, cells := 0, slots := 0, locals := 0 }
set_option maxHeartbeats 4000000 in
set_option maxRecDepth 100000 in
theorem k_J9_floorMod_7cf53 {l : Launch} {D : va_G} {E : Nat → ClassId} (n : Nat) (x0 x1 : Int) (res : Int) (hf : F_J9_floorMod_7cf53 n x0 x1 = some res) : MR l yJ9_floorMod_7cf53 (.code yJ9_floorMod_7cf53 cJ9_floorMod_7cf53 3 (some .int)) rm_J9_floorMod_7cf53 D E [.int (z4 x0), .int (z4 x1)] [] (some (.int (z4 res))) := by
  unfold F_J9_floorMod_7cf53 at hf
  obtain ⟨⟨hx4, hy⟩, hf⟩ := ck_some hf
  obtain rfl := Option.some.inj hf
  refine MRiF (by decide +kernel) (Nat.le_of_ble_eq_true rfl) ?_
  intro p e s m args below meth c Q X hK hP ret ls hl
  have hx := X.1
  have hb := X.2.1
  have hl : lv_has ls 3 [(0, .int (z4 x0)), (1, .int (z4 x1))] := hl
  have tm := Int.tmod_eq_emod (a := x0) (b := x1)
  have em1 : 0 ≤ x0 % x1 := Int.emod_nonneg _ (by omega)
  have em2 : x0 % x1 < x1 := Int.emod_lt_of_pos _ hy.1
  have dv : x1 ∣ x0 ↔ x0 % x1 = 0 := Int.dvd_iff_emod_eq_zero
  have rt : r4 (x0.tmod x1) := by
    rw [tm]
    split <;> constructor <;> omega
  refine lv_iload_n hx hb dJ9_floorMod_7cf53_0 rfl (lv_at hl 0 rfl) ?_
  refine lv_iload_n hx hb dJ9_floorMod_7cf53_1 rfl (lv_at hl 1 rfl) ?_
  refine lv_irem hx hb dJ9_floorMod_7cf53_2 (z4_ne0 hy) ?_
  rw [z4_trem hx4 hy]
  refine lv_istore_n (lv' := [(2, .int (z4 (x0.tmod x1))), (0, .int (z4 x0)), (1, .int (z4 x1))]) hx hb dJ9_floorMod_7cf53_3 rfl hl (by decide) rfl (fun ls hl => ?_)
  refine lv_iload_n hx hb dJ9_floorMod_7cf53_4 rfl (lv_at hl 1 rfl) ?_
  refine lv_iload_n hx hb dJ9_floorMod_7cf53_5 rfl (lv_at hl 2 rfl) ?_
  refine lv_ixor hx hb dJ9_floorMod_7cf53_6 ?_
  refine lv_if_ge (tgt := 18) hx hb dJ9_floorMod_7cf53_7 (by decide) (fun hg => ?_) (fun hg => ?_)
  · have h0 : 0 ≤ x0 := (z4_xor_ge hx4 hy).mp hg
    refine lv_iload_n hx hb dJ9_floorMod_7cf53_18 rfl (lv_at hl 0 rfl) ?_
    rw [Int.tmod_eq_emod_of_nonneg h0]
    exact ret _ _ dJ9_floorMod_7cf53_19
  · have h0 : ¬ 0 ≤ x0 := fun z => hg ((z4_xor_ge hx4 hy).mpr z)
    refine lv_iload_n hx hb dJ9_floorMod_7cf53_10 rfl (lv_at hl 0 rfl) ?_
    refine m_if_eq X rt dJ9_floorMod_7cf53_11 (tgt := 18) (by decide) (fun hz => ?_) (fun hz => ?_)
    · refine lv_iload_n hx hb dJ9_floorMod_7cf53_18 rfl (lv_at hl 0 rfl) ?_
      have e0 : x0.tmod x1 = x0 % x1 := by
        rw [tm] at hz ⊢
        split at hz <;> rename_i hq
        · rw [if_pos hq]; omega
        · have : ¬ x0 % x1 = 0 := fun z => hq (Or.inr (dv.mpr z))
          omega
      rw [e0]
      exact ret _ _ dJ9_floorMod_7cf53_19
    · refine lv_iload_n hx hb dJ9_floorMod_7cf53_14 rfl (lv_at hl 0 rfl) ?_
      refine lv_iload_n hx hb dJ9_floorMod_7cf53_15 rfl (lv_at hl 2 rfl) ?_
      refine m_iadd X dJ9_floorMod_7cf53_16 ?_
      have e0 : x0.tmod x1 + x1 = x0 % x1 := by
        rw [tm] at hz ⊢
        split at hz <;> rename_i hq
        · exfalso
          rcases hq with hq | hq
          · exact h0 hq
          · rw [dv] at hq; omega
        · rw [if_neg hq]; omega
      rw [e0]
      exact ret _ _ dJ9_floorMod_7cf53_17
