/-! what the start gives of statics and of String constants: all below the place B -/
abbrev ZT : Type := Nat × (Nat → Nat) × (Nat → Nat)
def fc_ : Nat → Int := fun j => [1, 2, 4, 2, 1].getD j 0
def lenJ : List Nat := [4, 6, 4]
def bytJ : List (List Int32) := [[114, 117, 108, 101], [99, 104, 97, 110, 99, 101], [115, 117, 109, 115]]
/-- links across the nest -/
def NS (U : State) : Prop := va_Nw (.fieldLinkNest RX4 31 "RunWatch" "FIRST_CHANCES" "[I" "RunWatch") U ∧ va_Nw (.methodLinkNest RX11 9 yX5_init "RunWatch") U ∧ va_Nw (.methodLinkNest RX11 23 yX7_init "RunWatch") U ∧ va_Nw (.methodLinkNest RX11 45 yX10_init "RunWatch") U ∧ va_Nw (.methodLinkNest RX11 59 yX3_init "RunWatch") U ∧ va_Nw (.methodLinkNest RX11 66 yX2_init "RunWatch") U ∧ va_Nw (.methodLinkNest RX11 73 yX8_init "RunWatch") U ∧ va_Nw (.methodLinkNest RX0 24 yX7_init "RunWatch") U ∧ va_Nw (.methodLinkNest RX5 11 yX9_init "RunWatch") U ∧ va_Nw (.methodLinkNest RX7 18 yX6_init "RunWatch") U
theorem NS.warm {s U : State} (hW : s.WarmedH U.vm) (h : NS s) : NS U := by
  obtain ⟨h0, h1, h2, h3, h4, h5, h6, h7, h8, h9⟩ := h
  exact ⟨h0.warmF hW, h1.warmM hW, h2.warmM hW, h3.warmM hW, h4.warmM hW, h5.warmM hW, h6.warmM hW, h7.warmM hW, h8.warmM hW, h9.warmM hW⟩
theorem NS.same {u U : State} (hv : u.vm = U.vm) (h : NS u) : NS U := by
  obtain ⟨h0, h1, h2, h3, h4, h5, h6, h7, h8, h9⟩ := h
  exact ⟨h0.same rfl hv, h1.same rfl hv, h2.same rfl hv, h3.same rfl hv, h4.same rfl hv, h5.same rfl hv, h6.same rfl hv, h7.same rfl hv, h8.same rfl hv, h9.same rfl hv⟩
def SF (B : Nat) (Z : ZT) (U : State) (H : Heap) : Prop :=
  va_Z "RunWatch" "FIRST_CHANCES" "[I" (.ref Z.1) (fun q => B ≤ q) U H ∧ va_T .int Z.1 5 (fun j => .int (z4 (fc_ j))) (fun q => B ≤ q) U H ∧ va_Z "java/lang/String" "COMPACT_STRINGS" "Z" (.int 1) (fun q => B ≤ q) U H ∧ va_Zq "jdk/internal/util/Preconditions" "SIOOBE_FORMATTER" "Ljava/util/function/BiFunction;" (fun q => B ≤ q) U H ∧ vk_S 3 lenJ bytJ Z.2.1 Z.2.2 (fun q => B ≤ q) U H ∧ vk_R "RunWatch$Text" 59 "rule" (Z.2.1 0) U ∧ vk_R "RunWatch$Text" 65 "chance" (Z.2.1 1) U ∧ vk_R "RunWatch$Text" 67 "sums" (Z.2.1 2) U ∧ NS U
theorem SF.to {B : Nat} {Z : ZT} {s U : State} {H : Heap} (h : SF B Z s s.heap) (hW : s.WarmedH U.vm) (hq : ∀ a : Nat, a < s.heap.size → ¬ B ≤ a → H[a]? = s.heap[a]?) : SF B Z U H := by
  obtain ⟨h1, h2, h3, h4, h5, h6, h7, h8, h9⟩ := h
  have hv := hW.alike
  exact ⟨(h1.kept hq).moved hv, (h2.kept hq).moved hv, (h3.kept hq).moved hv, (h4.kept hq).moved hv, (h5.kept hq).moved hv, h6.warm hW, h7.warm hW, h8.warm hW, h9.warm hW⟩
theorem SF.same {B : Nat} {Z : ZT} {u U : State} (h : SF B Z u u.heap) (hv : U.vm = u.vm) (hh : U.heap = u.heap) : SF B Z U U.heap := by
  obtain ⟨h1, h2, h3, h4, h5, h6, h7, h8, h9⟩ := h
  have ha : u.vm.Alike U.vm := by rw [hv]; exact Vm.Alike.refl u.vm
  rw [hh]
  exact ⟨h1.moved ha, h2.moved ha, h3.moved ha, h4.moved ha, h5.moved ha, h6.same hv, h7.same hv, h8.same hv, h9.same hv.symm⟩
def MRs (l : Launch) (y : MethodName) (cy : Cond) (rm : Room) (D : va_G) (E : Nat → ClassId) (B : Nat) (Z : ZT) (av : List Value) (wc : va_W) (rv : Option Value) : Prop :=
  Met l y (cy :: TT) rm (va_Pc av (fun U => va_P D vwCl wc U.heap ∧ KK D E U ∧ SF B Z U U.heap)) (fun _ st o t => o = .returned rv ∧ t.heap = st.heap) 0 0 (fun _ => False)
def MWs (l : Launch) (y : MethodName) (cy : Cond) (rm : Room) (D : va_G) (E : Nat → ClassId) (B : Nat) (Z : ZT) (av : List Value) (wc : va_W) (rv : Option Value) (w1 : va_W) : Prop :=
  ∀ sz : Nat, Met l y (cy :: TT) rm (va_Pc av (fun U => U.heap.size = sz ∧ va_P D vwCl wc U.heap ∧ KK D E U ∧ va_D (fun q => B ≤ q) wc ∧ B ≤ sz ∧ SF B Z U U.heap)) (fun _ st o t => o = .returned rv ∧ (va_P D vwCl w1 t.heap ∧ KK D E t ∧ va_D (va_A wc sz) w1) ∧ va_F (va_A wc sz) st t) 0 0 (va_A wc sz)
theorem MRs_of {l : Launch} {y : MethodName} {cc : ByteArray} {nL : Nat} {ret : Option FieldType} {rm : Room} {D : va_G} {E : Nat → ClassId} {B : Nat} {Z : ZT} {av : List Value} {wc : va_W} {rv : Option Value} (hy : plainFor y = true) (hlen : (lg_sl av).length ≤ nL)
    (body : ∀ (p : Program) (e : Env) (s : State) (m : MethodId) (args : Array Value) (below : List Frame) (meth : Method) (c : Code), CallFix p m c cc nL s args (.code y cc nL ret :: TT) y.cls → meth.sig.returnType = ret → meth.locks = false → KK D E s → SF B Z s s.heap → va_P D vwCl wc s.heap → ∀ ls : Array Slot, lv_has ls nL (lv_args 0 av) →
      W p l e rm s m args below meth c s.heap [] 0 0 (MQ below (QR rv) args s 0 0 (fun _ => False)) (F0 m 0 ls [])) : MRs l y (.code y cc nL ret) rm D E B Z av wc rv := by
  refine va_MetF (cc := cc) (maxL := nL) (ret := ret) hy rfl ?_
  intro p e s m args below meth c s₁ B9 hml hv
  obtain ⟨hav, hP, hK, hF⟩ := hv
  subst hav
  rw [lg_entry_eq]
  exact body p e s m _ below meth c ⟨B9.exec, B9.bytes, hml, findClass_of_methodNamed B9.named, atoms_spec (ws := .code y cc nL ret :: TT) B9.pre⟩ B9.returns B9.notSynchronized hK hF hP _ (lv_entry av hlen)
theorem MWs_of {l : Launch} {y : MethodName} {cc : ByteArray} {nL : Nat} {ret : Option FieldType} {rm : Room} {D : va_G} {E : Nat → ClassId} {B : Nat} {Z : ZT} {av : List Value} {wc w1 : va_W} {rv : Option Value} (hy : plainFor y = true) (hlen : (lg_sl av).length ≤ nL)
    (body : ∀ (p : Program) (e : Env) (s : State) (m : MethodId) (args : Array Value) (below : List Frame) (meth : Method) (c : Code) (A : Nat → Prop), CallFix p m c cc nL s args (.code y cc nL ret :: TT) y.cls → meth.sig.returnType = ret → meth.locks = false → KK D E s → SF B Z s s.heap → va_P D vwCl wc s.heap → va_D A wc → (∀ q, s.heap.size ≤ q → A q) → (∀ q, A q → B ≤ q) → ∀ ls : Array Slot, lv_has ls nL (lv_args 0 av) →
      W p l e rm s m args below meth c s.heap [] 0 0 (MQ below (QW D E rv w1 A) args s 0 0 A) (F0 m 0 ls [])) : MWs l y (.code y cc nL ret) rm D E B Z av wc rv w1 := by
  intro sz
  refine va_MetF (cc := cc) (maxL := nL) (ret := ret) hy rfl ?_
  intro p e s m args below meth c s₁ B9 hml hv
  obtain ⟨hav, hsz, hP, hK, hD, hB, hF⟩ := hv
  subst hav
  subst hsz
  rw [lg_entry_eq]
  exact body p e s m _ below meth c (va_A wc s.heap.size) ⟨B9.exec, B9.bytes, hml, findClass_of_methodNamed B9.named, atoms_spec (ws := .code y cc nL ret :: TT) B9.pre⟩ B9.returns B9.notSynchronized hK hF hP hD.self (fun q h => Or.inr h) (fun q h => by
    rcases h with ⟨k, e, h⟩ | h
    · exact hD.2 k _ h
    · omega) _ (lv_entry av hlen)
theorem MRzs {l : Launch} {y : MethodName} {cc : ByteArray} {nL : Nat} {rm : Room} {D : va_G} {E : Nat → ClassId} {B : Nat} {Z : ZT} {av : List Value} {wc : va_W} {x : Int} (hy : plainFor y = true) (hlen : (lg_sl av).length ≤ nL)
    (body : ∀ (p : Program) (e : Env) (s : State) (m : MethodId) (args : Array Value) (below : List Frame) (meth : Method) (c : Code) (Q : State → Prop), CallFix p m c cc nL s args (.code y cc nL (some .boolean) :: TT) y.cls → KK D E s → SF B Z s s.heap → va_P D vwCl wc s.heap → (∀ (pc : Nat) (ls : Array Slot), (x = 0 ∨ x = 1) → decode cc pc = .ok (.ireturn, 1) → W p l e rm s m args below meth c s.heap [] 0 0 Q (F0 m pc ls [.int (z4 x)])) → ∀ ls : Array Slot, lv_has ls nL (lv_args 0 av) →
      W p l e rm s m args below meth c s.heap [] 0 0 Q (F0 m 0 ls [])) : MRs l y (.code y cc nL (some .boolean)) rm D E B Z av wc (some (.int (z4 x))) :=
  MRs_of hy hlen fun p e s m args below meth c X hr hk hK hF hP ls hl => body p e s m args below meth c _ X hK hF hP (fun _ _ h d => m_zretR X hr hk h d) ls hl
theorem MRis {l : Launch} {y : MethodName} {cc : ByteArray} {nL : Nat} {rm : Room} {D : va_G} {E : Nat → ClassId} {B : Nat} {Z : ZT} {av : List Value} {wc : va_W} {x : Int} (hy : plainFor y = true) (hlen : (lg_sl av).length ≤ nL)
    (body : ∀ (p : Program) (e : Env) (s : State) (m : MethodId) (args : Array Value) (below : List Frame) (meth : Method) (c : Code) (Q : State → Prop), CallFix p m c cc nL s args (.code y cc nL (some .int) :: TT) y.cls → KK D E s → SF B Z s s.heap → va_P D vwCl wc s.heap → (∀ (pc : Nat) (ls : Array Slot), decode cc pc = .ok (.ireturn, 1) → W p l e rm s m args below meth c s.heap [] 0 0 Q (F0 m pc ls [.int (z4 x)])) → ∀ ls : Array Slot, lv_has ls nL (lv_args 0 av) →
      W p l e rm s m args below meth c s.heap [] 0 0 Q (F0 m 0 ls [])) : MRs l y (.code y cc nL (some .int)) rm D E B Z av wc (some (.int (z4 x))) :=
  MRs_of hy hlen fun p e s m args below meth c X hr hk hK hF hP ls hl => body p e s m args below meth c _ X hK hF hP (fun _ _ d => m_iretR X hr hk d) ls hl
theorem MWis {l : Launch} {y : MethodName} {cc : ByteArray} {nL : Nat} {rm : Room} {D : va_G} {E : Nat → ClassId} {B : Nat} {Z : ZT} {av : List Value} {wc w1 : va_W} {x : Int} (hy : plainFor y = true) (hlen : (lg_sl av).length ≤ nL)
    (body : ∀ (p : Program) (e : Env) (s : State) (m : MethodId) (args : Array Value) (below : List Frame) (meth : Method) (c : Code) (A : Nat → Prop) (Q : State → Prop), CallFix p m c cc nL s args (.code y cc nL (some .int) :: TT) y.cls → KK D E s → SF B Z s s.heap → va_P D vwCl wc s.heap → va_D A wc → (∀ q, s.heap.size ≤ q → A q) → (∀ q, A q → B ≤ q) →
      (∀ (pc : Nat) (ls : Array Slot) (H : Heap) (locs : List Loc), va_P D vwCl w1 H → va_D A w1 → va_S A s.heap H locs → decode cc pc = .ok (.ireturn, 1) → W p l e rm s m args below meth c H locs 0 0 Q (F0 m pc ls [.int (z4 x)])) → ∀ ls : Array Slot, lv_has ls nL (lv_args 0 av) →
      W p l e rm s m args below meth c s.heap [] 0 0 Q (F0 m 0 ls [])) : MWs l y (.code y cc nL (some .int)) rm D E B Z av wc (some (.int (z4 x))) w1 :=
  MWs_of hy hlen fun p e s m args below meth c A X hr hk hK hF hP hD hA hAB ls hl => body p e s m args below meth c A _ X hK hF hP hD hA hAB (fun _ _ _ _ h1 h2 h3 d => m_iretW X hr hk hK h1 h2 h3 d) ls hl
theorem MWvs {l : Launch} {y : MethodName} {cc : ByteArray} {nL : Nat} {rm : Room} {D : va_G} {E : Nat → ClassId} {B : Nat} {Z : ZT} {av : List Value} {wc w1 : va_W} (hy : plainFor y = true) (hlen : (lg_sl av).length ≤ nL)
    (body : ∀ (p : Program) (e : Env) (s : State) (m : MethodId) (args : Array Value) (below : List Frame) (meth : Method) (c : Code) (A : Nat → Prop) (Q : State → Prop), CallFix p m c cc nL s args (.code y cc nL none :: TT) y.cls → KK D E s → SF B Z s s.heap → va_P D vwCl wc s.heap → va_D A wc → (∀ q, s.heap.size ≤ q → A q) → (∀ q, A q → B ≤ q) →
      (∀ (pc : Nat) (ls : Array Slot) (H : Heap) (locs : List Loc), va_P D vwCl w1 H → va_D A w1 → va_S A s.heap H locs → decode cc pc = .ok (.return_, 1) → W p l e rm s m args below meth c H locs 0 0 Q (F0 m pc ls [])) → ∀ ls : Array Slot, lv_has ls nL (lv_args 0 av) →
      W p l e rm s m args below meth c s.heap [] 0 0 Q (F0 m 0 ls [])) : MWs l y (.code y cc nL none) rm D E B Z av wc none w1 :=
  MWs_of hy hlen fun p e s m args below meth c A X hr hk hK hF hP hD hA hAB ls hl => body p e s m args below meth c A _ X hK hF hP hD hA hAB (fun _ _ _ _ h1 h2 h3 d => m_vretW X hr hk hK h1 h2 h3 d) ls hl
section STAT
variable {p : Program} {l : Launch} {e : Env} {R : Room} {s : State} {m : MethodId} {args : Array Value} {below : List Frame} {meth : Method} {c : Code} {H : Heap} {locs : List Loc} {cells slots : Nat} {Q : State → Prop}
variable {cc : ByteArray} {pc nL : Nat} {ls : Array Slot} {rest : List Value} {D : va_G} {E : Nat → ClassId} {A : Nat → Prop} {a : Nat} {ws : va_W} {H0 : Heap} {cw : Cond} {own : String} {B : Nat} {Z : ZT}
theorem blindRs {av : List Value} {wc : va_W} : FrameBlind (va_Pc av (fun U => va_P D vwCl wc U.heap ∧ KK D E U ∧ SF B Z U U.heap)) := fun a U g mk q => ⟨q.1, q.2.1, KK.moved (u := U) (U := U.calling g mk a) (State.WarmedH.refl U) q.2.2.1, SF.same (u := U) (U := U.calling g mk a) q.2.2.2 rfl rfl⟩
theorem blindWs {av : List Value} {wc : va_W} {sz : Nat} : FrameBlind (va_Pc av (fun U => U.heap.size = sz ∧ va_P D vwCl wc U.heap ∧ KK D E U ∧ va_D (fun q => B ≤ q) wc ∧ B ≤ sz ∧ SF B Z U U.heap)) := fun a U g mk q => ⟨q.1, q.2.1, q.2.2.1, KK.moved (u := U) (U := U.calling g mk a) (State.WarmedH.refl U) q.2.2.2.1, q.2.2.2.2.1, q.2.2.2.2.2.1, SF.same (u := U) (U := U.calling g mk a) q.2.2.2.2.2.2 rfl rfl⟩
/-- statics at a later heap of the same method -/
theorem SF.at {U : State} (hF : SF B Z s s.heap) (hAB : ∀ q, A q → B ≤ q) (hS : va_S A s.heap H locs) (hU : U.heap = H) (hW : s.WarmedH U.vm) : SF B Z U U.heap := by
  rw [hU]
  exact hF.to hW (fun a h1 h2 => hS.2.1 a h1 (fun z => h2 (hAB a z)))
/-- a call of a method that reads statics: the receiver is any object of its class -/
theorem m_cVRs (X : CallFix p m c cc nL s args (cw :: TT) own) (hK : KK D E s) (hF : SF B Z s s.heap) (hAB : ∀ q, A q → B ≤ q) (hS : va_S A s.heap H locs) {y : MethodName} {bytes : ByteArray} {maxL idx b : Nat} {ret : Option FieldType} {rm : Room} {As st0 : List Value} {wc : va_W} {rv : Option Value} (hM : MRs l y (.code y bytes maxL ret) rm D E B Z (.ref b :: As) wc rv) (hP : va_P D vwCl wc H) (hrc : ∃ cell : Cell, H[b]? = some cell ∧ cell.vm.isStatics = false ∧ s.vm.findClass y.cls = some cell.cls)
    (L : LnV own y.cls idx y) (hcode : Cond.code y bytes maxL ret ∈ TT) (dy : DY y As.length) (h0 : rm.cells = 0) (h1 : rm.slots = 0) (hR : rm.frames + 1 ≤ R.frames ∧ 8 + (maxL + 11) + rm.locals ≤ R.locals) (hls : ls.size = nL) (hst : st0 = As.reverse ++ .ref b :: rest) (hw : (rest.map fun v => v.category).sum ≤ 8) (d : decode cc pc = .ok (.invokevirtual idx, 3)) (hce : cells ≤ R.cells) (hsl : slots ≤ R.slots)
    (k : W p l e R s m args below meth c H locs cells slots Q (F0 m (pc + 3) ls (rv.toList ++ rest))) : W p l e R s m args below meth c H locs cells slots Q (F0 m pc ls st0) := by
  subst hst
  exact goR (av := (Value.ref b :: As).toArray) (va_runV (As := As) (rest := rest) X hM (cV X L hcode dy h0 h1 hR) ⟨blindRs, hrc, fun U hU hW => ⟨rfl, by rw [hU]; exact hP, hK.moved hW, hF.at hAB hS hU hW⟩⟩ rfl rfl hls rfl (lv_room hw) d ⟨hce, hsl⟩) k
theorem m_cSRs (X : CallFix p m c cc nL s args (cw :: TT) own) (hK : KK D E s) (hF : SF B Z s s.heap) (hAB : ∀ q, A q → B ≤ q) (hS : va_S A s.heap H locs) {y : MethodName} {bytes : ByteArray} {maxL idx : Nat} {ret : Option FieldType} {rm : Room} {As st0 : List Value} {wc : va_W} {rv : Option Value} (hM : MRs l y (.code y bytes maxL ret) rm D E B Z As wc rv) (hP : va_P D vwCl wc H)
    (L : LnS own idx y) (hcode : Cond.code y bytes maxL ret ∈ TT) (dy : DY y As.length) (h0 : rm.cells = 0) (h1 : rm.slots = 0) (hR : rm.frames + 1 ≤ R.frames ∧ 8 + (maxL + 11) + rm.locals ≤ R.locals) (hls : ls.size = nL) (hst : st0 = As.reverse ++ rest) (hw : (rest.map fun v => v.category).sum ≤ 8) (d : decode cc pc = .ok (.invokestatic idx, 3)) (hce : cells ≤ R.cells) (hsl : slots ≤ R.slots)
    (k : W p l e R s m args below meth c H locs cells slots Q (F0 m (pc + 3) ls (rv.toList ++ rest))) : W p l e R s m args below meth c H locs cells slots Q (F0 m pc ls st0) := by
  subst hst
  exact goR (av := As.toArray) (va_runS (As := As) (rest := rest) X hM (cS X L hcode dy h0 h1 hR) ⟨blindRs, fun U hU hW => ⟨rfl, by rw [hU]; exact hP, hK.moved hW, hF.at hAB hS hU hW⟩⟩ rfl rfl hls rfl (lv_room hw) d ⟨hce, hsl⟩) k
theorem m_cVWs (X : CallFix p m c cc nL s args (cw :: TT) own) (hK : KK D E s) (hF : SF B Z s s.heap) (hAB : ∀ q, A q → B ≤ q) (hBs : B ≤ s.heap.size) (hP : va_P D vwCl ws H) (hD : va_D A ws) (hS : va_S A s.heap H locs) (hA : ∀ q, s.heap.size ≤ q → A q) {y : MethodName} {bytes : ByteArray} {maxL idx ci b N : Nat} {T : u_T} {fs : List Value} {ret : Option FieldType} {rm : Room} {As st0 : List Value} {wc wr w1 : va_W} {rv : Option Value} (hM : MWs l y (.code y bytes maxL ret) rm D E B Z (.ref b :: As) wc rv w1)
    (isC isR is : List Nat) (ws' : va_W) (hC : isC.map (fun i => ws[i]?) = wc.map some) (hRr : isR.map (fun i => ws[i]?) = wr.map some) (hnC : va_nd isC = true) (hn : va_nd isR = true) (hdis : ∀ i ∈ isR, i ∉ isC) (hi : is.map (fun i => (wr ++ w1)[i]?) = ws'.map some) (hni : va_nd is = true) (hv : wc[0]? = some (b, .inr (ci, fs))) (hc : vwCl[ci]? = some (y.cls, T, N))
    (L : LnV own y.cls idx y) (hcode : Cond.code y bytes maxL ret ∈ TT) (dy : DY y As.length) (h0 : rm.cells = 0) (h1 : rm.slots = 0) (hR : rm.frames + 1 ≤ R.frames ∧ 8 + (maxL + 11) + rm.locals ≤ R.locals) (hls : ls.size = nL) (hst : st0 = As.reverse ++ .ref b :: rest) (hw : (rest.map fun v => v.category).sum ≤ 8) (d : decode cc pc = .ok (.invokevirtual idx, 3)) (hce : cells ≤ R.cells) (hsl : slots ≤ R.slots)
    (k : ∀ (H1 : Heap) (locs1 : List Loc), va_P D vwCl ws' H1 → va_D A ws' → va_S A s.heap H1 locs1 → W p l e R s m args below meth c H1 locs1 cells slots Q (F0 m (pc + 3) ls (rv.toList ++ rest))) : W p l e R s m args below meth c H locs cells slots Q (F0 m pc ls st0) := by
  subst hst
  have hPc := hP.sub isC (fm_of hC)
  have hDc := hD.sub isC hnC hC
  exact goW (av := (Value.ref b :: As).toArray) (va_runV (As := As) (rest := rest) X (hM H.size) (cV X L hcode dy h0 h1 hR) ⟨blindWs, va_recv hK.1 hPc hc hv, fun U hU hW => ⟨rfl, by rw [hU], by rw [hU]; exact hPc, hK.moved hW, hDc.weaken (fun _ q _ h => hAB q.1 h), Nat.le_trans hBs hS.1, hF.at hAB hS hU hW⟩⟩ rfl rfl hls rfl (lv_room hw) d ⟨hce, hsl⟩) hP hD hS hA isC isR is hC hRr hn hdis hi hni k
/-- a private static of the outer class is read -/
theorem m_getsN (X : CallFix p m c cc nL s args (cw :: TT) own) (hF : SF B Z s s.heap) (hAB : ∀ q, A q → B ≤ q) (hS : va_S A s.heap H locs) {idx : Nat} (hl : va_Nw (.fieldLinkNest own idx "RunWatch" "FIRST_CHANCES" "[I" "RunWatch") s) (d : decode cc pc = .ok (.getstatic idx, 3)) (k : W p l e R s m args below meth c H locs cells slots Q (F0 m (pc + 3) ls (.ref Z.1 :: rest))) : W p l e R s m args below meth c H locs cells slots Q (F0 m pc ls rest) := by
  obtain ⟨cf, kf, fi, f, a, cell, h1, h2, h3, h4, h5, h6, h7, h8⟩ := hF.1
  intro T hT X2
  obtain ⟨vm', X', st⟩ := X2.getstaticNest X.1 X.2.2.2.1 (va_Nw.use rfl hl) h1 h2 h3 h4 (cell₁ := cell) (v := .ref Z.1) (by rw [hT, hS.2.1 a (Array.getElem?_eq_some_iff.mp h5).1 (fun z => h8 (hAB a z))]; exact h5) (fun e => by rw [e] at h6; cases h6) h7 (g := F0 m pc ls rest) rfl (by rw [X.2.1]; exact d)
  obtain ⟨t, a1, b1⟩ := k (T.setVm vm') hT X'
  exact ⟨t, st t a1, b1⟩
/-- arraycopy out of the static array -/
theorem m_copyT (X : CallFix p m c cc nL s args (cw :: TT) own) {idx : Nat} (hl : Cond.methodLink own idx arraycopyName ∈ TT) (g1 : Cond.native arraycopyName ∈ TT) (g2 : Cond.static arraycopyName ∈ TT) (g3 : Cond.initialized "java/lang/System" ∈ TT) (hls : ls.size = nL) (hK : KK D E s) (hF : SF B Z s s.heap) (hAB : ∀ q, A q → B ≤ q) (hP : va_P D vwCl ws H) (hD : va_D A ws) (hS : va_S A s.heap H locs) (q1 : Nat) {g : Nat → Int} (ha1 : ws[q1]? = some (a, .inl (E 0, 5, .inl (A4 g))))
    (hf : 1 ≤ R.frames) (ho : (rest.map fun v => v.category).sum + (nativeFrameWords "java/lang/System" "arraycopy" 5 + 11) ≤ R.locals) (ws' : va_W) (hw : ws.set q1 (a, .inl (E 0, 5, .inl (A4 (cp_ fc_ g 0 0 5)))) = ws') (d : decode cc pc = .ok (.invokestatic idx, 3))
    (k : ∀ (H1 : Heap) (locs1 : List Loc), va_P D vwCl ws' H1 → va_D A ws' → va_S A s.heap H1 locs1 → W p l e R s m args below meth c H1 locs1 cells slots Q (F0 m (pc + 3) ls rest)) : W p l e R s m args below meth c H locs cells slots Q (F0 m pc ls (.int (z4 5) :: .int (z4 0) :: .ref a :: .int (z4 0) :: .ref Z.1 :: rest)) := by
  have t : ∀ {w : Cond}, w ∈ TT → w.before args s = true := fun h => X.2.2.2.2 _ (List.mem_cons_of_mem _ h)
  intro T hT X2
  obtain ⟨scr, hs1, hs2, hs3, hs4, -, hs5, hs7⟩ := hF.2.1
  have hc0 : H[Z.1]? = some scr := by rw [hS.2.1 Z.1 (Array.getElem?_eq_some_iff.mp hs1).1 (fun z => hs7 (hAB _ z))]; exact hs1
  have hc1 : H[a]? = some (vp_cell (E 0) (5, .inl (A4 g))) := hP q1 _ ha1
  obtain ⟨hs6, k0, hk0, cm0, hkk0⟩ := hs2
  obtain ⟨-, k1, hk1, cm1, hkk1⟩ := (hK.1.2 0 _ rfl).1 5 (fun j => .int (A4 g j))
  obtain ⟨vm', X', step⟩ := X2.arraycopy X.1 X.2.2.2.1 (t hl) (t g1) (t g2) (t g3) (src := Z.1) (dst := a) (cs := scr) (cd := vp_cell (E 0) (5, .inl (A4 g))) (srcPos := z4 0) (destPos := z4 0) (n := z4 5) (by rw [hT]; exact hc0) (by rw [hT]; exact hc1)
    hs6 (fun _ h => by cases h) hs3 (fun h => by cases h) hk0 hk1 hkk0 hkk1 (by simp [refKind]) (by decide) (by decide) (by decide)
    (by have e1 : (z4 0).toInt = 0 := rfl
        have e2 : (z4 5).toInt = 5 := rfl
        rw [e1, e2]; omega)
    (by have e1 : (z4 0).toInt = 0 := rfl
        have e2 : (z4 5).toInt = 5 := rfl
        rw [e1, e2]; show ¬ _ > ((arrV (E 0) 5 (fun j => .int (A4 g j))).slots.size : Int); rw [arrV_size]; omega)
    (fun vm₁ _ i hi => by
      have hi5 : i < 5 := hi
      have e : scr.slots.getD ((z4 0).toNatClampNeg + i) .null = .int (z4 (fc_ i)) := by
        have e0 : (z4 0).toNatClampNeg = 0 := rfl
        rw [e0, Nat.zero_add, Array.getD_eq_getD_getElem?, hs5 _ (by omega)]
        rfl
      refine ⟨?_, ?_⟩
      · rw [e]; rfl
      · rw [e]
        exact trivial)
    (g := F0 m pc ls (.int (z4 5) :: .int (z4 0) :: .ref a :: .int (z4 0) :: .ref Z.1 :: rest)) rfl (by rw [hls, X.2.2.1]) (rest := rest) rfl (by rw [X.2.1]; exact d) hf (by show 2 * 0 + _ + _ ≤ _; omega)
  have e1 : copied scr (vp_cell (E 0) (5, .inl (A4 g))) (z4 0) (z4 0) (z4 5) = vp_cell (E 0) (5, .inl (va_cpy (A4 fc_) (A4 g) (z4 0).toNatClampNeg (z4 0).toNatClampNeg (z4 5).toNatClampNeg)) := va_copiedX (fun z => .int z) scr (E 0) (A4 fc_) (A4 g) hs5 (by decide)
  have e2 : va_cpy (A4 fc_) (A4 g) (z4 0).toNatClampNeg (z4 0).toNatClampNeg (z4 5).toNatClampNeg = A4 (cp_ fc_ g 0 0 5) := A4_cpy fc_ g 0 0 5
  rw [e2] at e1
  rw [e1] at X' step
  have hlt : a < H.size := (Array.getElem?_eq_some_iff.mp hc1).1
  have hheap : ((T.setVm vm').setCell a (vp_cell (E 0) (5, .inl (A4 (cp_ fc_ g 0 0 5))))).heap = H.setIfInBounds a (vp_cell (E 0) (5, .inl (A4 (cp_ fc_ g 0 0 5)))) := by rw [← hT]; rfl
  have oq : ∀ q : Nat, q ≠ a → (H.setIfInBounds a (vp_cell (E 0) (5, .inl (A4 (cp_ fc_ g 0 0 5)))))[q]? = H[q]? := fun q hq => by simp [Array.getElem?_setIfInBounds, Ne.symm hq]
  have hP1 := va_P.set (e := .inl (E 0, 5, .inl (A4 (cp_ fc_ g 0 0 5)))) hP hD ha1 (show (H.setIfInBounds a _)[a]? = some _ by simp [Array.getElem?_setIfInBounds, hlt]) oq
  have hD1 := hD.set (e := .inl (E 0, 5, .inl (A4 (cp_ fc_ g 0 0 5)))) ha1
  rw [hw] at hP1 hD1
  obtain ⟨t2, a1, b1⟩ := k _ _ hP1 hD1 ⟨by simp; exact hS.1, fun q g1 g2 => by
      rw [oq q (fun e => g2 (by rw [e]; exact hD.2 q1 _ ha1))]
      exact hS.2.1 q g1 g2, fun q hq => by
      rcases List.mem_append.mp hq with h | h
      · exact hS.2.2 q h
      · obtain ⟨z, -, hz⟩ := List.mem_map.mp h
        rw [← hz]
        exact hD.2 q1 _ ha1⟩ _ hheap X'
  exact ⟨t2, step t2 a1, b1⟩
end STAT
