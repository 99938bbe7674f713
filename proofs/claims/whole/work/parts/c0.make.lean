/-! objects and arrays are made -/
def QI (D : va_G) (E : Nat → ClassId) (Ws : va_W → Prop) (A : Nat → Prop) : Array Value → State → Outcome → State → Prop := fun _ st o t => o = .returned none ∧ (∃ w1, Ws w1 ∧ va_P D vwCl w1 t.heap ∧ KK D E t ∧ va_D A w1) ∧ va_F A st t
/-- a constructor: of what kind its world is then -/
def MI (l : Launch) (y : MethodName) (cy : Cond) (rm : Room) (D : va_G) (E : Nat → ClassId) (B : Nat) (Z : ZT) (a : Nat) (w0 : va_W) (mc ms : Nat) (Ws : va_W → Prop) : Prop :=
  ∀ sz : Nat, Met l y (cy :: TT) rm (va_Pc [.ref a] (fun U => U.heap.size = sz ∧ va_P D vwCl w0 U.heap ∧ KK D E U ∧ va_D (fun q => B ≤ q) w0 ∧ B ≤ sz ∧ SF B Z U U.heap)) (QI D E Ws (va_A w0 sz)) mc ms (va_A w0 sz)
theorem MI_of {l : Launch} {y : MethodName} {cc : ByteArray} {nL : Nat} {rm : Room} {D : va_G} {E : Nat → ClassId} {B : Nat} {Z : ZT} {a : Nat} {w0 : va_W} {mc ms : Nat} {Ws : va_W → Prop} (hy : plainFor y = true) (hlen : (lg_sl [.ref a]).length ≤ nL) (hni : y.name = "<init>")
    (body : ∀ (p : Program) (e : Env) (s : State) (m : MethodId) (args : Array Value) (below : List Frame) (meth : Method) (c : Code) (A : Nat → Prop) (Q : State → Prop), CallFix p m c cc nL s args (.code y cc nL none :: TT) y.cls → meth.name = "<init>" → KK D E s → SF B Z s s.heap → va_P D vwCl w0 s.heap → va_D A w0 → (∀ q, s.heap.size ≤ q → A q) → (∀ q, A q → B ≤ q) → B ≤ s.heap.size →
      (∀ (pc : Nat) (ls : Array Slot) (H : Heap) (locs : List Loc) (w1 : va_W), Ws w1 → va_P D vwCl w1 H → va_D A w1 → va_S A s.heap H locs → decode cc pc = .ok (.return_, 1) → W p l e rm s m args below meth c H locs mc ms Q (F0 m pc ls [])) → ∀ ls : Array Slot, lv_has ls nL (lv_args 0 [.ref a]) →
      W p l e rm s m args below meth c s.heap [] 0 0 Q (F0 m 0 ls [])) : MI l y (.code y cc nL none) rm D E B Z a w0 mc ms Ws := by
  intro sz
  refine va_MetF (cc := cc) (maxL := nL) (ret := none) hy rfl ?_
  intro p e s m args below meth c s₁ B9 hml hv
  obtain ⟨hav, hsz, hP, hK, hD, hB, hF⟩ := hv
  subst hav
  subst hsz
  rw [lg_entry_eq]
  refine body p e s m _ below meth c (va_A w0 s.heap.size) _ ⟨B9.exec, B9.bytes, hml, findClass_of_methodNamed B9.named, atoms_spec (ws := .code y cc nL none :: TT) B9.pre⟩ ((name_of_methodNamed B9.named B9.method).1.trans hni) hK hF hP hD.self (fun q h => Or.inr h) (fun q h => by
    rcases h with ⟨k, e, h⟩ | h
    · exact hD.2 k _ h
    · omega) hB (fun pc ls H locs w1 hw h1 h2 h3 d => ?_) _ (lv_entry [.ref a] hlen)
  exact W.vret B9.exec B9.bytes B9.returns (fun t ht hW => ⟨rfl, ⟨w1, hw, by rw [ht]; exact h1, hK.moved hW, h2⟩, h3.F ht⟩) h3.2.2 d B9.notSynchronized
section MAKE
variable {p : Program} {l : Launch} {e : Env} {R : Room} {s : State} {m : MethodId} {args : Array Value} {below : List Frame} {meth : Method} {c : Code} {H : Heap} {locs : List Loc} {cells slots : Nat} {Q : State → Prop}
variable {cc : ByteArray} {pc nL : Nat} {ls : Array Slot} {rest : List Value} {D : va_G} {E : Nat → ClassId} {A : Nat → Prop} {a : Nat} {ws : va_W} {H0 : Heap} {cw : Cond} {own : String} {B : Nat} {Z : ZT}
theorem m_objI (X : CallFix p m c cc nL s args (cw :: TT) own) {idx : Nat} (hl : Cond.methodLink own idx Lib.objectInit ∈ TT) (hi : Cond.instanceMethod Lib.objectInit ∈ TT) (hc : Cond.code Lib.objectInit ⟨#[0xb1]⟩ 1 none ∈ TT) (hls : ls.size = nL) (hf : 1 ≤ R.frames) (ho : (rest.map fun v => v.category).sum + 12 ≤ R.locals) (d : decode cc pc = .ok (.invokespecial idx, 3)) (k : W p l e R s m args below meth c H locs cells slots Q (F0 m (pc + 3) ls rest)) : W p l e R s m args below meth c H locs cells slots Q (F0 m pc ls (.ref a :: rest)) := by
  have t : ∀ {w : Cond}, w ∈ TT → w.before args s = true := fun h => X.2.2.2.2 _ (List.mem_cons_of_mem _ h)
  exact W.objInit X.1 X.2.1 X.2.2.2.1 (t hl) (t hi) (t hc) rfl (hls.trans X.2.2.1.symm) rfl d hf (by simpa [F0] using ho) k
theorem cA_of {U : State} {t : Nat} {cA : ClassId} {ty : FieldType} (hK : va_K D vwCl [(E 0, .int), (E 1, .boolean), (E 2, .long), (E 3, .object "RunWatch$Sheet"), (E 4, .array .int)] U) (h : U.vm.findClass ("[" ++ ty.toString) = some cA) {q : ClassId} (hq : U.vm.findClass ("[" ++ ty.toString) = some q) : cA = q := Option.some.inj (h.symm.trans hq)
theorem m_newI (X : CallFix p m c cc nL s args (cw :: TT) own) (hK : KK D E s) (hP : va_P D vwCl ws H) (hD : va_D A ws) (hS : va_S A H0 H locs) (hA : ∀ q, H0.size ≤ q → A q) (ha : Cond.arrayClass .int ∈ TT) {n : Int} {N : Nat} (hn : n = (N : Int)) (hN : N ≤ 100000) (hce : cells + 1 ≤ R.cells) (hsl : slots + N ≤ R.slots) (d : decode cc pc = .ok (.newarray .int, 2))
    (k : ∀ (q : Nat) (H1 : Heap), va_P D vwCl (ws ++ [(q, .inl (E 0, N, .inl (A4 fun _ => 0)))]) H1 → va_D A (ws ++ [(q, .inl (E 0, N, .inl (A4 fun _ => 0)))]) → va_S A H0 H1 locs → W p l e R s m args below meth c H1 locs (cells + 1) (slots + N) Q (F0 m (pc + 2) ls (.ref q :: rest))) : W p l e R s m args below meth c H locs cells slots Q (F0 m pc ls (.int (z4 n) :: rest)) := by
  subst hn
  have r : r4 (N : Int) := by omega
  refine va_newa (atype := .int) (ty := .int) (a0 := (N, .inl (A4 fun _ => 0))) X.1 X.2.1 (X.2.2.2.2 _ (List.mem_cons_of_mem _ ha)) rfl hK.1 hP hD hS hA (N' := N) (fun cA => rfl) (fun q => by rw [← z4_0, z4_lt r (by omega)] at q; omega) (by rw [z4_nat r]; omega) (by show N * 4 ≤ _; omega) hce hsl d (fun q cA H1 h0 h1 h2 h3 => ?_)
  cases (show s.vm.findClass ("[" ++ (FieldType.int).toString) = some cA from (h0.2 5 _ rfl).2).symm.trans (show s.vm.findClass ("[" ++ (FieldType.int).toString) = some (E 0) from (hK.1.2 0 _ rfl).2)
  exact k q H1 h1 h2 h3
theorem m_newZ (X : CallFix p m c cc nL s args (cw :: TT) own) (hK : KK D E s) (hP : va_P D vwCl ws H) (hD : va_D A ws) (hS : va_S A H0 H locs) (hA : ∀ q, H0.size ≤ q → A q) (ha : Cond.arrayClass .boolean ∈ TT) {n : Int} {N : Nat} (hn : n = (N : Int)) (hN : N ≤ 100000) (hce : cells + 1 ≤ R.cells) (hsl : slots + N ≤ R.slots) (d : decode cc pc = .ok (.newarray .boolean, 2))
    (k : ∀ (q : Nat) (H1 : Heap), va_P D vwCl (ws ++ [(q, .inl (E 1, N, .inl (A4 fun _ => 0)))]) H1 → va_D A (ws ++ [(q, .inl (E 1, N, .inl (A4 fun _ => 0)))]) → va_S A H0 H1 locs → W p l e R s m args below meth c H1 locs (cells + 1) (slots + N) Q (F0 m (pc + 2) ls (.ref q :: rest))) : W p l e R s m args below meth c H locs cells slots Q (F0 m pc ls (.int (z4 n) :: rest)) := by
  subst hn
  have r : r4 (N : Int) := by omega
  refine va_newa (atype := .boolean) (ty := .boolean) (a0 := (N, .inl (A4 fun _ => 0))) X.1 X.2.1 (X.2.2.2.2 _ (List.mem_cons_of_mem _ ha)) rfl hK.1 hP hD hS hA (N' := N) (fun cA => rfl) (fun q => by rw [← z4_0, z4_lt r (by omega)] at q; omega) (by rw [z4_nat r]; omega) (by show N * 1 ≤ _; omega) hce hsl d (fun q cA H1 h0 h1 h2 h3 => ?_)
  cases (show s.vm.findClass ("[" ++ (FieldType.boolean).toString) = some cA from (h0.2 5 _ rfl).2).symm.trans (show s.vm.findClass ("[" ++ (FieldType.boolean).toString) = some (E 1) from (hK.1.2 1 _ rfl).2)
  exact k q H1 h1 h2 h3
theorem m_newL (X : CallFix p m c cc nL s args (cw :: TT) own) (hK : KK D E s) (hP : va_P D vwCl ws H) (hD : va_D A ws) (hS : va_S A H0 H locs) (hA : ∀ q, H0.size ≤ q → A q) (ha : Cond.arrayClass .long ∈ TT) {n : Int} {N : Nat} (hn : n = (N : Int)) (hN : N ≤ 100000) (hce : cells + 1 ≤ R.cells) (hsl : slots + N ≤ R.slots) (d : decode cc pc = .ok (.newarray .long, 2))
    (k : ∀ (q : Nat) (H1 : Heap), va_P D vwCl (ws ++ [(q, .inl (E 2, N, .inr (.inl (A8 fun _ => 0))))]) H1 → va_D A (ws ++ [(q, .inl (E 2, N, .inr (.inl (A8 fun _ => 0))))]) → va_S A H0 H1 locs → W p l e R s m args below meth c H1 locs (cells + 1) (slots + N) Q (F0 m (pc + 2) ls (.ref q :: rest))) : W p l e R s m args below meth c H locs cells slots Q (F0 m pc ls (.int (z4 n) :: rest)) := by
  subst hn
  have r : r4 (N : Int) := by omega
  refine va_newa (atype := .long) (ty := .long) (a0 := (N, .inr (.inl (A8 fun _ => 0)))) X.1 X.2.1 (X.2.2.2.2 _ (List.mem_cons_of_mem _ ha)) rfl hK.1 hP hD hS hA (N' := N) (fun cA => rfl) (fun q => by rw [← z4_0, z4_lt r (by omega)] at q; omega) (by rw [z4_nat r]; omega) (by show N * 8 ≤ _; omega) hce hsl d (fun q cA H1 h0 h1 h2 h3 => ?_)
  cases (show s.vm.findClass ("[" ++ (FieldType.long).toString) = some cA from (h0.2 5 _ rfl).2).symm.trans (show s.vm.findClass ("[" ++ (FieldType.long).toString) = some (E 2) from (hK.1.2 2 _ rfl).2)
  exact k q H1 h1 h2 h3
theorem m_newS (X : CallFix p m c cc nL s args (cw :: TT) own) (hK : KK D E s) (hP : va_P D vwCl ws H) (hD : va_D A ws) (hS : va_S A H0 H locs) (hA : ∀ q, H0.size ≤ q → A q) {idx : Nat} (hcl : Cond.classLink own idx "RunWatch$Sheet" ∈ TT) {n : Int} {N : Nat} (hn : n = (N : Int)) (hN : N ≤ 100000) (hce : cells + 1 ≤ R.cells) (hsl : slots + N ≤ R.slots) (d : decode cc pc = .ok (.anewarray idx, 3))
    (k : ∀ (q : Nat) (H1 : Heap), va_P D vwCl (ws ++ [(q, .inl (E 3, N, .inr (.inr (.inr (.inr (fun _ => none))))))]) H1 → va_D A (ws ++ [(q, .inl (E 3, N, .inr (.inr (.inr (.inr (fun _ => none))))))]) → va_S A H0 H1 locs → W p l e R s m args below meth c H1 locs (cells + 1) (slots + N) Q (F0 m (pc + 3) ls (.ref q :: rest))) : W p l e R s m args below meth c H locs cells slots Q (F0 m pc ls (.int (z4 n) :: rest)) := by
  subst hn
  have r : r4 (N : Int) := by omega
  refine va_newq X.1 X.2.1 X.2.2.2.1 (X.2.2.2.2 _ (List.mem_cons_of_mem _ hcl)) hK.2.2.1 hK.1 hP hD hS hA (N' := N) (fun q => by rw [← z4_0, z4_lt r (by omega)] at q; omega) (by rw [z4_nat r]; omega) (by omega) hce hsl d (fun q cA H1 h0 h1 h2 h3 => ?_)
  obtain ⟨kA, comp, -, -, -, f1⟩ := (h0.2 5 _ rfl).2
  obtain ⟨kA2, comp2, -, -, -, f2⟩ := (hK.1.2 3 _ rfl).2
  cases f1.symm.trans f2
  exact k q H1 h1 h2 h3
theorem m_newO (X : CallFix p m c cc nL s args (cw :: TT) own) (hK : KK D E s) (hP : va_P D vwCl ws H) (hD : va_D A ws) (hS : va_S A H0 H locs) (hA : ∀ q, H0.size ≤ q → A q) {ci N idx : Nat} {C : String} {T : u_T} (hc : vwCl[ci]? = some (C, T, N)) (hin : ∀ w ∈ u_ws C T N, w ∈ TT) (ty : Nat → FieldType) (hty : ∀ k, k < N → parseFieldDescriptor (T k).2.2.1 = some (ty k)) (hcl : Cond.classLink own idx C ∈ TT) (hinst : Cond.instantiable C N ∈ TT) (hini : Cond.initialized C ∈ TT) (fs : List Value) (hfs : ∀ j, j < N → defaultValue (ty j) = vp_V fs j) (hce : cells + 1 ≤ R.cells) (hsl : slots + N ≤ R.slots) (d : decode cc pc = .ok (.new idx, 3))
    (k : ∀ (q : Nat) (H1 : Heap), va_P D vwCl (ws ++ [(q, .inr (ci, fs))]) H1 → va_D A (ws ++ [(q, .inr (ci, fs))]) → va_S A H0 H1 locs → W p l e R s m args below meth c H1 locs (cells + 1) (slots + N) Q (F0 m (pc + 3) ls (.ref q :: rest))) : W p l e R s m args below meth c H locs cells slots Q (F0 m pc ls rest) := by
  have t : ∀ {w : Cond}, w ∈ TT → w.before args s = true := fun h => X.2.2.2.2 _ (List.mem_cons_of_mem _ h)
  exact va_new X.1 X.2.1 X.2.2.2.2 (fun w h => List.mem_cons_of_mem _ (hin w h)) ty hty X.2.2.2.1 (t hcl) (t hinst) (t hini) hK.1 hP hD hS hA hc hfs hce hsl d k
theorem m_putF (X : CallFix p m c cc nL s args (cw :: TT) own) (hK : KK D E s) (hP : va_P D vwCl ws H) (hD : va_D A ws) (hS : va_S A H0 H locs) {ci N idx : Nat} {C : String} {T : u_T} (hc : vwCl[ci]? = some (C, T, N)) (hin : ∀ w ∈ u_ws C T N, w ∈ TT) (ty : Nat → FieldType) (hty : ∀ k, k < N → parseFieldDescriptor (T k).2.2.1 = some (ty k)) (hnm : ∀ a, a < N → ∀ b, b < N → a ≠ b → (T a).2.1 ≠ (T b).2.1) (kf : Nat) (hk : kf < N) (hl : Cond.fieldLink own idx (T kf).1 (T kf).2.1 (T kf).2.2.1 ∈ TT) (hfin : (T kf).2.2.2 = true) (hin2 : meth.name = "<init>") (hdecl : (T kf).1 = own)
    (q0 : Nat) {fs : List Value} (he : ws[q0]? = some (a, .inr (ci, fs))) {v : Value} (hn : narrow (ty kf) v = v) (hfit : fits (ty kf) v = true) (hlen : kf < fs.length) (ws' : va_W) (hw : ws.set q0 (a, .inr (ci, fs.set kf v)) = ws') (d : decode cc pc = .ok (.putfield idx, 3))
    (k : ∀ (H1 : Heap) (locs1 : List Loc), va_P D vwCl ws' H1 → va_D A ws' → va_S A H0 H1 locs1 → W p l e R s m args below meth c H1 locs1 cells slots Q (F0 m (pc + 3) ls rest)) : W p l e R s m args below meth c H locs cells slots Q (F0 m pc ls (v :: .ref a :: rest)) := by
  refine va_putF (tys := [(E 0, .int), (E 1, .boolean), (E 2, .long), (E 3, .object "RunWatch$Sheet"), (E 4, .array .int)]) X.1 X.2.1 X.2.2.2.2 (fun w h => List.mem_cons_of_mem _ (hin w h)) ty hty hnm X.2.2.2.1 hK.1 hP hD hS q0 he hc kf hk (X.2.2.2.2 _ (List.mem_cons_of_mem _ hl)) (fun _ h => h) hfin hin2 hdecl (hty kf hk) hn hfit hlen d fun H1 locs1 h1 h2 h3 => ?_
  rw [hw] at h1 h2
  exact k H1 locs1 h1 h2 h3
theorem m_aastS (X : CallFix p m c cc nL s args (cw :: TT) own) (hK : KK D E s) (hP : va_P D vwCl ws H) (hD : va_D A ws) (hS : va_S A H0 H locs) (q0 qk : Nat) {n v : Nat} {vs : List Value} {f : Nat → Option Nat} (ha : ws[q0]? = some (a, .inl (E 3, n, .inr (.inr (.inr (.inr f)))))) (hv : ws[qk]? = some (v, .inr (7, vs))) (hn : n ≤ 2147483648) {i : Int} (h : 0 ≤ i ∧ i < (n : Int)) (ws' : va_W) (hw : ws.set q0 (a, .inl (E 3, n, .inr (.inr (.inr (.inr (va_up f i.toNat (some v))))))) = ws') (d : decode cc pc = .ok (.aastore, 1))
    (k : ∀ (H1 : Heap) (locs1 : List Loc), va_P D vwCl ws' H1 → va_D A ws' → va_S A H0 H1 locs1 → W p l e R s m args below meth c H1 locs1 cells slots Q (F0 m (pc + 1) ls rest)) : W p l e R s m args below meth c H locs cells slots Q (F0 m pc ls (.ref v :: .int (z4 i) :: .ref a :: rest)) := by
  refine va_astq (r := (RX7, TX7, 2)) X.1 X.2.1 hK.1 hP hD hS q0 3 qk 7 ha rfl hv cl_X7 (z4_in hn h).1 d fun H1 locs1 h1 h2 h3 => ?_
  rw [(z4_in hn h).2, hw] at h1 h2
  exact k H1 locs1 h1 h2 h3
/-- behind a call of a constructor -/
theorem goI {av : Array Value} {st0 : List Value} {wc wr : va_W} {mc ms : Nat} {Ws : va_W → Prop} (hr : va_Run p l e R s m args below meth c H locs cells slots mc ms (F0 m pc ls st0) rest (QI D E Ws (va_A wc H.size) av) (va_A wc H.size))
    (hP : va_P D vwCl (wr ++ wc) H) (hD : va_D A (wr ++ wc)) (hS : va_S A H0 H locs) (hA : ∀ q, H0.size ≤ q → A q)
    (k : ∀ (w1 : va_W) (H1 : Heap) (locs1 : List Loc), Ws w1 → va_P D vwCl (wr ++ w1) H1 → va_D A (wr ++ w1) → va_S A H0 H1 locs1 → W p l e R s m args below meth c H1 locs1 (cells + mc) (slots + ms) Q (F0 m (pc + 3) ls rest)) : W p l e R s m args below meth c H locs cells slots Q (F0 m pc ls st0) := by
  intro T hT X
  have hC : (List.range' wr.length wc.length).map (fun i => (wr ++ wc)[i]?) = wc.map some := pos_right
  have hF := va_free (wc := wc) hD hS hA (List.range' wr.length wc.length) hC
  obtain ⟨v, st₀, t, T', L, h0, X', hL, e1, e2, ⟨hv, ⟨w1, hw, hP1, hK1, hD1⟩, hz, hk⟩, st⟩ := hr T hT X
  cases hv
  rw [h0] at hz hk
  rw [← e1] at hP1
  obtain ⟨hP2, hD2⟩ := va_join (wr := wr) (w1 := w1) hP hD (List.range' wr.length wc.length) (List.range wr.length) hC pos_left (nd_range _) (fun i hi h2 => by
    rw [List.mem_range'_1] at h2
    rw [List.mem_range] at hi
    omega) (fun q h1 h2 => by rw [e1]; exact hk q h1 h2) hF hP1 hD1
  obtain ⟨t2, a1, b1⟩ := k w1 T'.heap (locs ++ L) hw hP2 hD2
    ⟨Nat.le_trans hS.1 (by rw [e1]; exact hz), fun q h1 h2 => by rw [e1, hk q (Nat.lt_of_lt_of_le h1 hS.1) (fun z => h2 (hF q z))]; exact hS.2.1 q h1 h2, fun q hq => by
      rcases List.mem_append.mp hq with h | h
      · exact hS.2.2 q h
      · exact hF _ (hL q h)⟩ T' rfl X'
  exact ⟨t2, st t2 a1, b1⟩
theorem m_cI (X : CallFix p m c cc nL s args (cw :: TT) own) (hK : KK D E s) (hF : SF B Z s s.heap) (hAB : ∀ q, A q → B ≤ q) (hBs : B ≤ s.heap.size) {wr w0 : va_W} (hP : va_P D vwCl (wr ++ w0) H) (hD : va_D A (wr ++ w0)) (hS : va_S A s.heap H locs) (hA : ∀ q, s.heap.size ≤ q → A q) {y : MethodName} {bytes : ByteArray} {maxL idx b : Nat} {rm : Room} {mc ms : Nat} {Ws : va_W → Prop} (hM : MI l y (.code y bytes maxL none) rm D E B Z b w0 mc ms Ws)
    (hl : Cond.methodLink own idx y ∈ TT) (hi : Cond.instanceMethod y ∈ TT) (hini : Cond.initialized y.cls ∈ TT) (hcode : Cond.code y bytes maxL none ∈ TT) (hy : y.name = "<init>") (dy : DY y 0) (h0 : rm.cells = mc) (h1 : rm.slots = ms) (hR : rm.frames + 1 ≤ R.frames ∧ 8 + (maxL + 11) + rm.locals ≤ R.locals) (hls : ls.size = nL) (hw : (rest.map fun v => v.category).sum ≤ 8) (d : decode cc pc = .ok (.invokespecial idx, 3)) (hce : cells + mc ≤ R.cells) (hsl : slots + ms ≤ R.slots)
    (k : ∀ (w1 : va_W) (H1 : Heap) (locs1 : List Loc), Ws w1 → va_P D vwCl (wr ++ w1) H1 → va_D A (wr ++ w1) → va_S A s.heap H1 locs1 → W p l e R s m args below meth c H1 locs1 (cells + mc) (slots + ms) Q (F0 m (pc + 3) ls rest)) : W p l e R s m args below meth c H locs cells slots Q (F0 m pc ls (.ref b :: rest)) := by
  have t : ∀ {w : Cond}, w ∈ TT → w.before args s = true := fun h => X.2.2.2.2 _ (List.mem_cons_of_mem _ h)
  have hPc := hP.sub (List.range' wr.length w0.length) (fm_of pos_right)
  have hDc := hD.sub (List.range' wr.length w0.length) (nd_range' _ _) pos_right
  exact goI (av := [Value.ref b].toArray) (va_runI (As := []) (rest := rest) X (hM H.size) (cwI 0 X.2.2.2.2 (TT_good hcode) rfl h0 h1 (t hini) (t hl) (t hi) hy dy hR) ⟨blindWs, fun U hU hW => ⟨rfl, by rw [hU], by rw [hU]; exact hPc, hK.moved hW, hDc.weaken (fun _ q _ h => hAB q.1 h), Nat.le_trans hBs hS.1, hF.at hAB hS hU hW⟩⟩ rfl rfl hls rfl (lv_room hw) d ⟨hce, hsl⟩) hP hD hS hA k
theorem m_cIN (X : CallFix p m c cc nL s args (cw :: TT) own) (hK : KK D E s) (hF : SF B Z s s.heap) (hAB : ∀ q, A q → B ≤ q) (hBs : B ≤ s.heap.size) {wr w0 : va_W} (hP : va_P D vwCl (wr ++ w0) H) (hD : va_D A (wr ++ w0)) (hS : va_S A s.heap H locs) (hA : ∀ q, s.heap.size ≤ q → A q) {y : MethodName} {bytes : ByteArray} {maxL idx b : Nat} {rm : Room} {mc ms : Nat} {Ws : va_W → Prop} (hM : MI l y (.code y bytes maxL none) rm D E B Z b w0 mc ms Ws)
    (hl : va_Nw (.methodLinkNest own idx y "RunWatch") s) (hi : Cond.instanceMethod y ∈ TT) (hini : Cond.initialized y.cls ∈ TT) (hcode : Cond.code y bytes maxL none ∈ TT) (hy : y.name = "<init>") (dy : DY y 0) (h0 : rm.cells = mc) (h1 : rm.slots = ms) (hR : rm.frames + 1 ≤ R.frames ∧ 8 + (maxL + 11) + rm.locals ≤ R.locals) (hls : ls.size = nL) (hw : (rest.map fun v => v.category).sum ≤ 8) (d : decode cc pc = .ok (.invokespecial idx, 3)) (hce : cells + mc ≤ R.cells) (hsl : slots + ms ≤ R.slots)
    (k : ∀ (w1 : va_W) (H1 : Heap) (locs1 : List Loc), Ws w1 → va_P D vwCl (wr ++ w1) H1 → va_D A (wr ++ w1) → va_S A s.heap H1 locs1 → W p l e R s m args below meth c H1 locs1 (cells + mc) (slots + ms) Q (F0 m (pc + 3) ls rest)) : W p l e R s m args below meth c H locs cells slots Q (F0 m pc ls (.ref b :: rest)) := by
  have t : ∀ {w : Cond}, w ∈ TT → w.before args s = true := fun h => X.2.2.2.2 _ (List.mem_cons_of_mem _ h)
  have hPc := hP.sub (List.range' wr.length w0.length) (fm_of pos_right)
  have hDc := hD.sub (List.range' wr.length w0.length) (nd_range' _ _) pos_right
  exact goI (av := [Value.ref b].toArray) (va_runIN (As := []) (rest := rest) X (hM H.size) ⟨va_cnB 0 X.2.2.2.2 (TT_good hcode) rfl h0 h1 hl (t hini) dy hR, hy, t hi⟩ ⟨blindWs, fun U hU hW => ⟨rfl, by rw [hU], by rw [hU]; exact hPc, hK.moved hW, hDc.weaken (fun _ q _ h => hAB q.1 h), Nat.le_trans hBs hS.1, hF.at hAB hS hU hW⟩⟩ rfl rfl hls rfl (lv_room hw) d ⟨hce, hsl⟩) hP hD hS hA k
theorem m_multi (X : CallFix p m c cc nL s args (cw :: TT) own) (hK : KK D E s) (hP : va_P D vwCl ws H) (hD : va_D A ws) (hS : va_S A H0 H locs) (hA : ∀ q, H0.size ≤ q → A q) {idx : Nat} (hcl : Cond.classLink own idx "[[I" ∈ TT) (hce : cells + 65 ≤ R.cells) (hsl : slots + 4224 ≤ R.slots) (d : decode cc pc = .ok (.multianewarray idx 2, 4))
    (k : ∀ (q : Nat) (L : List Nat) (g : Nat → Nat) (H1 : Heap) (locs1 : List Loc), gI L g → va_P D vwCl ((ws ++ [(q, .inl (E 4, 64, .inr (.inr (.inr (.inr (OG g))))))]) ++ va_pl L (GP E fun _ _ => 0)) H1 → va_D A ((ws ++ [(q, .inl (E 4, 64, .inr (.inr (.inr (.inr (OG g))))))]) ++ va_pl L (GP E fun _ _ => 0)) → va_S A H0 H1 locs1 → W p l e R s m args below meth c H1 locs1 (cells + 65) (slots + 4224) Q (F0 m (pc + 4) ls (.ref q :: rest))) : W p l e R s m args below meth c H locs cells slots Q (F0 m pc ls (.int (z4 65) :: .int (z4 64) :: rest)) := by
  obtain ⟨hAr, hRa⟩ := hK.1.2 0 _ rfl
  obtain ⟨-, kE, f1, cq, f2⟩ := hAr 0 (fun _ => .int 0)
  refine W.multi (N := 64) (M := 65) X.1 X.2.1 X.2.2.2.1 (X.2.2.2.2 _ (List.mem_cons_of_mem _ hcl)) hK.2.1 hRa f1 f2 rfl d rfl (by decide) (by decide) (by decide) (by decide) (by decide) (by decide) (by decide) (by omega) (by omega) (fun H' cA L hn hz he hi ho hL => ?_)
  cases hn.symm.trans (show s.vm.findClass ("[" ++ (FieldType.array .int).toString) = some (E 4) from (hK.1.2 4 _ rfl).2)
  have e1 : vp_cell (E 4) (64, .inr (.inr (.inr (.inr (OG fun i => H.size + 1 + i))))) = arrV (E 4) 64 (mlF H.size 64) := by
    rw [vp_cell_q]
    unfold arrV
    have e3 : (Array.ofFn (n := 64) fun j => va_rf (OG (fun i => H.size + 1 + i) j.val)) = Array.ofFn (n := 64) fun j => mlF H.size 64 j.val := by
      congr 1
      funext j
      have hj := j.isLt
      simp [OG, va_rf, mlF, hj]
    rw [e3]
  have hk : ∀ (kk : Nat) (x : Nat × va_E), ws[kk]? = some x → H'[x.1]? = H[x.1]? := fun kk x hx => ho x.1 ((hP kk x hx).lt)
  have hz0 := hS.1
  have w1 : va_P D vwCl [(H.size, .inl (E 4, 64, .inr (.inr (.inr (.inr (OG fun i => H.size + 1 + i))))))] H' := fun kk x hx => by
    have hz : kk < 1 := (List.getElem?_eq_some_iff.mp hx).1
    rw [show kk = 0 by omega] at hx
    cases hx
    show H'[H.size]? = some (vp_cell _ _)
    rw [e1]
    exact he
  have w2 : va_P D vwCl (va_pl (List.range' (H.size + 1) 64) (GP E fun _ _ => 0)) H' := vp_mem.mpr fun x hx => by
    obtain ⟨b, hb, rfl⟩ := List.mem_map.mp hx
    rw [List.mem_range'_1] at hb
    have := hi (b - (H.size + 1)) (by omega)
    rw [show H.size + 1 + (b - (H.size + 1)) = b by omega] at this
    exact this
  have dn : va_D A ([(H.size, .inl (E 4, 64, .inr (.inr (.inr (.inr (OG fun i => H.size + 1 + i))))))] ++ va_pl (List.range' (H.size + 1) 64) (GP E fun _ _ => 0)) := vd_iff.mpr ⟨by
    have e2 : ([(H.size, (.inl (E 4, 64, .inr (.inr (.inr (.inr (OG fun i => H.size + 1 + i))))) : va_E))] ++ va_pl (List.range' (H.size + 1) 64) (GP E fun _ _ => 0)).map Prod.fst = List.range' H.size 65 := by
      rw [List.range'_succ, List.map_append]
      unfold va_pl
      rw [List.map_map]
      show [H.size] ++ (List.range' (H.size + 1) 64).map (fun a => a) = _
      rw [List.map_id']
      rfl
    rw [e2]
    exact List.nodup_range', fun x hx => by
    rcases List.mem_append.mp hx with h | h
    · rw [List.mem_singleton.mp h]
      exact hA _ hz0
    · obtain ⟨b, hb, rfl⟩ := List.mem_map.mp h
      rw [List.mem_range'_1] at hb
      exact hA _ (by show H0.size ≤ b; omega)⟩
  refine k H.size (List.range' (H.size + 1) 64) (fun i => H.size + 1 + i) H' (locs ++ L) ⟨fun i hi => List.mem_range'_1.mpr (show H.size + 1 ≤ H.size + 1 + i ∧ H.size + 1 + i < H.size + 1 + 64 by omega), fun i j _ _ h => by dsimp only at h; omega⟩ (((hP.kept hk).app w1).app w2) ?_ ⟨by omega, fun q h1 h2 => by rw [ho q (by omega)]; exact hS.2.1 q h1 h2, fun q hq => ?_⟩
  · rw [List.append_assoc]
    refine hD.app dn (fun i j x y hx hy => ?_)
    have lt := (hP i x hx).lt
    have hm := List.mem_of_getElem? hy
    rcases List.mem_append.mp hm with h | h
    · rw [List.mem_singleton.mp h]
      exact Nat.ne_of_lt lt
    · obtain ⟨b, hb, rfl⟩ := List.mem_map.mp h
      rw [List.mem_range'_1] at hb
      show x.1 ≠ b
      omega
  · rcases List.mem_append.mp hq with h | h
    · exact hS.2.2 q h
    · rw [hL q h]
      exact hA _ hz0
end MAKE
