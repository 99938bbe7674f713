/-! methods by their bodies; calls -/
def QR (rv : Option Value) : Array Value → State → Outcome → State → Prop := fun _ st o t => o = .returned rv ∧ t.heap = st.heap
def QW (D : va_G) (E : Nat → ClassId) (rv : Option Value) (w1 : va_W) (A : Nat → Prop) : Array Value → State → Outcome → State → Prop := fun _ st o t => o = .returned rv ∧ (va_P D vwCl w1 t.heap ∧ KK D E t ∧ va_D A w1) ∧ va_F A st t
theorem MR_of {l : Launch} {y : MethodName} {cc : ByteArray} {nL : Nat} {ret : Option FieldType} {rm : Room} {D : va_G} {E : Nat → ClassId} {av : List Value} {wc : va_W} {rv : Option Value} (hy : plainName y.cls = true) (hlen : (lg_sl av).length ≤ nL)
    (body : ∀ (p : Program) (e : Env) (s : State) (m : MethodId) (args : Array Value) (below : List Frame) (meth : Method) (c : Code), CallFix p m c cc nL s args (.code y cc nL ret :: TT) y.cls → meth.sig.returnType = ret → meth.locks = false → KK D E s → va_P D vwCl wc s.heap → ∀ ls : Array Slot, lv_has ls nL (lv_args 0 av) →
      W p l e rm s m args below meth c s.heap [] 0 0 (MQ below (QR rv) args s 0 0 (fun _ => False)) (F0 m 0 ls [])) : MR l y (.code y cc nL ret) rm D E av wc rv := by
  refine Met.ofW (cc := cc) (maxL := nL) (ret := ret) hy rfl ?_
  intro p e s m args below meth c s₁ B hml hv
  obtain ⟨hav, hP, hK⟩ := hv
  subst hav
  rw [lg_entry_eq]
  exact body p e s m _ below meth c ⟨B.exec, B.bytes, hml, findClass_of_methodNamed B.named, atoms_spec (ws := .code y cc nL ret :: TT) B.pre⟩ B.returns B.notSynchronized hK hP _ (lv_entry av hlen)
theorem MW_of {l : Launch} {y : MethodName} {cc : ByteArray} {nL : Nat} {ret : Option FieldType} {rm : Room} {D : va_G} {E : Nat → ClassId} {av : List Value} {wc w1 : va_W} {rv : Option Value} (hy : plainName y.cls = true) (hlen : (lg_sl av).length ≤ nL)
    (body : ∀ (p : Program) (e : Env) (s : State) (m : MethodId) (args : Array Value) (below : List Frame) (meth : Method) (c : Code) (A : Nat → Prop), CallFix p m c cc nL s args (.code y cc nL ret :: TT) y.cls → meth.sig.returnType = ret → meth.locks = false → KK D E s → va_P D vwCl wc s.heap → va_D A wc → (∀ q, s.heap.size ≤ q → A q) → ∀ ls : Array Slot, lv_has ls nL (lv_args 0 av) →
      W p l e rm s m args below meth c s.heap [] 0 0 (MQ below (QW D E rv w1 A) args s 0 0 A) (F0 m 0 ls [])) : MW l y (.code y cc nL ret) rm D E av wc rv w1 := by
  intro sz
  refine Met.ofW (cc := cc) (maxL := nL) (ret := ret) hy rfl ?_
  intro p e s m args below meth c s₁ B hml hv
  obtain ⟨hav, hsz, hP, hK, hD⟩ := hv
  subst hav
  subst hsz
  rw [lg_entry_eq]
  exact body p e s m _ below meth c (va_A wc s.heap.size) ⟨B.exec, B.bytes, hml, findClass_of_methodNamed B.named, atoms_spec (ws := .code y cc nL ret :: TT) B.pre⟩ B.returns B.notSynchronized hK hP hD.self (fun q h => Or.inr h) _ (lv_entry av hlen)
theorem fm_of {α β : Type} {f : α → Option β} : ∀ {is : List α} {w : List β}, is.map f = w.map some → is.filterMap f = w
  | [], [], _ => rfl
  | [], _ :: _, h => by simp at h
  | _ :: _, [], h => by simp at h
  | i :: is, x :: w, h => by
    simp only [List.map_cons, List.cons.injEq] at h
    rw [List.filterMap_cons_some h.1, fm_of h.2]
section CALLS
variable {p : Program} {l : Launch} {e : Env} {R : Room} {s : State} {m : MethodId} {args : Array Value} {below : List Frame} {meth : Method} {c : Code} {H : Heap} {locs : List Loc} {cells slots : Nat} {Q : State → Prop}
variable {cc : ByteArray} {pc nL : Nat} {ls : Array Slot} {rest : List Value} {D : va_G} {E : Nat → ClassId} {A : Nat → Prop} {a : Nat} {ws : va_W} {H0 : Heap} {cw : Cond} {own : String}
theorem m_iretR (X : CallFix p m c cc nL s args (cw :: TT) own) (hr : meth.sig.returnType = some .int) (hlocks : meth.locks = false) {x : Int} (d : decode cc pc = .ok (.ireturn, 1)) : W p l e R s m args below meth c s.heap [] 0 0 (MQ below (QR (some (.int (z4 x)))) args s 0 0 (fun _ => False)) (F0 m pc ls [.int (z4 x)]) :=
  W.iret X.1 X.2.1 hr (fun t ht _ => ⟨rfl, ht⟩) (fun _ h => by cases h) d hlocks
theorem nb_ {x : Int} (h : x = 0 ∨ x = 1) : narrow .boolean (.int (z4 x)) = .int (z4 x) := by rcases h with rfl | rfl <;> rfl
theorem m_zretR (X : CallFix p m c cc nL s args (cw :: TT) own) (hr : meth.sig.returnType = some .boolean) (hlocks : meth.locks = false) {x : Int} (h : x = 0 ∨ x = 1) (d : decode cc pc = .ok (.ireturn, 1)) : W p l e R s m args below meth c s.heap [] 0 0 (MQ below (QR (some (.int (z4 x)))) args s 0 0 (fun _ => False)) (F0 m pc ls [.int (z4 x)]) :=
  W.zret X.1 X.2.1 hr (nb_ h) (fun t ht _ => ⟨rfl, ht⟩) (fun _ h => by cases h) d hlocks
theorem m_lretR (X : CallFix p m c cc nL s args (cw :: TT) own) (hr : meth.sig.returnType = some .long) (hlocks : meth.locks = false) {x : Int} (d : decode cc pc = .ok (.lreturn, 1)) : W p l e R s m args below meth c s.heap [] 0 0 (MQ below (QR (some (.long (z8 x)))) args s 0 0 (fun _ => False)) (F0 m pc ls [.long (z8 x)]) :=
  W.lret X.1 X.2.1 hr (fun t ht _ => ⟨rfl, ht⟩) (fun _ h => by cases h) d hlocks
theorem m_iretW (X : CallFix p m c cc nL s args (cw :: TT) own) (hr : meth.sig.returnType = some .int) (hlocks : meth.locks = false) (hK : KK D E s) (hP : va_P D vwCl ws H) (hD : va_D A ws) (hS : va_S A s.heap H locs) {x : Int} (d : decode cc pc = .ok (.ireturn, 1)) : W p l e R s m args below meth c H locs 0 0 (MQ below (QW D E (some (.int (z4 x))) ws A) args s 0 0 A) (F0 m pc ls [.int (z4 x)]) :=
  W.iret X.1 X.2.1 hr (fun t ht hW => ⟨rfl, ⟨by rw [ht]; exact hP, hK.moved hW, hD⟩, hS.F ht⟩) hS.2.2 d hlocks
theorem m_zretW (X : CallFix p m c cc nL s args (cw :: TT) own) (hr : meth.sig.returnType = some .boolean) (hlocks : meth.locks = false) (hK : KK D E s) (hP : va_P D vwCl ws H) (hD : va_D A ws) (hS : va_S A s.heap H locs) {x : Int} (h : x = 0 ∨ x = 1) (d : decode cc pc = .ok (.ireturn, 1)) : W p l e R s m args below meth c H locs 0 0 (MQ below (QW D E (some (.int (z4 x))) ws A) args s 0 0 A) (F0 m pc ls [.int (z4 x)]) :=
  W.zret X.1 X.2.1 hr (nb_ h) (fun t ht hW => ⟨rfl, ⟨by rw [ht]; exact hP, hK.moved hW, hD⟩, hS.F ht⟩) hS.2.2 d hlocks
theorem m_vretW (X : CallFix p m c cc nL s args (cw :: TT) own) (hr : meth.sig.returnType = none) (hlocks : meth.locks = false) (hK : KK D E s) (hP : va_P D vwCl ws H) (hD : va_D A ws) (hS : va_S A s.heap H locs) (d : decode cc pc = .ok (.return_, 1)) : W p l e R s m args below meth c H locs 0 0 (MQ below (QW D E none ws A) args s 0 0 A) (F0 m pc ls []) :=
  W.vret X.1 X.2.1 hr (fun t ht hW => ⟨rfl, ⟨by rw [ht]; exact hP, hK.moved hW, hD⟩, hS.F ht⟩) hS.2.2 d hlocks
theorem blindR {av : List Value} {wc : va_W} : FrameBlind (va_Pc av (fun U => va_P D vwCl wc U.heap ∧ KK D E U)) := fun a U g mk q => ⟨q.1, q.2.1, KK.moved (u := U) (U := U.calling g mk a) (State.WarmedH.refl U) q.2.2⟩
theorem blindW {av : List Value} {wc : va_W} {sz : Nat} : FrameBlind (va_Pc av (fun U => U.heap.size = sz ∧ va_P D vwCl wc U.heap ∧ KK D E U ∧ va_D (fun _ => True) wc)) := fun a U g mk q => ⟨q.1, q.2.1, q.2.2.1, KK.moved (u := U) (U := U.calling g mk a) (State.WarmedH.refl U) q.2.2.2.1, q.2.2.2.2⟩
/-- behind a call that only reads -/
theorem goR {rv : Option Value} {av : Array Value} {st0 : List Value} (hr : va_Run p l e R s m args below meth c H locs cells slots 0 0 (F0 m pc ls st0) rest ((fun _ st o t => o = .returned rv ∧ t.heap = st.heap : Array Value → State → Outcome → State → Prop) av) (fun _ => False))
    (k : W p l e R s m args below meth c H locs cells slots Q (F0 m (pc + 3) ls (rv.toList ++ rest))) : W p l e R s m args below meth c H locs cells slots Q (F0 m pc ls st0) := by
  intro T hT X
  obtain ⟨v, st₀, t, T', L, h0, X', hL, e1, e2, ⟨hv, hh⟩, st⟩ := hr T hT X
  cases hv
  obtain ⟨t2, a1, b1⟩ := k T' (by rw [e1, hh, h0]) (Stand.forget X' (fun q h => (hL q h).elim))
  exact ⟨t2, st t2 a1, b1⟩
/-- behind a call that writes in its world -/
theorem goW {rv : Option Value} {av : Array Value} {st0 : List Value} {wc wr w1 ws' : va_W} (hr : va_Run p l e R s m args below meth c H locs cells slots 0 0 (F0 m pc ls st0) rest ((fun _ st o t => o = .returned rv ∧ (va_P D vwCl w1 t.heap ∧ KK D E t ∧ va_D (va_A wc H.size) w1) ∧ va_F (va_A wc H.size) st t : Array Value → State → Outcome → State → Prop) av) (va_A wc H.size))
    (hP : va_P D vwCl ws H) (hD : va_D A ws) (hS : va_S A H0 H locs) (hA : ∀ q, H0.size ≤ q → A q) (isC isR is : List Nat) (hC : isC.map (fun i => ws[i]?) = wc.map some) (hR : isR.map (fun i => ws[i]?) = wr.map some) (hn : va_nd isR = true) (hdis : ∀ i ∈ isR, i ∉ isC) (hi : is.map (fun i => (wr ++ w1)[i]?) = ws'.map some) (hni : va_nd is = true)
    (k : ∀ (H1 : Heap) (locs1 : List Loc), va_P D vwCl ws' H1 → va_D A ws' → va_S A H0 H1 locs1 → W p l e R s m args below meth c H1 locs1 cells slots Q (F0 m (pc + 3) ls (rv.toList ++ rest))) : W p l e R s m args below meth c H locs cells slots Q (F0 m pc ls st0) := by
  intro T hT X
  have hF := va_free (wc := wc) hD hS hA isC hC
  obtain ⟨v, st₀, t, T', L, h0, X', hL, e1, e2, ⟨hv, ⟨hP1, hK1, hD1⟩, hz, hk⟩, st⟩ := hr T hT X
  cases hv
  rw [h0] at hz hk
  rw [← e1] at hP1
  obtain ⟨hP2, hD2⟩ := va_join (wr := wr) (w1 := w1) hP hD isC isR hC hR hn hdis (fun q h1 h2 => by rw [e1]; exact hk q h1 h2) hF hP1 hD1
  have hfm := fm_of hi
  obtain ⟨t2, a1, b1⟩ := k T'.heap (locs ++ L) (hP2.sub is hfm) (hD2.sub is hni hi)
    ⟨Nat.le_trans hS.1 (by rw [e1]; exact hz), fun q h1 h2 => by rw [e1, hk q (Nat.lt_of_lt_of_le h1 hS.1) (fun z => h2 (hF q z))]; exact hS.2.1 q h1 h2, fun q hq => by
      rcases List.mem_append.mp hq with h | h
      · exact hS.2.2 q h
      · exact hF _ (hL q h)⟩ T' rfl X'
  exact ⟨t2, st t2 a1, b1⟩
theorem cV (X : CallFix p m c cc nL s args (cw :: TT) own) {y : MethodName} {bytes : ByteArray} {maxL idx n : Nat} {ret : Option FieldType} {rm : Room} (L : LnV own y.cls idx y) (hcode : Cond.code y bytes maxL ret ∈ TT) (dy : DY y n) (h0 : rm.cells = 0) (h1 : rm.slots = 0) (hR : rm.frames + 1 ≤ R.frames ∧ 8 + (maxL + 11) + rm.locals ≤ R.locals) :
    CallW R s args own y.cls idx y bytes maxL ret (.code y bytes maxL ret :: TT) rm 0 0 n := by
  have t : ∀ {w : Cond}, w ∈ TT → w.before args s = true := fun h => X.2.2.2.2 _ (List.mem_cons_of_mem _ h)
  exact ⟨callB_of n X.2.2.2.2 (TT_good hcode) rfl h0 h1 (t L.2.2.2) (t L.1) dy hR, t L.2.1, t L.2.2.1⟩
theorem cS (X : CallFix p m c cc nL s args (cw :: TT) own) {y : MethodName} {bytes : ByteArray} {maxL idx n : Nat} {ret : Option FieldType} {rm : Room} (L : LnS own idx y) (hcode : Cond.code y bytes maxL ret ∈ TT) (dy : DY y n) (h0 : rm.cells = 0) (h1 : rm.slots = 0) (hR : rm.frames + 1 ≤ R.frames ∧ 8 + (maxL + 11) + rm.locals ≤ R.locals) :
    CallB R s args own idx y bytes maxL ret (.code y bytes maxL ret :: TT) rm 0 0 n ∧ (Cond.static y).before args s = true := by
  have t : ∀ {w : Cond}, w ∈ TT → w.before args s = true := fun h => X.2.2.2.2 _ (List.mem_cons_of_mem _ h)
  exact ⟨callB_of n X.2.2.2.2 (TT_good hcode) rfl h0 h1 (t L.2.2) (t L.1) dy hR, t L.2.1⟩
theorem m_cVR (X : CallFix p m c cc nL s args (cw :: TT) own) (hK : KK D E s) {y : MethodName} {bytes : ByteArray} {maxL idx ci b N : Nat} {T : u_T} {fs : List Value} {ret : Option FieldType} {rm : Room} {As st0 : List Value} {wc : va_W} {rv : Option Value} (hM : MR l y (.code y bytes maxL ret) rm D E (.ref b :: As) wc rv) (hP : va_P D vwCl wc H) (hv : wc[0]? = some (b, .inr (ci, fs))) (hc : vwCl[ci]? = some (y.cls, T, N))
    (L : LnV own y.cls idx y) (hcode : Cond.code y bytes maxL ret ∈ TT) (dy : DY y As.length) (h0 : rm.cells = 0) (h1 : rm.slots = 0) (hR : rm.frames + 1 ≤ R.frames ∧ 8 + (maxL + 11) + rm.locals ≤ R.locals) (hls : ls.size = nL) (hst : st0 = As.reverse ++ .ref b :: rest) (hw : (rest.map fun v => v.category).sum ≤ 8) (d : decode cc pc = .ok (.invokevirtual idx, 3)) (hce : cells ≤ R.cells) (hsl : slots ≤ R.slots)
    (k : W p l e R s m args below meth c H locs cells slots Q (F0 m (pc + 3) ls (rv.toList ++ rest))) : W p l e R s m args below meth c H locs cells slots Q (F0 m pc ls st0) := by
  subst hst
  exact goR (av := (Value.ref b :: As).toArray) (va_runV (As := As) (rest := rest) X hM (cV X L hcode dy h0 h1 hR) ⟨blindR, va_recv hK.1 hP hc hv, fun U hU hW => ⟨rfl, by rw [hU]; exact hP, hK.moved hW⟩⟩ rfl rfl hls rfl (lv_room hw) d ⟨hce, hsl⟩) k
theorem m_cSR (X : CallFix p m c cc nL s args (cw :: TT) own) (hK : KK D E s) {y : MethodName} {bytes : ByteArray} {maxL idx : Nat} {ret : Option FieldType} {rm : Room} {As st0 : List Value} {wc : va_W} {rv : Option Value} (hM : MR l y (.code y bytes maxL ret) rm D E As wc rv) (hP : va_P D vwCl wc H)
    (L : LnS own idx y) (hcode : Cond.code y bytes maxL ret ∈ TT) (dy : DY y As.length) (h0 : rm.cells = 0) (h1 : rm.slots = 0) (hR : rm.frames + 1 ≤ R.frames ∧ 8 + (maxL + 11) + rm.locals ≤ R.locals) (hls : ls.size = nL) (hst : st0 = As.reverse ++ rest) (hw : (rest.map fun v => v.category).sum ≤ 8) (d : decode cc pc = .ok (.invokestatic idx, 3)) (hce : cells ≤ R.cells) (hsl : slots ≤ R.slots)
    (k : W p l e R s m args below meth c H locs cells slots Q (F0 m (pc + 3) ls (rv.toList ++ rest))) : W p l e R s m args below meth c H locs cells slots Q (F0 m pc ls st0) := by
  subst hst
  exact goR (av := As.toArray) (va_runS (As := As) (rest := rest) X hM (cS X L hcode dy h0 h1 hR) ⟨blindR, fun U hU hW => ⟨rfl, by rw [hU]; exact hP, hK.moved hW⟩⟩ rfl rfl hls rfl (lv_room hw) d ⟨hce, hsl⟩) k
theorem m_cSRN (X : CallFix p m c cc nL s args (cw :: TT) own) (hK : KK D E s) {y : MethodName} {bytes : ByteArray} {maxL idx : Nat} {ret : Option FieldType} {rm : Room} {As st0 : List Value} {wc : va_W} {rv : Option Value} (hM : MR l y (.code y bytes maxL ret) rm D E As wc rv) (hP : va_P D vwCl wc H)
    (hl : va_Nw (.methodLinkNest own idx y "RunWatch") s) (L : Cond.static y ∈ TT ∧ Cond.initialized y.cls ∈ TT) (hcode : Cond.code y bytes maxL ret ∈ TT) (dy : DY y As.length) (h0 : rm.cells = 0) (h1 : rm.slots = 0) (hR : rm.frames + 1 ≤ R.frames ∧ 8 + (maxL + 11) + rm.locals ≤ R.locals) (hls : ls.size = nL) (hst : st0 = As.reverse ++ rest) (hw : (rest.map fun v => v.category).sum ≤ 8) (d : decode cc pc = .ok (.invokestatic idx, 3)) (hce : cells ≤ R.cells) (hsl : slots ≤ R.slots)
    (k : W p l e R s m args below meth c H locs cells slots Q (F0 m (pc + 3) ls (rv.toList ++ rest))) : W p l e R s m args below meth c H locs cells slots Q (F0 m pc ls st0) := by
  have t : ∀ {w : Cond}, w ∈ TT → w.before args s = true := fun h => X.2.2.2.2 _ (List.mem_cons_of_mem _ h)
  subst hst
  exact goR (av := As.toArray) (va_runSN (As := As) (rest := rest) X hM ⟨va_cnB As.length X.2.2.2.2 (TT_good hcode) rfl h0 h1 hl (t L.2) dy hR, t L.1, trivial⟩ ⟨blindR, fun U hU hW => ⟨rfl, by rw [hU]; exact hP, hK.moved hW⟩⟩ rfl rfl hls rfl (lv_room hw) d ⟨hce, hsl⟩) k
theorem m_cVW (X : CallFix p m c cc nL s args (cw :: TT) own) (hK : KK D E s) (hP : va_P D vwCl ws H) (hD : va_D A ws) (hS : va_S A H0 H locs) (hA : ∀ q, H0.size ≤ q → A q) {y : MethodName} {bytes : ByteArray} {maxL idx ci b N : Nat} {T : u_T} {fs : List Value} {ret : Option FieldType} {rm : Room} {As st0 : List Value} {wc wr w1 : va_W} {rv : Option Value} (hM : MW l y (.code y bytes maxL ret) rm D E (.ref b :: As) wc rv w1)
    (isC isR is : List Nat) (ws' : va_W) (hC : isC.map (fun i => ws[i]?) = wc.map some) (hRr : isR.map (fun i => ws[i]?) = wr.map some) (hnC : va_nd isC = true) (hn : va_nd isR = true) (hdis : ∀ i ∈ isR, i ∉ isC) (hi : is.map (fun i => (wr ++ w1)[i]?) = ws'.map some) (hni : va_nd is = true) (hv : wc[0]? = some (b, .inr (ci, fs))) (hc : vwCl[ci]? = some (y.cls, T, N))
    (L : LnV own y.cls idx y) (hcode : Cond.code y bytes maxL ret ∈ TT) (dy : DY y As.length) (h0 : rm.cells = 0) (h1 : rm.slots = 0) (hR : rm.frames + 1 ≤ R.frames ∧ 8 + (maxL + 11) + rm.locals ≤ R.locals) (hls : ls.size = nL) (hst : st0 = As.reverse ++ .ref b :: rest) (hw : (rest.map fun v => v.category).sum ≤ 8) (d : decode cc pc = .ok (.invokevirtual idx, 3)) (hce : cells ≤ R.cells) (hsl : slots ≤ R.slots)
    (k : ∀ (H1 : Heap) (locs1 : List Loc), va_P D vwCl ws' H1 → va_D A ws' → va_S A H0 H1 locs1 → W p l e R s m args below meth c H1 locs1 cells slots Q (F0 m (pc + 3) ls (rv.toList ++ rest))) : W p l e R s m args below meth c H locs cells slots Q (F0 m pc ls st0) := by
  subst hst
  have hfm := fm_of hC
  have hPc := hP.sub isC hfm
  have hDc := hD.sub isC hnC hC
  exact goW (av := (Value.ref b :: As).toArray) (va_runV (As := As) (rest := rest) X (hM H.size) (cV X L hcode dy h0 h1 hR) ⟨blindW, va_recv hK.1 hPc hc hv, fun U hU hW => ⟨rfl, by rw [hU], by rw [hU]; exact hPc, hK.moved hW, hDc.weaken (fun _ _ _ _ => trivial)⟩⟩ rfl rfl hls rfl (lv_room hw) d ⟨hce, hsl⟩) hP hD hS hA isC isR is hC hRr hn hdis hi hni k
theorem m_cSW (X : CallFix p m c cc nL s args (cw :: TT) own) (hK : KK D E s) (hP : va_P D vwCl ws H) (hD : va_D A ws) (hS : va_S A H0 H locs) (hA : ∀ q, H0.size ≤ q → A q) {y : MethodName} {bytes : ByteArray} {maxL idx : Nat} {ret : Option FieldType} {rm : Room} {As st0 : List Value} {wc wr w1 : va_W} {rv : Option Value} (hM : MW l y (.code y bytes maxL ret) rm D E As wc rv w1)
    (isC isR is : List Nat) (ws' : va_W) (hC : isC.map (fun i => ws[i]?) = wc.map some) (hRr : isR.map (fun i => ws[i]?) = wr.map some) (hnC : va_nd isC = true) (hn : va_nd isR = true) (hdis : ∀ i ∈ isR, i ∉ isC) (hi : is.map (fun i => (wr ++ w1)[i]?) = ws'.map some) (hni : va_nd is = true)
    (L : LnS own idx y) (hcode : Cond.code y bytes maxL ret ∈ TT) (dy : DY y As.length) (h0 : rm.cells = 0) (h1 : rm.slots = 0) (hR : rm.frames + 1 ≤ R.frames ∧ 8 + (maxL + 11) + rm.locals ≤ R.locals) (hls : ls.size = nL) (hst : st0 = As.reverse ++ rest) (hw : (rest.map fun v => v.category).sum ≤ 8) (d : decode cc pc = .ok (.invokestatic idx, 3)) (hce : cells ≤ R.cells) (hsl : slots ≤ R.slots)
    (k : ∀ (H1 : Heap) (locs1 : List Loc), va_P D vwCl ws' H1 → va_D A ws' → va_S A H0 H1 locs1 → W p l e R s m args below meth c H1 locs1 cells slots Q (F0 m (pc + 3) ls (rv.toList ++ rest))) : W p l e R s m args below meth c H locs cells slots Q (F0 m pc ls st0) := by
  subst hst
  have hfm := fm_of hC
  have hPc := hP.sub isC hfm
  have hDc := hD.sub isC hnC hC
  exact goW (av := As.toArray) (va_runS (As := As) (rest := rest) X (hM H.size) (cS X L hcode dy h0 h1 hR) ⟨blindW, fun U hU hW => ⟨rfl, by rw [hU], by rw [hU]; exact hPc, hK.moved hW, hDc.weaken (fun _ _ _ _ => trivial)⟩⟩ rfl rfl hls rfl (lv_room hw) d ⟨hce, hsl⟩) hP hD hS hA isC isR is hC hRr hn hdis hi hni k
/-- a field is read, written -/
theorem m_get (X : CallFix p m c cc nL s args (cw :: TT) own) (hK : KK D E s) (hP : va_P D vwCl ws H) {ci N idx : Nat} {C : String} {T : u_T} (hc : vwCl[ci]? = some (C, T, N)) (hin : ∀ w ∈ u_ws C T N, w ∈ TT) (kf : Nat) (hk : kf < N) (hl : Cond.fieldLink own idx (T kf).1 (T kf).2.1 (T kf).2.2.1 ∈ TT) (q0 : Nat) {fs : List Value} (he : ws[q0]? = some (a, .inr (ci, fs))) {v : Value} (hv : fs[kf]? = some v) (d : decode cc pc = .ok (.getfield idx, 3))
    (k : W p l e R s m args below meth c H locs cells slots Q (F0 m (pc + 3) ls (v :: rest))) : W p l e R s m args below meth c H locs cells slots Q (F0 m pc ls (.ref a :: rest)) :=
  va_get (tys := [(E 0, .int), (E 1, .boolean), (E 2, .long), (E 3, .object "RunWatch$Sheet"), (E 4, .array .int)]) X.1 X.2.1 X.2.2.2.2 (fun w h => List.mem_cons_of_mem _ (hin w h)) X.2.2.2.1 hK.1 hP q0 he hc kf hk (X.2.2.2.2 _ (List.mem_cons_of_mem _ hl)) (fun _ h => h) hv d k
theorem m_put (X : CallFix p m c cc nL s args (cw :: TT) own) (hK : KK D E s) (hP : va_P D vwCl ws H) (hD : va_D A ws) (hS : va_S A H0 H locs) {ci N idx : Nat} {C : String} {T : u_T} (hc : vwCl[ci]? = some (C, T, N)) (hin : ∀ w ∈ u_ws C T N, w ∈ TT) (ty : Nat → FieldType) (hty : ∀ k, k < N → parseFieldDescriptor (T k).2.2.1 = some (ty k)) (hnm : ∀ a, a < N → ∀ b, b < N → a ≠ b → (T a).2.1 ≠ (T b).2.1) (kf : Nat) (hk : kf < N) (hl : Cond.fieldLink own idx (T kf).1 (T kf).2.1 (T kf).2.2.1 ∈ TT) (hfin : (T kf).2.2.2 = false)
    (q0 : Nat) {fs : List Value} (he : ws[q0]? = some (a, .inr (ci, fs))) {v : Value} (hn : narrow (ty kf) v = v) (hfit : fits (ty kf) v = true) (hlen : kf < fs.length) (ws' : va_W) (hw : ws.set q0 (a, .inr (ci, fs.set kf v)) = ws') (d : decode cc pc = .ok (.putfield idx, 3))
    (k : ∀ (H1 : Heap) (locs1 : List Loc), va_P D vwCl ws' H1 → va_D A ws' → va_S A H0 H1 locs1 → W p l e R s m args below meth c H1 locs1 cells slots Q (F0 m (pc + 3) ls rest)) : W p l e R s m args below meth c H locs cells slots Q (F0 m pc ls (v :: .ref a :: rest)) := by
  refine va_put (tys := [(E 0, .int), (E 1, .boolean), (E 2, .long), (E 3, .object "RunWatch$Sheet"), (E 4, .array .int)]) X.1 X.2.1 X.2.2.2.2 (fun w h => List.mem_cons_of_mem _ (hin w h)) ty hty hnm X.2.2.2.1 hK.1 hP hD hS q0 he hc kf hk (X.2.2.2.2 _ (List.mem_cons_of_mem _ hl)) (fun _ h => h) hfin (hty kf hk) hn hfit hlen d fun H1 locs1 h1 h2 h3 => ?_
  rw [hw] at h1 h2
  exact k H1 locs1 h1 h2 h3
theorem m_max (X : CallFix p m c cc nL s args (cw :: TT) own) {idx : Nat} (hl : Cond.methodLink own idx Lib.Math.max.name ∈ TT) (h1 : Cond.static Lib.Math.max.name ∈ TT) (h2 : Cond.initialized "java/lang/Math" ∈ TT) (h3 : Cond.code Lib.Math.max.name Lib.Math.max.code 2 (some .int) ∈ TT) (hls : ls.size = nL) (hf : 1 ≤ R.frames) (ho : (rest.map fun v => v.category).sum + 13 ≤ R.locals) (hce : cells ≤ R.cells) (hsl : slots ≤ R.slots) {x y : Int} (h : r4 x ∧ r4 y) (d : decode cc pc = .ok (.invokestatic idx, 3))
    (k : W p l e R s m args below meth c H locs cells slots Q (F0 m (pc + 3) ls (.int (z4 (max x y)) :: rest))) : W p l e R s m args below meth c H locs cells slots Q (F0 m pc ls (.int (z4 y) :: .int (z4 x) :: rest)) := by
  have t : ∀ {w : Cond}, w ∈ TT → w.before args s = true := fun h => X.2.2.2.2 _ (List.mem_cons_of_mem _ h)
  refine va_mmax X.1 X.2.1 (X.2.2.1.trans hls.symm) X.2.2.2.1 (t hl) (t h1) (t h2) (t h3) hf ho hce hsl d ?_
  have e1 : (if z4 x < z4 y then z4 y else z4 x) = z4 (max x y) := by
    by_cases q : x < y
    · rw [if_pos ((z4_lt h.1 h.2).mpr q), Int.max_eq_right (by omega)]
    · rw [if_neg (fun z => q ((z4_lt h.1 h.2).mp z)), Int.max_eq_left (by omega)]
  rw [e1]; exact k
theorem m_min (X : CallFix p m c cc nL s args (cw :: TT) own) {idx : Nat} (hl : Cond.methodLink own idx Lib.Math.min.name ∈ TT) (h1 : Cond.static Lib.Math.min.name ∈ TT) (h2 : Cond.initialized "java/lang/Math" ∈ TT) (h3 : Cond.code Lib.Math.min.name Lib.Math.min.code 2 (some .int) ∈ TT) (hls : ls.size = nL) (hf : 1 ≤ R.frames) (ho : (rest.map fun v => v.category).sum + 13 ≤ R.locals) (hce : cells ≤ R.cells) (hsl : slots ≤ R.slots) {x y : Int} (h : r4 x ∧ r4 y) (d : decode cc pc = .ok (.invokestatic idx, 3))
    (k : W p l e R s m args below meth c H locs cells slots Q (F0 m (pc + 3) ls (.int (z4 (min x y)) :: rest))) : W p l e R s m args below meth c H locs cells slots Q (F0 m pc ls (.int (z4 y) :: .int (z4 x) :: rest)) := by
  have t : ∀ {w : Cond}, w ∈ TT → w.before args s = true := fun h => X.2.2.2.2 _ (List.mem_cons_of_mem _ h)
  refine va_mmin X.1 X.2.1 (X.2.2.1.trans hls.symm) X.2.2.2.1 (t hl) (t h1) (t h2) (t h3) hf ho hce hsl d ?_
  have e1 : (if z4 y < z4 x then z4 y else z4 x) = z4 (min x y) := by
    by_cases q : y < x
    · rw [if_pos ((z4_lt h.2 h.1).mpr q), Int.min_eq_right (by omega)]
    · rw [if_neg (fun z => q ((z4_lt h.2 h.1).mp z)), Int.min_eq_left (by omega)]
  rw [e1]; exact k
theorem m_copy (X : CallFix p m c cc nL s args (cw :: TT) own) {idx : Nat} (hl : Cond.methodLink own idx arraycopyName ∈ TT) (g1 : Cond.native arraycopyName ∈ TT) (g2 : Cond.static arraycopyName ∈ TT) (g3 : Cond.initialized "java/lang/System" ∈ TT) (hls : ls.size = nL) (hK : KK D E s) (hP : va_P D vwCl ws H) (hD : va_D A ws) (hS : va_S A H0 H locs) (q0 q1 : Nat) {a0 n0 n1 : Nat} {f g : Nat → Int} (ha0 : ws[q0]? = some (a0, .inl (E 0, n0, .inl (A4 f)))) (ha1 : ws[q1]? = some (a, .inl (E 0, n1, .inl (A4 g)))) (hn0 : n0 ≤ 2147483648) (hn1 : n1 ≤ 2147483648)
    {sp dp n : Int} (h1 : 0 ≤ sp ∧ 0 ≤ n ∧ sp + n ≤ n0 ∧ 0 ≤ dp ∧ dp + n ≤ n1 ∧ n < 2147483648 ∧ sp < 2147483648 ∧ dp < 2147483648) (hf : 1 ≤ R.frames) (ho : (rest.map fun v => v.category).sum + (nativeFrameWords "java/lang/System" "arraycopy" 5 + 11) ≤ R.locals) (ws' : va_W) (hw : ws.set q1 (a, .inl (E 0, n1, .inl (A4 (cp_ f g sp.toNat dp.toNat n.toNat)))) = ws') (d : decode cc pc = .ok (.invokestatic idx, 3))
    (k : ∀ (H1 : Heap) (locs1 : List Loc), va_P D vwCl ws' H1 → va_D A ws' → va_S A H0 H1 locs1 → W p l e R s m args below meth c H1 locs1 cells slots Q (F0 m (pc + 3) ls rest)) : W p l e R s m args below meth c H locs cells slots Q (F0 m pc ls (.int (z4 n) :: .int (z4 dp) :: .ref a :: .int (z4 sp) :: .ref a0 :: rest)) := by
  have t : ∀ {w : Cond}, w ∈ TT → w.before args s = true := fun h => X.2.2.2.2 _ (List.mem_cons_of_mem _ h)
  have w1 : r4 sp := ⟨by omega, by omega⟩
  have w2 : r4 dp := ⟨by omega, by omega⟩
  have w3 : r4 n := ⟨by omega, by omega⟩
  have z0 : r4 0 := ⟨by decide, by decide⟩
  refine va_copyi (tys := [(E 0, .int), (E 1, .boolean), (E 2, .long), (E 3, .object "RunWatch$Sheet"), (E 4, .array .int)]) (ty := .int) X.1 X.2.1 (X.2.2.1.trans hls.symm) X.2.2.2.1 (t hl) (t g1) (t g2) (t g3) hK.1 hP hD hS q0 q1 0 0 ha0 ha1 rfl rfl rfl (fun q => by rw [← z4_0, z4_lt w1 z0] at q; omega) (fun q => by rw [← z4_0, z4_lt w2 z0] at q; omega) (fun q => by rw [← z4_0, z4_lt w3 z0] at q; omega) (by rw [z4_nat w1, z4_nat w3]; omega) (by rw [z4_nat w2, z4_nat w3]; omega) (fun _ _ => rfl) hf ho d fun H1 locs1 h1 h2 h3 => ?_
  rw [z4_nat w1, z4_nat w2, z4_nat w3, A4_cpy, hw] at h1 h2
  exact k H1 locs1 h1 h2 h3
end CALLS
