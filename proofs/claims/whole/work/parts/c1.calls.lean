/-! whole worlds in calls -/
section LIFT0
variable {l : Launch} {y : MethodName} {cy : Cond} {rm : Room} {D : va_G} {E : Nat → ClassId} {B : Nat} {Z : ZT} {av : List Value} {cx cx' rx Xw Xw' : va_W} {rv : Option Value}
theorem MW.lift0 (h : MW l y cy rm D E av cx rv cx') (is : List Nat) (h1 : is.map (fun i => Xw[i]?) = (cx ++ rx).map some) (hp : is.Perm (List.range Xw.length)) (h2 : is.map (fun i => Xw'[i]?) = (cx' ++ rx).map some) (hl : Xw'.length = Xw.length) : MWs l y cy rm D E B Z av Xw rv Xw' :=
  MW.lift h (wr := rx) (perm_pos is h1 hp) (List.perm_append_comm.trans (perm_pos is h2 (by rw [hl]; exact hp)).symm)
theorem MWs.lift0 (h : MWs l y cy rm D E B Z av cx rv cx') (is : List Nat) (h1 : is.map (fun i => Xw[i]?) = (cx ++ rx).map some) (hp : is.Perm (List.range Xw.length)) (h2 : is.map (fun i => Xw'[i]?) = (cx' ++ rx).map some) (hl : Xw'.length = Xw.length) : MWs l y cy rm D E B Z av Xw rv Xw' :=
  MWs.lift h (wr := rx) (perm_pos is h1 hp) (List.perm_append_comm.trans (perm_pos is h2 (by rw [hl]; exact hp)).symm)
end LIFT0
section CALLF
variable {p : Program} {l : Launch} {e : Env} {R : Room} {s : State} {m : MethodId} {args : Array Value} {below : List Frame} {meth : Method} {c : Code} {H : Heap} {locs : List Loc} {cells slots : Nat} {Q : State → Prop}
variable {cc : ByteArray} {pc nL : Nat} {ls : Array Slot} {rest : List Value} {D : va_G} {E : Nat → ClassId} {A : Nat → Prop} {a : Nat} {ws : va_W} {H0 : Heap} {cw : Cond} {own : String} {B : Nat} {Z : ZT}
theorem m_cVWf (X : CallFix p m c cc nL s args (cw :: TT) own) (hK : KK D E s) (hF : SF B Z s s.heap) (hAB : ∀ q, A q → B ≤ q) (hBs : B ≤ s.heap.size) {wc wr w1 : va_W} (hP : va_P D vwCl (wc ++ wr) H) (hD : va_D A (wc ++ wr)) (hS : va_S A s.heap H locs) (hA : ∀ q, s.heap.size ≤ q → A q) {y : MethodName} {bytes : ByteArray} {maxL idx ci b N : Nat} {T : u_T} {fs : List Value} {ret : Option FieldType} {rm : Room} {As st0 : List Value} {rv : Option Value} (hM : MWs l y (.code y bytes maxL ret) rm D E B Z (.ref b :: As) wc rv w1)
    (hv : wc[0]? = some (b, .inr (ci, fs))) (hc : vwCl[ci]? = some (y.cls, T, N))
    (L : LnV own y.cls idx y) (hcode : Cond.code y bytes maxL ret ∈ TT) (dy : DY y As.length) (h0 : rm.cells = 0) (h1 : rm.slots = 0) (hR : rm.frames + 1 ≤ R.frames ∧ 8 + (maxL + 11) + rm.locals ≤ R.locals) (hls : ls.size = nL) (hst : st0 = As.reverse ++ .ref b :: rest) (hw : (rest.map fun v => v.category).sum ≤ 8) (d : decode cc pc = .ok (.invokevirtual idx, 3)) (hce : cells ≤ R.cells) (hsl : slots ≤ R.slots)
    (k : ∀ (H1 : Heap) (locs1 : List Loc), va_P D vwCl (w1 ++ wr) H1 → va_D A (w1 ++ wr) → va_S A s.heap H1 locs1 → W p l e R s m args below meth c H1 locs1 cells slots Q (F0 m (pc + 3) ls (rv.toList ++ rest))) : W p l e R s m args below meth c H locs cells slots Q (F0 m pc ls st0) := by
  have hid : (List.range (wr ++ w1).length).map (fun i => (wr ++ w1)[i]?) = (wr ++ w1).map some := by
    have := pos_left (a := wr ++ w1) (b := [])
    simpa using this
  exact m_cVWs X hK hF hAB hBs hP hD hS hA hM (List.range wc.length) (List.range' wc.length wr.length) (List.range (wr ++ w1).length) (wr ++ w1) pos_left pos_right (nd_range _) (nd_range' _ _) (fun i hi h2 => by
    rw [List.mem_range'_1] at hi
    rw [List.mem_range] at h2
    omega) hid (nd_range _) hv hc L hcode dy h0 h1 hR hls hst hw d hce hsl (fun H1 locs1 g1 g2 g3 => k H1 locs1 (g1.perm List.perm_append_comm) (g2.perm List.perm_append_comm) g3)
theorem m_cVWg (X : CallFix p m c cc nL s args (cw :: TT) own) (hK : KK D E s) (hF : SF B Z s s.heap) (hAB : ∀ q, A q → B ≤ q) (hBs : B ≤ s.heap.size) {ws1 : va_W} (hP : va_P D vwCl ws H) (hD : va_D A ws) (hS : va_S A s.heap H locs) (hA : ∀ q, s.heap.size ≤ q → A q) {y : MethodName} {bytes : ByteArray} {maxL idx ci b N : Nat} {T : u_T} {fs : List Value} {ret : Option FieldType} {rm : Room} {As st0 : List Value} {rv : Option Value} (hM : MWs l y (.code y bytes maxL ret) rm D E B Z (.ref b :: As) ws rv ws1)
    (hv : ws[0]? = some (b, .inr (ci, fs))) (hc : vwCl[ci]? = some (y.cls, T, N))
    (L : LnV own y.cls idx y) (hcode : Cond.code y bytes maxL ret ∈ TT) (dy : DY y As.length) (h0 : rm.cells = 0) (h1 : rm.slots = 0) (hR : rm.frames + 1 ≤ R.frames ∧ 8 + (maxL + 11) + rm.locals ≤ R.locals) (hls : ls.size = nL) (hst : st0 = As.reverse ++ .ref b :: rest) (hw : (rest.map fun v => v.category).sum ≤ 8) (d : decode cc pc = .ok (.invokevirtual idx, 3)) (hce : cells ≤ R.cells) (hsl : slots ≤ R.slots)
    (k : ∀ (H1 : Heap) (locs1 : List Loc), va_P D vwCl ws1 H1 → va_D A ws1 → va_S A s.heap H1 locs1 → W p l e R s m args below meth c H1 locs1 cells slots Q (F0 m (pc + 3) ls (rv.toList ++ rest))) : W p l e R s m args below meth c H locs cells slots Q (F0 m pc ls st0) :=
  m_cVWf (wr := []) X hK hF hAB hBs (by rw [List.append_nil]; exact hP) (by rw [List.append_nil]; exact hD) hS hA hM hv hc L hcode dy h0 h1 hR hls hst hw d hce hsl (fun H1 locs1 g1 g2 g3 => k H1 locs1 (by rw [List.append_nil] at g1; exact g1) (by rw [List.append_nil] at g2; exact g2) g3)
end CALLF
