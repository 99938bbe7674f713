section STATP
variable {p : Program} {l : Launch} {e : Env} {R : Room} {s : State} {m : MethodId} {args : Array Value} {below : List Frame} {meth : Method} {c : Code} {H : Heap} {locs : List Loc} {cells slots : Nat} {Q : State → Prop}
variable {cc : ByteArray} {pc nL : Nat} {ls : Array Slot} {rest : List Value} {D : va_G} {E : Nat → ClassId} {A : Nat → Prop} {a : Nat} {ws : va_W} {H0 : Heap} {cw : Cond} {own : String} {B : Nat} {Z : ZT}
theorem m_cVWsp {Xw pl : va_W} (X : CallFix p m c cc nL s args (cw :: TT) own) (hK : KK D E s) (hF : SF B Z s s.heap) (hAB : ∀ q, A q → B ≤ q) (hBs : B ≤ s.heap.size) (hP : va_P D vwCl (Xw ++ pl) H) (hD : va_D A (Xw ++ pl)) (hS : va_S A s.heap H locs) (hA : ∀ q, s.heap.size ≤ q → A q) {y : MethodName} {bytes : ByteArray} {maxL idx ci b N : Nat} {T : u_T} {fs : List Value} {ret : Option FieldType} {rm : Room} {As st0 : List Value} {wc wr w1 : va_W} {rv : Option Value} (hM : MWs l y (.code y bytes maxL ret) rm D E B Z (.ref b :: As) wc rv w1)
    (isC isR is : List Nat) (ws' : va_W) (hC : isC.map (fun i => Xw[i]?) = wc.map some) (hRr : isR.map (fun i => Xw[i]?) = wr.map some) (hnC : va_nd isC = true) (hn : va_nd isR = true) (hdis : ∀ i ∈ isR, i ∉ isC) (hi : is.map (fun i => (wr ++ w1)[i]?) = ws'.map some) (hni : va_nd is = true) (hv : wc[0]? = some (b, .inr (ci, fs))) (hc : vwCl[ci]? = some (y.cls, T, N))
    (L : LnV own y.cls idx y) (hcode : Cond.code y bytes maxL ret ∈ TT) (dy : DY y As.length) (h0 : rm.cells = 0) (h1 : rm.slots = 0) (hR : rm.frames + 1 ≤ R.frames ∧ 8 + (maxL + 11) + rm.locals ≤ R.locals) (hls : ls.size = nL) (hst : st0 = As.reverse ++ .ref b :: rest) (hw : (rest.map fun v => v.category).sum ≤ 8) (d : decode cc pc = .ok (.invokevirtual idx, 3)) (hce : cells ≤ R.cells) (hsl : slots ≤ R.slots)
    (k : ∀ (H1 : Heap) (locs1 : List Loc), va_P D vwCl (ws' ++ pl) H1 → va_D A (ws' ++ pl) → va_S A s.heap H1 locs1 → W p l e R s m args below meth c H1 locs1 cells slots Q (F0 m (pc + 3) ls (rv.toList ++ rest))) : W p l e R s m args below meth c H locs cells slots Q (F0 m pc ls st0) := by
  subst hst
  have hC2 : isC.map (fun i => (Xw ++ pl)[i]?) = wc.map some := by
    rw [← hC]
    apply List.map_congr_left
    intro i hi
    exact List.getElem?_append_left (pos_lt hC i hi)
  have hPc := hP.sub isC (fm_of hC2)
  have hDc := hD.sub isC hnC hC2
  exact goWp (av := (Value.ref b :: As).toArray) (va_runV (As := As) (rest := rest) X (hM H.size) (cV X L hcode dy h0 h1 hR) ⟨blindWs, va_recv hK.1 hPc hc hv, fun U hU hW => ⟨rfl, by rw [hU], by rw [hU]; exact hPc, hK.moved hW, hDc.weaken (fun _ q _ h => hAB q.1 h), Nat.le_trans hBs hS.1, hF.at hAB hS hU hW⟩⟩ rfl rfl hls rfl (lv_room hw) d ⟨hce, hsl⟩) hP hD hS hA isC isR is hC hRr hn hdis hi hni k
end STATP
