/-! arrays of arrays: the outer array a cell, the rows a pool -/
def GP (E : Nat → ClassId) (pr : Nat → Nat → Int) : Nat → va_E := fun a => .inl (E 0, 65, .inl (A4 (pr a)))
def OG (g : Nat → Nat) : Nat → Option Nat := fun i => some (g i)
def u2_ (pr : Nat → Nat → Int) (a j : Nat) (x : Int) : Nat → Nat → Int := up_ pr a (up_ (pr a) j x)
theorem GP_up (E : Nat → ClassId) (pr : Nat → Nat → Int) (a : Nat) (f : Nat → Int) : va_up (GP E pr) a (.inl (E 0, 65, .inl (A4 f))) = GP E (up_ pr a f) := by
  funext b
  simp only [va_up, GP, up_]
  split
  · rename_i h; rfl
  · rfl
theorem OG_up (g : Nat → Nat) (i v : Nat) : va_up (OG g) i (some v) = OG (up_ g i v) := by
  funext b
  simp only [va_up, OG, up_]
  split <;> rfl
theorem nd_mem {l : List Nat} : va_nd l = true ↔ l.Nodup := by
  induction l with
  | nil => simp [va_nd]
  | cons a l ih => simp [va_nd, ih, List.nodup_cons]
theorem pos_lt {X cx : va_W} {is : List Nat} (h : is.map (fun i => X[i]?) = cx.map some) : ∀ i ∈ is, i < X.length := by
  intro i hi
  have h1 : X[i]? ∈ is.map (fun i => X[i]?) := List.mem_map.mpr ⟨i, hi, rfl⟩
  rw [h] at h1
  obtain ⟨q, -, hq⟩ := List.mem_map.mp h1
  exact (List.getElem?_eq_some_iff.mp hq.symm).1
theorem pos_pl {X cx pl : va_W} {is : List Nat} (h : is.map (fun i => X[i]?) = cx.map some) : (is ++ List.range' X.length pl.length).map (fun i => (X ++ pl)[i]?) = (cx ++ pl).map some := by
  rw [List.map_append, List.map_append]
  congr 1
  · rw [← h]
    apply List.map_congr_left
    intro i hi
    exact List.getElem?_append_left (pos_lt h i hi)
  · apply List.ext_getElem
    · simp
    · intro k h1 h2
      simp only [List.length_map, List.length_range'] at h1
      simp only [List.getElem_map, List.getElem_range', Nat.one_mul]
      rw [List.getElem?_append_right (by omega), Nat.add_sub_cancel_left, List.getElem?_eq_getElem h1]
theorem nd_pl {is : List Nat} {n k : Nat} (h : va_nd is = true) (hl : ∀ i ∈ is, i < n) : va_nd (is ++ List.range' n k) = true := by
  rw [nd_mem, List.nodup_append]
  refine ⟨nd_mem.mp h, List.nodup_range' , fun a ha b hb e => ?_⟩
  have := hl a ha
  rw [List.mem_range'_1] at hb
  omega
section GRID
variable {p : Program} {l : Launch} {e : Env} {R : Room} {s : State} {m : MethodId} {args : Array Value} {below : List Frame} {meth : Method} {c : Code} {H : Heap} {locs : List Loc} {cells slots : Nat} {Q : State → Prop}
variable {cc : ByteArray} {pc nL : Nat} {ls : Array Slot} {rest : List Value} {D : va_G} {E : Nat → ClassId} {A : Nat → Prop} {a : Nat} {ws : va_W} {H0 : Heap} {cw : Cond} {own : String}
theorem m_aaldG (X : CallFix p m c cc nL s args (cw :: TT) own) (hK : KK D E s) (hP : va_P D vwCl ws H) (q0 : Nat) {n : Nat} {g : Nat → Nat} (ha : ws[q0]? = some (a, .inl (E 4, n, .inr (.inr (.inr (.inr (OG g))))))) (hn : n ≤ 2147483648) {i : Int} (h : 0 ≤ i ∧ i < (n : Int)) (d : decode cc pc = .ok (.aaload, 1)) (k : W p l e R s m args below meth c H locs cells slots Q (F0 m (pc + 1) ls (.ref (g i.toNat) :: rest))) : W p l e R s m args below meth c H locs cells slots Q (F0 m pc ls (.int (z4 i) :: .ref a :: rest)) := by
  have hin := (z4_in hn h).1
  have hlt : (z4 i).toNatClampNeg < n := Nat.not_le.mp fun q => hin (Or.inr q)
  refine W.aald (v := va_rf (OG g (z4 i).toNatClampNeg)) (ty := .array .int) X.1 X.2.1 (hP q0 _ ha) ((hK.1.2 4 _ rfl).1 n (fun j => va_rf (OG g j))) rfl (fun q => by cases q) (by show ¬ (z4 i < 0 ∨ (arrV _ _ _).slots.size ≤ _); rw [arrV_size]; exact hin) (by show (arrV _ _ _).slots[_]? = _; rw [arrV_read _ _ hlt]) rfl rfl d ?_
  rw [(z4_in hn h).2]
  exact k
theorem m_raldG {Xw : va_W} {L : List Nat} {pr : Nat → Nat → Int} (X : CallFix p m c cc nL s args (cw :: TT) own) (hK : KK D E s) (hP : va_P D vwCl (Xw ++ va_pl L (GP E pr)) H) {r : Nat} (hr : r ∈ L) {i : Int} (h : 0 ≤ i ∧ i < 65) (d : decode cc pc = .ok (.iaload, 1)) (k : W p l e R s m args below meth c H locs cells slots Q (F0 m (pc + 1) ls (.int (z4 (pr r i.toNat)) :: rest))) : W p l e R s m args below meth c H locs cells slots Q (F0 m pc ls (.int (z4 i) :: .ref r :: rest)) := by
  obtain ⟨k0, hk⟩ := va_pl_get (X := Xw) (f := GP E pr) hr
  exact m_iald X hK hP k0 (n := 65) (f := pr r) hk (by decide) h d k
theorem m_rastG {Xw : va_W} {L : List Nat} {pr : Nat → Nat → Int} (X : CallFix p m c cc nL s args (cw :: TT) own) (hK : KK D E s) (hP : va_P D vwCl (Xw ++ va_pl L (GP E pr)) H) (hD : va_D A (Xw ++ va_pl L (GP E pr))) (hS : va_S A H0 H locs) {r : Nat} (hr : r ∈ L) {i x : Int} (h : 0 ≤ i ∧ i < 65) (d : decode cc pc = .ok (.iastore, 1))
    (k : ∀ (H1 : Heap) (locs1 : List Loc), va_P D vwCl (Xw ++ va_pl L (GP E (u2_ pr r i.toNat x))) H1 → va_D A (Xw ++ va_pl L (GP E (u2_ pr r i.toNat x))) → va_S A H0 H1 locs1 → W p l e R s m args below meth c H1 locs1 cells slots Q (F0 m (pc + 1) ls rest)) : W p l e R s m args below meth c H locs cells slots Q (F0 m pc ls (.int (z4 x) :: .int (z4 i) :: .ref r :: rest)) := by
  obtain ⟨k0, hk⟩ := va_pl_get (X := Xw) (f := GP E pr) hr
  refine m_iast X hK hP hD hS k0 (n := 65) (f := pr r) hk (by decide) h (Xw ++ va_pl L (GP E (u2_ pr r i.toNat x))) ?_ d k
  rw [va_pl_set hD hr hk, GP_up]
  rfl
theorem m_aastG {Xw : va_W} {L : List Nat} {pr : Nat → Nat → Int} (X : CallFix p m c cc nL s args (cw :: TT) own) (hK : KK D E s) (hP : va_P D vwCl (Xw ++ va_pl L (GP E pr)) H) (hD : va_D A (Xw ++ va_pl L (GP E pr))) (hS : va_S A H0 H locs) (q0 : Nat) {n : Nat} {g : Nat → Nat} (ha : (Xw ++ va_pl L (GP E pr))[q0]? = some (a, .inl (E 4, n, .inr (.inr (.inr (.inr (OG g))))))) (hn : n ≤ 2147483648) {i : Int} (h : 0 ≤ i ∧ i < (n : Int)) {v : Nat} (hv : v ∈ L) (ws' : va_W) (hw : (Xw ++ va_pl L (GP E pr)).set q0 (a, .inl (E 4, n, .inr (.inr (.inr (.inr (OG (up_ g i.toNat v))))))) = ws') (d : decode cc pc = .ok (.aastore, 1))
    (k : ∀ (H1 : Heap) (locs1 : List Loc), va_P D vwCl ws' H1 → va_D A ws' → va_S A H0 H1 locs1 → W p l e R s m args below meth c H1 locs1 cells slots Q (F0 m (pc + 1) ls rest)) : W p l e R s m args below meth c H locs cells slots Q (F0 m pc ls (.ref v :: .int (z4 i) :: .ref a :: rest)) := by
  have hin := (z4_in hn h).1
  have hlt : (z4 i).toNatClampNeg < n := Nat.not_le.mp fun q => hin (Or.inr q)
  have h0 : ¬ z4 i < 0 := fun q => hin (Or.inl q)
  obtain ⟨kv, hkv⟩ := va_pl_get (X := Xw) (f := GP E pr) hv
  have hcv : H[v]? = some (vp_cell (E 0) (65, .inl (A4 (pr v)))) := hP kv _ hkv
  obtain ⟨comp, cA2, kA, k3, -, k1, k2, k4⟩ := arrayOverA_spec hK.2.1
  cases ((hK.1.2 4 _ rfl).2 : s.vm.findClass ("[" ++ (FieldType.array .int).toString) = some (E 4)).symm.trans k4
  cases k3.symm.trans ((hK.1.2 0 _ rfl).2 : s.vm.findClass ("[" ++ (FieldType.int).toString) = some (E 0))
  obtain ⟨kE, hkE, -⟩ := Vm.findClass_spec k3
  refine W.aast X.1 X.2.1 (hP q0 _ ha) (fun q h => by cases h) (fun h => by cases h) k1 k2 rfl hkE ⟨h0, by show _ < (arrV _ _ _).slots.size; rw [arrV_size]; exact hlt⟩ hcv (fun q h => by cases h) hkE (va_asg _ _) rfl rfl d fun H1 e z oq => ?_
  have hset : H1[a]? = some (vp_cell (E 4) (n, .inr (.inr (.inr (.inr (OG (up_ g i.toNat v))))))) := by
    rw [e]
    rw [vp_cell_q, vp_cell_q, arrV_store, (z4_in hn h).2, ← OG_up]
    congr 2
    funext q
    by_cases hq : q = i.toNat
    · subst hq
      simp [updV, va_up, va_rf]
    · simp [updV, va_up, hq]
  have hP1 := va_P.set (e := .inl (E 4, n, .inr (.inr (.inr (.inr (OG (up_ g i.toNat v))))))) hP hD ha hset oq
  have hD1 := hD.set (e := .inl (E 4, n, .inr (.inr (.inr (.inr (OG (up_ g i.toNat v))))))) ha
  rw [hw] at hP1 hD1
  exact k H1 _ hP1 hD1 (hS.put z oq (hD.2 q0 _ ha))
/-- behind a call: the callee has no pool, the caller one -/
theorem goWp {rv : Option Value} {av : Array Value} {st0 : List Value} {Xw pl wc wr w1 ws' : va_W} (hr : va_Run p l e R s m args below meth c H locs cells slots 0 0 (F0 m pc ls st0) rest ((fun _ st o t => o = .returned rv ∧ (va_P D vwCl w1 t.heap ∧ KK D E t ∧ va_D (va_A wc H.size) w1) ∧ va_F (va_A wc H.size) st t : Array Value → State → Outcome → State → Prop) av) (va_A wc H.size))
    (hP : va_P D vwCl (Xw ++ pl) H) (hD : va_D A (Xw ++ pl)) (hS : va_S A H0 H locs) (hA : ∀ q, H0.size ≤ q → A q) (isC isR is : List Nat) (hC : isC.map (fun i => Xw[i]?) = wc.map some) (hR : isR.map (fun i => Xw[i]?) = wr.map some) (hn : va_nd isR = true) (hdis : ∀ i ∈ isR, i ∉ isC) (hi : is.map (fun i => (wr ++ w1)[i]?) = ws'.map some) (hni : va_nd is = true)
    (k : ∀ (H1 : Heap) (locs1 : List Loc), va_P D vwCl (ws' ++ pl) H1 → va_D A (ws' ++ pl) → va_S A H0 H1 locs1 → W p l e R s m args below meth c H1 locs1 cells slots Q (F0 m (pc + 3) ls (rv.toList ++ rest))) : W p l e R s m args below meth c H locs cells slots Q (F0 m pc ls st0) := by
  have hC2 : isC.map (fun i => (Xw ++ pl)[i]?) = wc.map some := by
    rw [← hC]
    apply List.map_congr_left
    intro i hi
    exact List.getElem?_append_left (pos_lt hC i hi)
  intro T hT X
  have hF := va_free (wc := wc) hD hS hA isC hC2
  obtain ⟨v, st₀, t, T', L, h0, X', hL, e1, e2, ⟨hv, ⟨hP1, hK1, hD1⟩, hz, hk⟩, st⟩ := hr T hT X
  cases hv
  rw [h0] at hz hk
  rw [← e1] at hP1
  obtain ⟨hP2, hD2⟩ := va_join (wr := wr ++ pl) (w1 := w1) hP hD isC (isR ++ List.range' Xw.length pl.length) hC2 (pos_pl hR) (nd_pl hn (pos_lt hR)) (fun i hi => by
    rcases List.mem_append.mp hi with h | h
    · exact hdis i h
    · intro h2
      have := pos_lt hC i h2
      rw [List.mem_range'_1] at h
      omega) (fun q h1 h2 => by rw [e1]; exact hk q h1 h2) hF hP1 hD1
  have hP3 := va_P.swap hP2
  have hD3 := va_D.swap hD2
  have hi2 := pos_pl (pl := pl) hi
  obtain ⟨t2, a1, b1⟩ := k T'.heap (locs ++ L) (hP3.sub _ (fm_of hi2)) (hD3.sub _ (nd_pl hni (pos_lt hi)) hi2)
    ⟨Nat.le_trans hS.1 (by rw [e1]; exact hz), fun q h1 h2 => by rw [e1, hk q (Nat.lt_of_lt_of_le h1 hS.1) (fun z => h2 (hF q z))]; exact hS.2.1 q h1 h2, fun q hq => by
      rcases List.mem_append.mp hq with h | h
      · exact hS.2.2 q h
      · exact hF _ (hL q h)⟩ T' rfl X'
  exact ⟨t2, st t2 a1, b1⟩
/-- behind a call: the callee has the caller's pool -/
theorem goWq {rv : Option Value} {av : Array Value} {st0 : List Value} {Xw pl pl1 wc wr w1 ws' : va_W} (hr : va_Run p l e R s m args below meth c H locs cells slots 0 0 (F0 m pc ls st0) rest ((fun _ st o t => o = .returned rv ∧ (va_P D vwCl (w1 ++ pl1) t.heap ∧ KK D E t ∧ va_D (va_A (wc ++ pl) H.size) (w1 ++ pl1)) ∧ va_F (va_A (wc ++ pl) H.size) st t : Array Value → State → Outcome → State → Prop) av) (va_A (wc ++ pl) H.size))
    (hP : va_P D vwCl (Xw ++ pl) H) (hD : va_D A (Xw ++ pl)) (hS : va_S A H0 H locs) (hA : ∀ q, H0.size ≤ q → A q) (isC isR is : List Nat) (hC : isC.map (fun i => Xw[i]?) = wc.map some) (hR : isR.map (fun i => Xw[i]?) = wr.map some) (hn : va_nd isR = true) (hdis : ∀ i ∈ isR, i ∉ isC) (hi : is.map (fun i => (wr ++ w1)[i]?) = ws'.map some) (hni : va_nd is = true)
    (k : ∀ (H1 : Heap) (locs1 : List Loc), va_P D vwCl (ws' ++ pl1) H1 → va_D A (ws' ++ pl1) → va_S A H0 H1 locs1 → W p l e R s m args below meth c H1 locs1 cells slots Q (F0 m (pc + 3) ls (rv.toList ++ rest))) : W p l e R s m args below meth c H locs cells slots Q (F0 m pc ls st0) := by
  have hR2 : isR.map (fun i => (Xw ++ pl)[i]?) = wr.map some := by
    rw [← hR]
    apply List.map_congr_left
    intro i hi
    exact List.getElem?_append_left (pos_lt hR i hi)
  have hC2 := pos_pl (pl := pl) hC
  intro T hT X
  have hF := va_free (wc := wc ++ pl) hD hS hA _ hC2
  obtain ⟨v, st₀, t, T', L, h0, X', hL, e1, e2, ⟨hv, ⟨hP1, hK1, hD1⟩, hz, hk⟩, st⟩ := hr T hT X
  cases hv
  rw [h0] at hz hk
  rw [← e1] at hP1
  obtain ⟨hP2, hD2⟩ := va_join (wr := wr) (w1 := w1 ++ pl1) hP hD (isC ++ List.range' Xw.length pl.length) isR hC2 hR2 hn (fun i hi h2 => by
    rcases List.mem_append.mp h2 with h | h
    · exact hdis i hi h
    · have := pos_lt hR i hi
      rw [List.mem_range'_1] at h
      omega) (fun q h1 h2 => by rw [e1]; exact hk q h1 h2) hF hP1 hD1
  rw [← List.append_assoc] at hP2 hD2
  have hi2 := pos_pl (pl := pl1) hi
  obtain ⟨t2, a1, b1⟩ := k T'.heap (locs ++ L) (hP2.sub _ (fm_of hi2)) (hD2.sub _ (nd_pl hni (pos_lt hi)) hi2)
    ⟨Nat.le_trans hS.1 (by rw [e1]; exact hz), fun q h1 h2 => by rw [e1, hk q (Nat.lt_of_lt_of_le h1 hS.1) (fun z => h2 (hF q z))]; exact hS.2.1 q h1 h2, fun q hq => by
      rcases List.mem_append.mp hq with h | h
      · exact hS.2.2 q h
      · exact hF _ (hL q h)⟩ T' rfl X'
  exact ⟨t2, st t2 a1, b1⟩
theorem m_cVWp {Xw pl : va_W} (X : CallFix p m c cc nL s args (cw :: TT) own) (hK : KK D E s) (hP : va_P D vwCl (Xw ++ pl) H) (hD : va_D A (Xw ++ pl)) (hS : va_S A H0 H locs) (hA : ∀ q, H0.size ≤ q → A q) {y : MethodName} {bytes : ByteArray} {maxL idx ci b N : Nat} {T : u_T} {fs : List Value} {ret : Option FieldType} {rm : Room} {As st0 : List Value} {wc wr w1 : va_W} {rv : Option Value} (hM : MW l y (.code y bytes maxL ret) rm D E (.ref b :: As) wc rv w1)
    (isC isR is : List Nat) (ws' : va_W) (hC : isC.map (fun i => Xw[i]?) = wc.map some) (hRr : isR.map (fun i => Xw[i]?) = wr.map some) (hnC : va_nd isC = true) (hn : va_nd isR = true) (hdis : ∀ i ∈ isR, i ∉ isC) (hi : is.map (fun i => (wr ++ w1)[i]?) = ws'.map some) (hni : va_nd is = true) (hv : wc[0]? = some (b, .inr (ci, fs))) (hc : vwCl[ci]? = some (y.cls, T, N))
    (L : LnV own y.cls idx y) (hcode : Cond.code y bytes maxL ret ∈ TT) (dy : DY y As.length) (h0 : rm.cells = 0) (h1 : rm.slots = 0) (hR : rm.frames + 1 ≤ R.frames ∧ 8 + (maxL + 11) + rm.locals ≤ R.locals) (hls : ls.size = nL) (hst : st0 = As.reverse ++ .ref b :: rest) (hw : (rest.map fun v => v.category).sum ≤ 8) (d : decode cc pc = .ok (.invokevirtual idx, 3)) (hce : cells ≤ R.cells) (hsl : slots ≤ R.slots)
    (k : ∀ (H1 : Heap) (locs1 : List Loc), va_P D vwCl (ws' ++ pl) H1 → va_D A (ws' ++ pl) → va_S A H0 H1 locs1 → W p l e R s m args below meth c H1 locs1 cells slots Q (F0 m (pc + 3) ls (rv.toList ++ rest))) : W p l e R s m args below meth c H locs cells slots Q (F0 m pc ls st0) := by
  subst hst
  have hC2 : isC.map (fun i => (Xw ++ pl)[i]?) = wc.map some := by
    rw [← hC]
    apply List.map_congr_left
    intro i hi
    exact List.getElem?_append_left (pos_lt hC i hi)
  have hPc := hP.sub isC (fm_of hC2)
  have hDc := hD.sub isC hnC hC2
  exact goWp (av := (Value.ref b :: As).toArray) (va_runV (As := As) (rest := rest) X (hM H.size) (cV X L hcode dy h0 h1 hR) ⟨blindW, va_recv hK.1 hPc hc hv, fun U hU hW => ⟨rfl, by rw [hU], by rw [hU]; exact hPc, hK.moved hW, hDc.weaken (fun _ _ _ _ => trivial)⟩⟩ rfl rfl hls rfl (lv_room hw) d ⟨hce, hsl⟩) hP hD hS hA isC isR is hC hRr hn hdis hi hni k
theorem m_cVWq {Xw pl pl1 : va_W} (X : CallFix p m c cc nL s args (cw :: TT) own) (hK : KK D E s) (hP : va_P D vwCl (Xw ++ pl) H) (hD : va_D A (Xw ++ pl)) (hS : va_S A H0 H locs) (hA : ∀ q, H0.size ≤ q → A q) {y : MethodName} {bytes : ByteArray} {maxL idx ci b N : Nat} {T : u_T} {fs : List Value} {ret : Option FieldType} {rm : Room} {As st0 : List Value} {wc wr w1 : va_W} {rv : Option Value} (hM : MW l y (.code y bytes maxL ret) rm D E (.ref b :: As) (wc ++ pl) rv (w1 ++ pl1))
    (isC isR is : List Nat) (ws' : va_W) (hC : isC.map (fun i => Xw[i]?) = wc.map some) (hRr : isR.map (fun i => Xw[i]?) = wr.map some) (hnC : va_nd isC = true) (hn : va_nd isR = true) (hdis : ∀ i ∈ isR, i ∉ isC) (hi : is.map (fun i => (wr ++ w1)[i]?) = ws'.map some) (hni : va_nd is = true) (hv : (wc ++ pl)[0]? = some (b, .inr (ci, fs))) (hc : vwCl[ci]? = some (y.cls, T, N))
    (L : LnV own y.cls idx y) (hcode : Cond.code y bytes maxL ret ∈ TT) (dy : DY y As.length) (h0 : rm.cells = 0) (h1 : rm.slots = 0) (hR : rm.frames + 1 ≤ R.frames ∧ 8 + (maxL + 11) + rm.locals ≤ R.locals) (hls : ls.size = nL) (hst : st0 = As.reverse ++ .ref b :: rest) (hw : (rest.map fun v => v.category).sum ≤ 8) (d : decode cc pc = .ok (.invokevirtual idx, 3)) (hce : cells ≤ R.cells) (hsl : slots ≤ R.slots)
    (k : ∀ (H1 : Heap) (locs1 : List Loc), va_P D vwCl (ws' ++ pl1) H1 → va_D A (ws' ++ pl1) → va_S A H0 H1 locs1 → W p l e R s m args below meth c H1 locs1 cells slots Q (F0 m (pc + 3) ls (rv.toList ++ rest))) : W p l e R s m args below meth c H locs cells slots Q (F0 m pc ls st0) := by
  subst hst
  have hC2 := pos_pl (pl := pl) hC
  have hPc := hP.sub _ (fm_of hC2)
  have hDc := hD.sub _ (nd_pl hnC (pos_lt hC)) hC2
  exact goWq (av := (Value.ref b :: As).toArray) (va_runV (As := As) (rest := rest) X (hM H.size) (cV X L hcode dy h0 h1 hR) ⟨blindW, va_recv hK.1 hPc hc hv, fun U hU hW => ⟨rfl, by rw [hU], by rw [hU]; exact hPc, hK.moved hW, hDc.weaken (fun _ _ _ _ => trivial)⟩⟩ rfl rfl hls rfl (lv_room hw) d ⟨hce, hsl⟩) hP hD hS hA isC isR is hC hRr hn hdis hi hni k
/-- a static call on one row of the pool (Arrays.fill) -/
theorem m_cSWr {Xw : va_W} {Lp : List Nat} {pr : Nat → Nat → Int} (X : CallFix p m c cc nL s args (cw :: TT) own) (hK : KK D E s) (hP : va_P D vwCl (Xw ++ va_pl Lp (GP E pr)) H) (hD : va_D A (Xw ++ va_pl Lp (GP E pr))) (hS : va_S A H0 H locs) (hA : ∀ q, H0.size ≤ q → A q) {y : MethodName} {bytes : ByteArray} {maxL idx : Nat} {ret : Option FieldType} {rm : Room} {As st0 : List Value} {rv : Option Value} {r : Nat} (hrl : r ∈ Lp) {f : Nat → Int} (hM : MW l y (.code y bytes maxL ret) rm D E As [(r, .inl (E 0, 65, .inl (A4 (pr r))))] rv [(r, .inl (E 0, 65, .inl (A4 f)))])
    (L : LnS own idx y) (hcode : Cond.code y bytes maxL ret ∈ TT) (dy : DY y As.length) (h0 : rm.cells = 0) (h1 : rm.slots = 0) (hR : rm.frames + 1 ≤ R.frames ∧ 8 + (maxL + 11) + rm.locals ≤ R.locals) (hls : ls.size = nL) (hst : st0 = As.reverse ++ rest) (hw : (rest.map fun v => v.category).sum ≤ 8) (d : decode cc pc = .ok (.invokestatic idx, 3)) (hce : cells ≤ R.cells) (hsl : slots ≤ R.slots)
    (k : ∀ (H1 : Heap) (locs1 : List Loc), va_P D vwCl (Xw ++ va_pl Lp (GP E (up_ pr r f))) H1 → va_D A (Xw ++ va_pl Lp (GP E (up_ pr r f))) → va_S A H0 H1 locs1 → W p l e R s m args below meth c H1 locs1 cells slots Q (F0 m (pc + 3) ls (rv.toList ++ rest))) : W p l e R s m args below meth c H locs cells slots Q (F0 m pc ls st0) := by
  subst hst
  obtain ⟨k0, hk0⟩ := va_pl_get (X := Xw) (f := GP E pr) hrl
  have hC2 : [k0].map (fun i => (Xw ++ va_pl Lp (GP E pr))[i]?) = ([(r, .inl (E 0, 65, .inl (A4 (pr r))))] : va_W).map some := by
    simp only [List.map_cons, List.map_nil, hk0]
    rfl
  have hPc := hP.sub [k0] (fm_of hC2)
  have hDc := hD.sub [k0] rfl hC2
  have hr := va_runS (As := As) (rest := rest) (H := H) (below := below) (meth := meth) (locs := locs) (g := F0 m pc ls (As.reverse ++ rest)) (e := e) X (hM H.size) (cS X L hcode dy h0 h1 hR) ⟨blindW, fun U hU hW => ⟨rfl, by rw [hU], by rw [hU]; exact hPc, hK.moved hW, hDc.weaken (fun _ _ _ _ => trivial)⟩⟩ rfl rfl hls rfl (lv_room hw) d ⟨hce, hsl⟩
  intro T hT X2
  have hF := va_free (wc := [(r, .inl (E 0, 65, .inl (A4 (pr r))))]) hD hS hA [k0] hC2
  obtain ⟨v, st₀, t, T', L, g0, X', hL, e1, e2, ⟨hv, ⟨hP1, hK1, hD1⟩, hz, hk⟩, st⟩ := hr T hT X2
  cases hv
  rw [g0] at hz hk
  have hat : T'.heap[r]? = some (vp_cell (E 0) (65, .inl (A4 f))) := by rw [e1]; exact hP1 0 _ rfl
  have hkeep : ∀ q : Nat, q < H.size → q ≠ r → T'.heap[q]? = H[q]? := fun q h1 h2 => by
    rw [e1]
    refine hk q h1 (fun z => ?_)
    rcases z with ⟨k2, e2, h3⟩ | h3
    · have hz : k2 < 1 := (List.getElem?_eq_some_iff.mp h3).1
      have : k2 = 0 := by omega
      subst this
      cases h3
      exact h2 rfl
    · omega
  have hl0 := (List.getElem?_eq_some_iff.mp hk0).1
  have hP2 : va_P D vwCl ((Xw ++ va_pl Lp (GP E pr)).set k0 (r, .inl (E 0, 65, .inl (A4 f)))) T'.heap := by
    intro j q hj
    by_cases hjk : j = k0
    · subst hjk
      rw [List.getElem?_set_self hl0] at hj
      cases hj
      exact hat
    · rw [List.getElem?_set_ne (Ne.symm hjk)] at hj
      have hq := hP j q hj
      exact hq.kept (hkeep q.1 hq.lt (fun z => hjk (hD.1 j k0 q _ hj hk0 z)))
  have hD2 := hD.set (e := .inl (E 0, 65, .inl (A4 f))) hk0
  rw [va_pl_set hD hrl hk0, GP_up] at hP2 hD2
  obtain ⟨t2, a1, b1⟩ := k T'.heap (locs ++ L) hP2 hD2
    ⟨Nat.le_trans hS.1 (by rw [e1]; exact hz), fun q h1 h2 => by rw [e1, hk q (Nat.lt_of_lt_of_le h1 hS.1) (fun z => h2 (hF q z))]; exact hS.2.1 q h1 h2, fun q hq => by
      rcases List.mem_append.mp hq with h | h
      · exact hS.2.2 q h
      · exact hF _ (hL q h)⟩ T' rfl X'
  exact ⟨t2, st t2 a1, b1⟩
end GRID
