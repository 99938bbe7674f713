/-! worlds in any order -/
theorem vp_mem {D : va_G} {cl : List vw_C} {ws : va_W} {H : Heap} : va_P D cl ws H ↔ ∀ q ∈ ws, va_at D cl q H := by
  constructor
  · intro h q hq
    obtain ⟨k, hk⟩ := List.getElem?_of_mem hq
    exact h k q hk
  · intro h k q hk
    exact h q (List.mem_of_getElem? hk)
theorem vd_iff {A : Nat → Prop} {ws : va_W} : va_D A ws ↔ (ws.map Prod.fst).Nodup ∧ ∀ q ∈ ws, A q.1 := by
  constructor
  · intro h
    refine ⟨?_, fun q hq => ?_⟩
    · rw [List.nodup_iff_pairwise_ne, List.pairwise_iff_getElem]
      intro i j hi hj hij e
      simp only [List.length_map] at hi hj
      simp only [List.getElem_map] at e
      have := h.1 i j ws[i] ws[j] (List.getElem?_eq_getElem hi) (List.getElem?_eq_getElem hj) e
      omega
    · obtain ⟨k, hk⟩ := List.getElem?_of_mem hq
      exact h.2 k q hk
  · intro h
    refine ⟨fun i j x y hi hj e => ?_, fun k q hk => h.2 q (List.mem_of_getElem? hk)⟩
    obtain ⟨i1, i2⟩ := List.getElem?_eq_some_iff.mp hi
    obtain ⟨j1, j2⟩ := List.getElem?_eq_some_iff.mp hj
    have hp := h.1
    rw [List.nodup_iff_pairwise_ne, List.pairwise_iff_getElem] at hp
    rcases Nat.lt_trichotomy i j with q | q | q
    · exact absurd (by rw [List.getElem_map, List.getElem_map, i2, j2]; exact e) (hp i j (by simpa using i1) (by simpa using j1) q)
    · exact q
    · exact absurd (by rw [List.getElem_map, List.getElem_map, i2, j2]; exact e.symm) (hp j i (by simpa using j1) (by simpa using i1) q)
theorem va_P.perm {D : va_G} {cl : List vw_C} {ws ws' : va_W} {H : Heap} (h : va_P D cl ws H) (p : ws.Perm ws') : va_P D cl ws' H := vp_mem.mpr fun q hq => vp_mem.mp h q (p.mem_iff.mpr hq)
theorem va_D.perm {A : Nat → Prop} {ws ws' : va_W} (h : va_D A ws) (p : ws.Perm ws') : va_D A ws' := by
  obtain ⟨h1, h2⟩ := vd_iff.mp h
  exact vd_iff.mpr ⟨(p.map Prod.fst).nodup_iff.mp h1, fun q hq => h2 q (p.mem_iff.mpr hq)⟩
theorem pos_left {a b : va_W} : (List.range a.length).map (fun i => (a ++ b)[i]?) = a.map some := by
  apply List.ext_getElem
  · simp
  · intro k h1 h2
    simp only [List.length_map, List.length_range] at h1
    simp only [List.getElem_map, List.getElem_range]
    rw [List.getElem?_append_left h1, List.getElem?_eq_getElem h1]
theorem pos_right {a b : va_W} : (List.range' a.length b.length).map (fun i => (a ++ b)[i]?) = b.map some := by
  have := pos_pl (X := a) (cx := []) (pl := b) (is := []) rfl
  simpa using this
theorem nd_range (n : Nat) : va_nd (List.range n) = true := nd_mem.mpr List.nodup_range
theorem nd_range' (n k : Nat) : va_nd (List.range' n k) = true := nd_mem.mpr List.nodup_range'
section PERM
variable {p : Program} {l : Launch} {e : Env} {R : Room} {s : State} {m : MethodId} {args : Array Value} {below : List Frame} {meth : Method} {c : Code} {H : Heap} {locs : List Loc} {cells slots : Nat} {Q : State → Prop}
variable {cc : ByteArray} {pc nL : Nat} {ls : Array Slot} {rest : List Value} {D : va_G} {E : Nat → ClassId} {A : Nat → Prop} {a : Nat} {ws : va_W} {H0 : Heap} {cw : Cond} {own : String}
theorem m_cVWm (X : CallFix p m c cc nL s args (cw :: TT) own) (hK : KK D E s) (hP : va_P D vwCl ws H) (hD : va_D A ws) (hS : va_S A H0 H locs) (hA : ∀ q, H0.size ≤ q → A q) {y : MethodName} {bytes : ByteArray} {maxL idx ci b N : Nat} {T : u_T} {fs : List Value} {ret : Option FieldType} {rm : Room} {As st0 : List Value} {wc wr w1 : va_W} {rv : Option Value} (hM : MW l y (.code y bytes maxL ret) rm D E (.ref b :: As) wc rv w1)
    (ws' : va_W) (hp : ws.Perm (wc ++ wr)) (hp' : (wr ++ w1).Perm ws') (hv : wc[0]? = some (b, .inr (ci, fs))) (hc : vwCl[ci]? = some (y.cls, T, N))
    (L : LnV own y.cls idx y) (hcode : Cond.code y bytes maxL ret ∈ TT) (dy : DY y As.length) (h0 : rm.cells = 0) (h1 : rm.slots = 0) (hR : rm.frames + 1 ≤ R.frames ∧ 8 + (maxL + 11) + rm.locals ≤ R.locals) (hls : ls.size = nL) (hst : st0 = As.reverse ++ .ref b :: rest) (hw : (rest.map fun v => v.category).sum ≤ 8) (d : decode cc pc = .ok (.invokevirtual idx, 3)) (hce : cells ≤ R.cells) (hsl : slots ≤ R.slots)
    (k : ∀ (H1 : Heap) (locs1 : List Loc), va_P D vwCl ws' H1 → va_D A ws' → va_S A H0 H1 locs1 → W p l e R s m args below meth c H1 locs1 cells slots Q (F0 m (pc + 3) ls (rv.toList ++ rest))) : W p l e R s m args below meth c H locs cells slots Q (F0 m pc ls st0) := by
  have hP2 := hP.perm hp
  have hD2 := hD.perm hp
  have hid : (List.range (wr ++ w1).length).map (fun i => (wr ++ w1)[i]?) = (wr ++ w1).map some := by
    have := pos_left (a := wr ++ w1) (b := [])
    simpa using this
  exact m_cVW X hK hP2 hD2 hS hA hM (List.range wc.length) (List.range' wc.length wr.length) (List.range (wr ++ w1).length) (wr ++ w1) pos_left pos_right (nd_range _) (nd_range' _ _) (fun i hi h2 => by
    rw [List.mem_range'_1] at hi
    rw [List.mem_range] at h2
    omega) hid (nd_range _) hv hc L hcode dy h0 h1 hR hls hst hw d hce hsl (fun H1 locs1 g1 g2 g3 => k H1 locs1 (g1.perm hp') (g2.perm hp') g3)
theorem m_cVRm (X : CallFix p m c cc nL s args (cw :: TT) own) (hK : KK D E s) (hP : va_P D vwCl ws H) {y : MethodName} {bytes : ByteArray} {maxL idx ci b N : Nat} {T : u_T} {fs : List Value} {ret : Option FieldType} {rm : Room} {As st0 : List Value} {wc : va_W} {rv : Option Value} (hM : MR l y (.code y bytes maxL ret) rm D E (.ref b :: As) wc rv) (hsub : ∀ q ∈ wc, q ∈ ws) (hv : wc[0]? = some (b, .inr (ci, fs))) (hc : vwCl[ci]? = some (y.cls, T, N))
    (L : LnV own y.cls idx y) (hcode : Cond.code y bytes maxL ret ∈ TT) (dy : DY y As.length) (h0 : rm.cells = 0) (h1 : rm.slots = 0) (hR : rm.frames + 1 ≤ R.frames ∧ 8 + (maxL + 11) + rm.locals ≤ R.locals) (hls : ls.size = nL) (hst : st0 = As.reverse ++ .ref b :: rest) (hw : (rest.map fun v => v.category).sum ≤ 8) (d : decode cc pc = .ok (.invokevirtual idx, 3)) (hce : cells ≤ R.cells) (hsl : slots ≤ R.slots)
    (k : W p l e R s m args below meth c H locs cells slots Q (F0 m (pc + 3) ls (rv.toList ++ rest))) : W p l e R s m args below meth c H locs cells slots Q (F0 m pc ls st0) :=
  m_cVR X hK hM (vp_mem.mpr fun q hq => vp_mem.mp hP q (hsub q hq)) hv hc L hcode dy h0 h1 hR hls hst hw d hce hsl k
end PERM
/-! a sheet: its plan and its rows; sheets in an array -/
abbrev TSh : Type := (Int × (Nat → Int) × (Nat → Int) × (Nat → Int) × (Nat → Int) × Int × Int) × (Int × (Nat → Int) × (Nat → Int))
def wSh (E : Nat → ClassId) (a : Nat → Nat) (x : TSh) : va_W := [(a 0, .inr (7, [.ref (a 1), .ref (a 6)])), (a 1, .inr (4, [.int (z4 x.1.1), .ref (a 2), .ref (a 3), .ref (a 4), .ref (a 5), .int (z4 x.1.2.2.2.2.2.1), .int (z4 x.1.2.2.2.2.2.2)])), (a 2, .inl (E 0, 3, .inl (A4 x.1.2.1))), (a 3, .inl (E 0, 3, .inl (A4 x.1.2.2.1))), (a 4, .inl (E 0, 3, .inl (A4 x.1.2.2.2.1))), (a 5, .inl (E 0, 5, .inl (A4 x.1.2.2.2.2.1))), (a 6, .inr (6, [.int (z4 x.2.1), .ref (a 7), .ref (a 8)])), (a 7, .inl (E 0, 40, .inl (A4 x.2.2.1))), (a 8, .inl (E 0, 40, .inl (A4 x.2.2.2)))]
def wShs (E : Nat → ClassId) (ad : Nat → Nat → Nat) (N : Nat) (hs : Nat → TSh) : va_W := (List.range N).flatMap fun i => wSh E (ad i) (hs i)
def OS (ad : Nat → Nat → Nat) : Nat → Option Nat := fun i => some (ad i 0)
/-- one sheet out of all -/
theorem wShs_at (E : Nat → ClassId) (ad : Nat → Nat → Nat) {N i : Nat} (hi : i < N) (hs : Nat → TSh) : ∃ r : va_W, ∀ x : TSh, (wShs E ad N (up_ hs i x)).Perm (wSh E (ad i) x ++ r) := by
  refine ⟨((List.range i).flatMap fun j => wSh E (ad j) (hs j)) ++ ((List.range' (i + 1) (N - (i + 1))).flatMap fun j => wSh E (ad j) (hs j)), fun x => ?_⟩
  have hr : List.range N = List.range i ++ i :: List.range' (i + 1) (N - (i + 1)) := by
    rw [List.range_eq_range', List.range_eq_range']
    have h1 : List.range' 0 N = List.range' 0 i ++ List.range' i (N - i) := by
      have := List.range'_append (s := 0) (m := i) (n := N - i) (step := 1)
      simp only [Nat.one_mul, Nat.zero_add] at this
      rw [this]
      congr 1
      omega
    rw [h1]
    congr 1
    rw [show N - i = (N - (i + 1)) + 1 by omega, List.range'_succ]
  unfold wShs
  rw [hr, List.flatMap_append, List.flatMap_cons]
  have e1 : (List.range i).flatMap (fun j => wSh E (ad j) (up_ hs i x j)) = (List.range i).flatMap (fun j => wSh E (ad j) (hs j)) := by
    rw [List.flatMap_def, List.flatMap_def]
    congr 1
    apply List.map_congr_left
    intro j hj
    rw [List.mem_range] at hj
    unfold up_
    rw [if_neg (by omega)]
  have e2 : (List.range' (i + 1) (N - (i + 1))).flatMap (fun j => wSh E (ad j) (up_ hs i x j)) = (List.range' (i + 1) (N - (i + 1))).flatMap (fun j => wSh E (ad j) (hs j)) := by
    rw [List.flatMap_def, List.flatMap_def]
    congr 1
    apply List.map_congr_left
    intro j hj
    rw [List.mem_range'_1] at hj
    unfold up_
    rw [if_neg (by omega)]
  rw [e1, e2, show up_ hs i x i = x from if_pos rfl]
  rw [← List.append_assoc]
  exact (List.perm_append_comm).append_right _ |>.trans (by rw [List.append_assoc])
theorem up_same {α : Type} (f : Nat → α) (i : Nat) : up_ f i (f i) = f := by
  funext j
  unfold up_
  split
  · rename_i h; rw [h]
  · rfl
