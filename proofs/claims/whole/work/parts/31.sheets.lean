theorem perm_pos {ws ws' : va_W} (is : List Nat) (h : is.map (fun i => ws[i]?) = ws'.map some) (hn : is.Perm (List.range ws.length)) : ws.Perm ws' := by
  have h1 : (List.range ws.length).map (fun i => ws[i]?) = ws.map some := by
    have := pos_left (a := ws) (b := [])
    simpa using this
  have h2 : (ws.map some).Perm (ws'.map some) := by
    rw [← h, ← h1]
    exact (hn.map _).symm
  have h3 := h2.filterMap id
  rw [List.filterMap_map, List.filterMap_map] at h3
  simpa using h3
def tk_ (x y : TSh) : TSh := ((y.1.1, cp_ y.1.2.1 x.1.2.1 0 0 3, cp_ y.1.2.2.1 x.1.2.2.1 0 0 3, cp_ y.1.2.2.2.1 x.1.2.2.2.1 0 0 3, cp_ y.1.2.2.2.2.1 x.1.2.2.2.2.1 0 0 5, y.1.2.2.2.2.2.1, y.1.2.2.2.2.2.2), (y.2.1, cp_ y.2.2.1 x.2.2.1 0 0 40, cp_ y.2.2.2 x.2.2.2 0 0 40))
theorem kS_take {l : Launch} {D : va_G} {E : Nat → ClassId} (a b : Nat → Nat) (x y : TSh) : ∃ (wc w1 : va_W) (fs : List Value), MW l yX7_take (.code yX7_take cX7_take 2 none) rm_X7_take D E [.ref (a 0), .ref (b 0)] wc none w1 ∧ (wSh E a x ++ wSh E b y).Perm wc ∧ w1.Perm (wSh E a (tk_ x y) ++ wSh E b y) ∧ wc[0]? = some (a 0, .inr (7, fs)) := by
  refine ⟨_, _, _, k_X7_take 0 (a 0) (a 1) (a 6) (b 0) (b 1) (b 6) (a 2) (a 3) (a 4) (a 5) (b 2) (b 3) (b 4) (b 5) (a 7) (a 8) (b 7) (b 8) x.1.1 x.1.2.2.2.2.2.1 x.1.2.2.2.2.2.2 y.1.1 y.1.2.2.2.2.2.1 y.1.2.2.2.2.2.2 y.1.2.1 x.1.2.1 y.1.2.2.1 x.1.2.2.1 y.1.2.2.2.1 x.1.2.2.2.1 y.1.2.2.2.2.1 x.1.2.2.2.2.1 x.2.1 y.2.1 y.2.2.1 x.2.2.1 y.2.2.2 x.2.2.2 _ rfl, ?_, ?_, rfl⟩
  · exact perm_pos [0, 9, 1, 10, 11, 2, 12, 3, 13, 4, 14, 5, 6, 15, 16, 7, 17, 8] rfl (show List.Perm [0, 9, 1, 10, 11, 2, 12, 3, 13, 4, 14, 5, 6, 15, 16, 7, 17, 8] (List.range 18) from List.isPerm_iff.mp (by decide +kernel))
  · exact (perm_pos (ws := wSh E a (tk_ x y) ++ wSh E b y) [0, 9, 1, 10, 11, 2, 12, 3, 13, 4, 14, 5, 6, 15, 16, 7, 17, 8] rfl (show List.Perm [0, 9, 1, 10, 11, 2, 12, 3, 13, 4, 14, 5, 6, 15, 16, 7, 17, 8] (List.range 18) from List.isPerm_iff.mp (by decide +kernel))).symm
section SHEETS
variable {p : Program} {l : Launch} {e : Env} {R : Room} {s : State} {m : MethodId} {args : Array Value} {below : List Frame} {meth : Method} {c : Code} {H : Heap} {locs : List Loc} {cells slots : Nat} {Q : State → Prop}
variable {cc : ByteArray} {pc nL : Nat} {ls : Array Slot} {rest : List Value} {D : va_G} {E : Nat → ClassId} {A : Nat → Prop} {a : Nat} {ws : va_W} {H0 : Heap} {cw : Cond} {own : String}
theorem m_aaldS (X : CallFix p m c cc nL s args (cw :: TT) own) (hK : KK D E s) (hP : va_P D vwCl ws H) (q0 : Nat) {n : Nat} {ad : Nat → Nat → Nat} (ha : ws[q0]? = some (a, .inl (E 3, n, .inr (.inr (.inr (.inr (OS ad))))))) (hn : n ≤ 2147483648) {i : Int} (h : 0 ≤ i ∧ i < (n : Int)) (d : decode cc pc = .ok (.aaload, 1)) (k : W p l e R s m args below meth c H locs cells slots Q (F0 m (pc + 1) ls (.ref (ad i.toNat 0) :: rest))) : W p l e R s m args below meth c H locs cells slots Q (F0 m pc ls (.int (z4 i) :: .ref a :: rest)) := by
  refine va_aldq (tys := [(E 0, .int), (E 1, .boolean), (E 2, .long), (E 3, .object "RunWatch$Sheet"), (E 4, .array .int)]) X.1 X.2.1 hK.1 hP q0 3 ha rfl (z4_in hn h).1 d ?_
  rw [(z4_in hn h).2]
  exact k
theorem m_takeTo {Xw wr : va_W} {ad : Nat → Nat → Nat} {N : Nat} {hs : Nat → TSh} (X : CallFix p m c cc nL s args (cw :: TT) own) (hK : KK D E s) (hP : va_P D vwCl (Xw ++ wShs E ad N hs) H) (hD : va_D A (Xw ++ wShs E ad N hs)) (hS : va_S A H0 H locs) (hA : ∀ q, H0.size ≤ q → A q) {i idx : Nat} (hi : i < N) (b : Nat → Nat) (y : TSh) (isB : List Nat) (hB : isB.map (fun i => Xw[i]?) = (wSh E b y ++ wr).map some) (hpm : isB.Perm (List.range Xw.length))
    (L : LnV own yX7_take.cls idx yX7_take) (hR : rm_X7_take.frames + 1 ≤ R.frames ∧ 8 + (2 + 11) + rm_X7_take.locals ≤ R.locals) (hls : ls.size = nL) (hw : (rest.map fun v => v.category).sum ≤ 8) (d : decode cc pc = .ok (.invokevirtual idx, 3)) (hce : cells ≤ R.cells) (hsl : slots ≤ R.slots)
    (k : ∀ (H1 : Heap) (locs1 : List Loc), va_P D vwCl (Xw ++ wShs E ad N (up_ hs i (tk_ (hs i) y))) H1 → va_D A (Xw ++ wShs E ad N (up_ hs i (tk_ (hs i) y))) → va_S A H0 H1 locs1 → W p l e R s m args below meth c H1 locs1 cells slots Q (F0 m (pc + 3) ls rest)) : W p l e R s m args below meth c H locs cells slots Q (F0 m pc ls (.ref (b 0) :: .ref (ad i 0) :: rest)) := by
  obtain ⟨wc, w1, fs, hM, hp1, hp2, hv⟩ := kS_take (l := l) (D := D) (E := E) (ad i) b (hs i) y
  obtain ⟨r, hr⟩ := wShs_at E ad hi hs
  have h0 := hr (hs i)
  rw [up_same] at h0
  have h1 := hr (tk_ (hs i) y)
  have hX := perm_pos isB hB hpm
  have c1 : (Xw ++ wShs E ad N hs).Perm (wc ++ (wr ++ r)) := by
    refine (hX.append h0).trans ?_
    refine List.Perm.trans ?_ ((hp1.append_right (wr ++ r)))
    rw [List.append_assoc, List.append_assoc]
    refine List.Perm.trans (List.Perm.append_left _ (List.perm_append_comm_assoc _ _ _)) ?_
    exact List.perm_append_comm_assoc _ _ _
  have c2 : ((wr ++ r) ++ w1).Perm (Xw ++ wShs E ad N (up_ hs i (tk_ (hs i) y))) := by
    refine List.Perm.trans ?_ (hX.append h1).symm
    refine ((List.Perm.refl _).append hp2).trans ?_
    refine List.perm_append_comm.trans ?_
    rw [List.append_assoc, List.append_assoc]
    refine List.Perm.trans (List.perm_append_comm_assoc _ _ _) ?_
    refine List.Perm.append_left _ ?_
    exact List.perm_append_comm_assoc _ _ _
  exact m_cVWm X hK hP hD hS hA hM _ c1 c2 hv cl_X7 L co_X7_take dy_X7_take rfl rfl hR hls rfl hw d hce hsl k
theorem m_takeFrom {Xw Xw' wr : va_W} {ad : Nat → Nat → Nat} {N : Nat} {hs : Nat → TSh} (X : CallFix p m c cc nL s args (cw :: TT) own) (hK : KK D E s) (hP : va_P D vwCl (Xw ++ wShs E ad N hs) H) (hD : va_D A (Xw ++ wShs E ad N hs)) (hS : va_S A H0 H locs) (hA : ∀ q, H0.size ≤ q → A q) {i idx : Nat} (hi : i < N) (b : Nat → Nat) (y : TSh) (isB : List Nat) (hB : isB.map (fun i => Xw[i]?) = (wSh E b y ++ wr).map some) (hpm : isB.Perm (List.range Xw.length)) (hB' : isB.map (fun i => Xw'[i]?) = (wSh E b (tk_ y (hs i)) ++ wr).map some) (hl' : Xw'.length = Xw.length)
    (L : LnV own yX7_take.cls idx yX7_take) (hR : rm_X7_take.frames + 1 ≤ R.frames ∧ 8 + (2 + 11) + rm_X7_take.locals ≤ R.locals) (hls : ls.size = nL) (hw : (rest.map fun v => v.category).sum ≤ 8) (d : decode cc pc = .ok (.invokevirtual idx, 3)) (hce : cells ≤ R.cells) (hsl : slots ≤ R.slots)
    (k : ∀ (H1 : Heap) (locs1 : List Loc), va_P D vwCl (Xw' ++ wShs E ad N hs) H1 → va_D A (Xw' ++ wShs E ad N hs) → va_S A H0 H1 locs1 → W p l e R s m args below meth c H1 locs1 cells slots Q (F0 m (pc + 3) ls rest)) : W p l e R s m args below meth c H locs cells slots Q (F0 m pc ls (.ref (ad i 0) :: .ref (b 0) :: rest)) := by
  obtain ⟨wc, w1, fs, hM, hp1, hp2, hv⟩ := kS_take (l := l) (D := D) (E := E) b (ad i) y (hs i)
  obtain ⟨r, hr⟩ := wShs_at E ad hi hs
  have h0 := hr (hs i)
  rw [up_same] at h0
  have hX := perm_pos isB hB hpm
  have hX' := perm_pos isB hB' (by rw [hl']; exact hpm)
  have c1 : (Xw ++ wShs E ad N hs).Perm (wc ++ (wr ++ r)) := by
    refine (hX.append h0).trans ?_
    refine List.Perm.trans ?_ ((hp1.append_right (wr ++ r)))
    rw [List.append_assoc, List.append_assoc]
    refine List.Perm.append_left _ ?_
    exact List.perm_append_comm_assoc _ _ _
  have c2 : ((wr ++ r) ++ w1).Perm (Xw' ++ wShs E ad N hs) := by
    refine List.Perm.trans ?_ (hX'.append h0).symm
    refine ((List.Perm.refl _).append hp2).trans ?_
    refine List.perm_append_comm.trans ?_
    rw [List.append_assoc, List.append_assoc]
    refine List.Perm.append_left _ ?_
    exact List.perm_append_comm_assoc _ _ _
  exact m_cVWm X hK hP hD hS hA hM _ c1 c2 hv cl_X7 L co_X7_take dy_X7_take rfl rfl hR hls rfl hw d hce hsl k
end SHEETS
