/-! an array of two dimensions is made -/
def mlF (h i : Nat) : Nat → Value := fun j => if j < i then .ref (h + 1 + j) else .null
def mlT (T : State) (cO cI : ClassId) (N M : Nat) : Nat → State
  | 0 => T.pushCell { cls := cO, slots := Array.replicate N .null }
  | i + 1 => ((mlT T cO cI N M i).pushCell { cls := cI, slots := Array.replicate M (.int 0) }).setCell T.heap.size ((arrV cO N (mlF T.heap.size i)).setSlot i (.ref (T.heap.size + 1 + i)))
theorem mlF_up (h i : Nat) : updV (mlF h i) i (.ref (h + 1 + i)) = mlF h (i + 1) := by
  funext q
  unfold updV mlF
  by_cases e : q = i
  · subst e
    simp
  · by_cases e2 : q < i
    · simp [e, e2, show q < i + 1 by omega]
    · simp [e, e2, show ¬ q < i + 1 by omega]
theorem ml_heap (T : State) (cO cI : ClassId) (N M : Nat) : ∀ i, (mlT T cO cI N M i).heap.size = T.heap.size + 1 + i ∧ (mlT T cO cI N M i).heap[T.heap.size]? = some (arrV cO N (mlF T.heap.size i)) ∧ (∀ j, j < i → (mlT T cO cI N M i).heap[T.heap.size + 1 + j]? = some (arrV cI M (fun _ => .int 0))) ∧ (∀ q, q < T.heap.size → (mlT T cO cI N M i).heap[q]? = T.heap[q]?) ∧ (mlT T cO cI N M i).vm = T.vm
  | 0 => by
    refine ⟨by show (T.heap.push _).size = _; simp, ?_, fun j hj => by omega, fun q hq => ?_, rfl⟩
    · show (T.heap.push _)[T.heap.size]? = _
      rw [Array.getElem?_push_size, arrV_new]
      rfl
    · show (T.heap.push _)[q]? = _
      rw [Array.getElem?_push, if_neg (Nat.ne_of_lt hq)]
  | i + 1 => by
    obtain ⟨h1, h2, h3, h4, h5⟩ := ml_heap T cO cI N M i
    generalize hU : mlT T cO cI N M i = U at h1 h2 h3 h4 h5
    have e : mlT T cO cI N M (i + 1) = (U.pushCell { cls := cI, slots := Array.replicate M (.int 0) }).setCell T.heap.size ((arrV cO N (mlF T.heap.size i)).setSlot i (.ref (T.heap.size + 1 + i))) := by rw [← hU]; rfl
    have hs : (mlT T cO cI N M (i + 1)).heap = (U.heap.push { cls := cI, slots := Array.replicate M (.int 0) }).setIfInBounds T.heap.size ((arrV cO N (mlF T.heap.size i)).setSlot i (.ref (T.heap.size + 1 + i))) := by rw [e]; rfl
    refine ⟨by rw [hs]; simp [h1]; omega, ?_, fun j hj => ?_, fun q hq => ?_, by rw [e]; exact h5⟩
    · rw [hs, Array.getElem?_setIfInBounds_self_of_lt (by simp [h1]; omega), arrV_store, mlF_up]
    · rw [hs, Array.getElem?_setIfInBounds_ne (by omega)]
      by_cases ej : j = i
      · rw [show T.heap.size + 1 + j = U.heap.size by omega, Array.getElem?_push_size, arrV_new]
      · rw [Array.getElem?_push, if_neg (by omega)]
        exact h3 j (by omega)
    · rw [hs, Array.getElem?_setIfInBounds_ne (by omega), Array.getElem?_push, if_neg (by omega)]
      exact h4 q hq
section MULTI
variable {p : Program} {l : Launch} {e : Env} {R : Room} {s : State} {m : MethodId} {args : Array Value} {below : List Frame} {meth : Method} {c : Code} {T : State} {locs : List Loc} {cells slots : Nat}
theorem ml_stand (X : Stand p l e R s m args below meth c T locs cells slots) (cO cI : ClassId) (N M : Nat) : ∀ i, ∃ L : List Loc, Stand p l e R s m args below meth c (mlT T cO cI N M i) (locs ++ L) (cells + 1 + i) (slots + N + i * M) ∧ ∀ q ∈ L, q.base = T.heap.size
  | 0 => by
    have Y := X.pushed { cls := cO, slots := Array.replicate N .null }
    refine ⟨[], ?_, fun q hq => by cases hq⟩
    simpa [mlT] using Y
  | i + 1 => by
    obtain ⟨L, Y, hL⟩ := ml_stand X cO cI N M i
    have Y1 := Y.pushed { cls := cI, slots := Array.replicate M (.int 0) }
    have hh := ml_heap T cO cI N M i
    have Y2 := Y1.stored (a := T.heap.size) (cell := arrV cO N (mlF T.heap.size i)) (by
      show ((mlT T cO cI N M i).heap.push _)[T.heap.size]? = _
      rw [Array.getElem?_push, if_neg (by omega)]
      exact hh.2.1) i (.ref (T.heap.size + 1 + i))
    refine ⟨L ++ [⟨T.heap.size, i⟩], ?_, fun q hq => ?_⟩
    · have e1 : slots + N + (i + 1) * M = slots + N + i * M + M := by rw [Nat.succ_mul]; omega
      rw [← List.append_assoc, e1, show cells + 1 + (i + 1) = cells + 1 + i + 1 by omega]
      simpa [mlT] using Y2
    · rcases List.mem_append.mp hq with h | h
      · exact hL q h
      · rw [List.mem_singleton.mp h]
theorem ml_top (T : State) (cO cI : ClassId) (N M : Nat) (h : T.topJava?.isSome) : ∀ i, (mlT T cO cI N M i).topJava?.isSome
  | 0 => h
  | i + 1 => ml_top T cO cI N M h i
theorem ml_inner {Q : Addr → Pre} {Ec : CtlPost} {d : Bool} {acts : List Action} {cI cp : ClassId} {kI : Class} (hkI : T.vm.classes[cI]? = some kI) (hkindI : kI.kind = .array cp .int) {c2 : Int32} {M : Nat} (h2 : ¬ c2 < 0) (hM : c2.toNatClampNeg = M) (hl2 : ¬ M > e.platform.arrayLengthLimit) (hb2 : ¬ M * componentBytes .int > e.platform.maxHeapBytes) (hc : T.heap.size < e.platform.maxCells) (hsl : T.slotsUsed + M ≤ e.platform.maxSlots)
    (hq : ∀ acts', Q T.heap.size d acts' (T.pushCell { cls := cI, slots := Array.replicate M (.int 0) })) : wp (Op.multianewarray.make cI [c2]) Q Ec e d acts T := by
  rw [Op.multianewarray.make]
  simp only [wp_bind', wp_pure', h2, if_false, W.theClass, hkI, Option.some.injEq, exists_eq_left', hkindI]
  subst hM
  exact W.newArray_of hkI hkindI hl2 hb2 hc hsl rfl hq
theorem ml_wp {Q : Unit → Pre} {Ec : CtlPost} {d : Bool} {acts : List Action} {g : JFrame} (hs : T.topJava?.isSome) {index : Nat} {cO cI cp : ClassId} {kO kI : Class} {tyO : FieldType} (hr : T.vm.classReady g.method.cls index cO) (hkO : T.vm.classes[cO]? = some kO) (hkindO : kO.kind = .array cI tyO) (href : tyO.isReference = true) (hkI : T.vm.classes[cI]? = some kI) (hkindI : kI.kind = .array cp .int)
    {c1 c2 : Int32} {N M : Nat} {rest : List Value} (hstack : g.stack = .int c2 :: .int c1 :: rest) (h1 : ¬ c1 < 0) (h2 : ¬ c2 < 0) (h0 : (c1 == 0) = false) (hN : c1.toNatClampNeg = N) (hM : c2.toNatClampNeg = M) (hl1 : ¬ N > e.platform.arrayLengthLimit) (hl2 : ¬ M > e.platform.arrayLengthLimit) (hb1 : ¬ N * componentBytes tyO > e.platform.maxHeapBytes) (hb2 : ¬ M * componentBytes .int > e.platform.maxHeapBytes)
    (hroom : ∀ i, i ≤ N → (i < N → (mlT T cO cI N M i).heap.size < e.platform.maxCells ∧ (mlT T cO cI N M i).slotsUsed + M ≤ e.platform.maxSlots)) (hc : T.heap.size < e.platform.maxCells) (hsl : T.slotsUsed + N ≤ e.platform.maxSlots)
    (hq : ∀ d' acts', Q () d' acts' ((mlT T cO cI N M N).setTop { g with stack := .ref T.heap.size :: rest })) : wp (Op.multianewarray.sem index 2) Q Ec e d acts (T.setTop g) := by
  have hnull : fits tyO .null = true := by cases tyO <;> simp [FieldType.isReference] at href <;> rfl
  unfold Op.multianewarray.sem
  simp only [wp_bind', W.resolveClassAt_ready (State.method?_setTop g hs) hr]
  have hpop := fun (Q' : List Value → Pre) => popN_top (e := e) (E := Ec) (d := d) (acts := acts) (Q := Q') (s := T) (f := g) hs (args := [.int c1, .int c2]) (rest := rest) hstack
  refine (hpop _).mpr ?_
  simp only [List.mapM_cons, List.mapM_nil, wp_bind', wp_pure']
  rw [Op.multianewarray.make]
  simp only [wp_bind', wp_pure', h1, if_false, W.theClass, State.vm_setTop, hkO, Option.some.injEq, exists_eq_left', hkindO]
  refine W.newArray_of (s := T.setTop { g with stack := rest }) hkO hkindO (by rw [hN]; exact hl1) (by rw [hN]; exact hb1) hc (by rw [hN]; exact hsl) hnull (fun acts1 => ?_)
  simp only [h0, Bool.false_eq_true, if_false, wp_bind', wp_pure']
  have hrf : ∀ a : Addr, fits tyO (.ref a) = true := fun a => by cases tyO <;> simp [FieldType.isReference] at href <;> rfl
  generalize hgq : ({ g with stack := rest } : JFrame) = gq
  rw [Std.Legacy.Range.forIn_eq_forIn_range']
  have hlist : List.range' 0 ([:c1.toNatClampNeg] : Std.Legacy.Range).size 1 = List.range' 0 N := by rw [hN]; simp [Std.Legacy.Range.size]
  rw [show ([:c1.toNatClampNeg] : Std.Legacy.Range).start = 0 from rfl, show ([:c1.toNatClampNeg] : Std.Legacy.Range).step = 1 from rfl, hlist]
  refine wp_forIn_inv (fun (rs : List Nat) (s' : State) => ∃ i, i ≤ N ∧ rs = List.range' i (N - i) ∧ s' = (mlT T cO cI N M i).setTop gq) _ _ ⟨0, by omega, rfl, by rw [hN]; rfl⟩ ?_ ?_
  · rintro x rs s' d' acts' Q' ⟨i, hi, hrs, rfl⟩ hk
    have hlt : i < N := by
      rcases Nat.lt_or_ge i N with q | q
      · exact q
      · rw [show N - i = 0 by omega] at hrs; cases hrs
    rw [show N - i = (N - (i + 1)) + 1 by omega, List.range'_succ] at hrs
    obtain ⟨rfl, rfl⟩ := List.cons.inj hrs
    obtain ⟨q1, q2, q3, q4, q5⟩ := ml_heap T cO cI N M x
    obtain ⟨r1, r2⟩ := hroom x hi hlt
    simp only [wp_bind']
    refine ml_inner (T := (mlT T cO cI N M x).setTop gq) (by show (mlT T cO cI N M x).vm.classes[cI]? = _; rw [q5]; exact hkI) hkindI h2 hM hl2 hb2 r1 r2 (fun acts2 => ?_)
    rw [wp_bind']
    refine (W.writeLoc _ _ _ _).mpr ⟨arrV cO N (mlF T.heap.size x), ?_, (fun h => by cases h), by rw [arrV_size]; exact hlt, ?_, ?_⟩
    · show ((mlT T cO cI N M x).heap.push _)[T.heap.size]? = _
      rw [Array.getElem?_push, if_neg (by omega)]
      exact q2
    · show State.fitsSlot _ cO .none x (.ref _) = true
      have hk1 : (mlT T cO cI N M x).vm.classes[cO]? = some kO := by rw [q5]; exact hkO
      simp [State.fitsSlot, State.slotType?, hk1, hkindO, hrf]
    · rw [wp_pure']
      refine hk _ _ _ ⟨x + 1, by omega, rfl, ?_⟩
      have q6 : (mlT T cO cI N M x).heap.size = T.heap.size + 1 + x := q1
      show ((((mlT T cO cI N M x).pushCell _).setCell T.heap.size ((arrV cO N (mlF T.heap.size x)).setSlot x (.ref (mlT T cO cI N M x).heap.size))).setTop gq) = _
      rw [q6]
      rfl
  · rintro s' d' acts' ⟨i, hi, hrs, rfl⟩
    have hiN : i = N := by
      rcases Nat.lt_or_ge i N with q | q
      · rw [show N - i = (N - (i + 1)) + 1 by omega, List.range'_succ] at hrs; cases hrs
      · omega
    subst hiN
    have ht := ml_top T cO cI i M hs i
    simp only [W.mark, wp_bind', wp_pure', W.pushRef, State.topJava?_setTop' _ ht, Option.some.injEq, exists_eq_left', State.setTop_setTop]
    subst hgq
    exact hq _ _
def mlWp (Q : Unit → Pre) (Ec : CtlPost) (e : Env) (d : Bool) (acts : List Action) (index : Nat) (U : State) : Prop := wp (Op.multianewarray.sem index 2) Q Ec e d acts U
theorem mlWp_iff {Q : Unit → Pre} {Ec : CtlPost} {d : Bool} {acts : List Action} {index : Nat} {U : State} : wp (Op.multianewarray.sem index 2) Q Ec e d acts U ↔ mlWp Q Ec e d acts index U := Iff.rfl
theorem ml_cold {Q : Unit → Pre} {Ec : CtlPost} {d : Bool} {acts : List Action} {g : JFrame} {index cO : Nat} {vm' : Vm} (hs : T.topJava?.isSome) (hg : (Jvm.resolveClass g.method.cls index).Gives e.toSetting T.vm (.ok cO) vm') (hr : vm'.classReady g.method.cls index cO) (hsz : vm'.classes.size ≤ T.vm.classes.size) :
    wp (Op.multianewarray.sem index 2) Q Ec e d acts (T.setTop g) ↔ wp (Op.multianewarray.sem index 2) Q Ec e d acts ((T.setVm vm').setTop g) := by
  simp only [Op.multianewarray.sem, wp_bind']
  exact W.resolveClassAt_transfer (s := T.setTop g) (State.method?_setTop g hs) hg hr
/-- 'new int[N][M]' in a walk -/
theorem W.multi {H : Heap} {Q : State → Prop} {cc : ByteArray} (hexec : p.tables.exec = Jvm.exec) (hb : c.code = cc) {own : String} {index : Nat} (hown : s.vm.findClass own = some m.cls) (hclink : (Cond.classLink own index "[[I").before args s = true) (hover : (Cond.arrayOver (.array .int)).before args s = true) {cE : ClassId} (hE : s.vm.findClass ("[" ++ (FieldType.int).toString) = some cE) {kE : Class} {cq : ClassId} (hkE : s.vm.classes[cE]? = some kE) (hkindE : kE.kind = .array cq .int)
    {g : JFrame} (hg : g.method = m) (hdg : decode cc g.pc = .ok (.multianewarray index 2, 4)) {c1 c2 : Int32} {N M : Nat} {rest : List Value} (hstack : g.stack = .int c2 :: .int c1 :: rest) (h1 : ¬ c1 < 0) (h2 : ¬ c2 < 0) (h0 : (c1 == 0) = false) (hN : c1.toNatClampNeg = N) (hM : c2.toNatClampNeg = M) (hN1 : N * 4 ≤ 536870912) (hM1 : M * 4 ≤ 536870912) (hcells : cells + 1 + N ≤ R.cells) (hslots : slots + N + N * M ≤ R.slots)
    (kk : ∀ (H' : Heap) (cA : ClassId) (L : List Loc), s.vm.findClass ("[" ++ (FieldType.array .int).toString) = some cA → H'.size = H.size + 1 + N → H'[H.size]? = some (arrV cA N (mlF H.size N)) → (∀ j, j < N → H'[H.size + 1 + j]? = some (arrV cE M (fun _ => .int 0))) → (∀ q, q < H.size → H'[q]? = H[q]?) → (∀ q ∈ L, q.base = H.size) →
      W p l e R s m args below meth c H' (locs ++ L) (cells + 1 + N) (slots + N + N * M) Q { g with pc := g.pc + 4, stack := .ref H.size :: rest }) : W p l e R s m args below meth c H locs cells slots Q g := by
  intro T hT X
  subst hT; subst hb; subst hg
  have hpl : e.platform.magicAccessors = ({} : Platform).magicAccessors := by rw [X.admits.platform]
  obtain ⟨comp, cA, kA, hcomp, hidx, hkA, hkindA, hnameA⟩ := arrayOverA_spec hover
  cases hcomp.symm.trans hE
  obtain ⟨cc', hfcc, hcl⟩ := Cond.classLink_spec hown hclink e.platform hpl
  cases (show s.vm.findClass "[[I" = some cA from hnameA).symm.trans hfcc
  obtain ⟨hg₁, hwarm₁, hready₁⟩ := State.classEntry (e := e) X.warmed hcl
  have hsz : (T.vm.noted g.method.cls index (.cls cA)).classes.size ≤ T.vm.classes.size := by no_record
  generalize T.vm.noted g.method.cls index (.cls cA) = vm₁ at hg₁ hwarm₁ hready₁ hsz
  have hal : s.vm.Alike vm₁ := hwarm₁.alike
  obtain ⟨kE₁, hkE₁, heE⟩ := hal.2.2 _ _ hkE
  have hkindE₁ : kE₁.kind = .array cq .int := by rw [heE]; exact hkindE
  obtain ⟨kA₁, hkA₁, heA⟩ := hal.2.2 _ _ hkA
  have hkindA₁ : kA₁.kind = .array cE (.array .int) := by rw [heA]; exact hkindA
  have X₁ := X.noted hwarm₁
  obtain ⟨L, XN, hL⟩ := ml_stand X₁ cA cE N M N
  obtain ⟨q1, q2, q3, q4, -⟩ := ml_heap (T.setVm vm₁) cA cE N M N
  obtain ⟨t', a1, b1⟩ := kk (mlT (T.setVm vm₁) cA cE N M N).heap cA L hnameA q1 q2 q3 q4 hL (mlT (T.setVm vm₁) cA cE N M N) rfl XN
  refine ⟨t', ?_, b1⟩
  obtain ⟨hr1, hr2⟩ := X₁.roomAbove (a := 1) (b := N) (by omega) (by omega)
  have hlim : e.platform.arrayLengthLimit = 2147483645 := Launch.admits_arrayLengthLimit X.admits
  have hmax : e.platform.maxHeapBytes = 536870912 := Launch.admits_maxHeapBytes X.admits
  have hroom : ∀ i, i ≤ N → (i < N → (mlT (T.setVm vm₁) cA cE N M i).heap.size < e.platform.maxCells ∧ (mlT (T.setVm vm₁) cA cE N M i).slotsUsed + M ≤ e.platform.maxSlots) := fun i _ hlt => by
    obtain ⟨Li, Xi, -⟩ := ml_stand X₁ cA cE N M i
    have hm : i * M + M ≤ N * M := by
      have := Nat.mul_le_mul_right M (show i + 1 ≤ N by omega)
      rw [Nat.succ_mul] at this
      exact this
    obtain ⟨u1, u2⟩ := Xi.roomAbove (a := 1) (b := M) (by omega) (by omega)
    exact ⟨by omega, u2⟩
  jvm_step X.here [hexec, hdg, mlWp_iff]
  refine mlWp_iff.mp ((ml_cold X.here.top hg₁ hready₁ hsz).mpr (ml_wp (T := T.setVm vm₁) X.here.top hready₁ hkA₁ hkindA₁ rfl hkE₁ hkindE₁ hstack h1 h2 h0 hN hM (by omega) (by omega) (by rw [hmax]; show ¬ N * 4 > 536870912; omega) (by rw [hmax]; show ¬ M * 4 > 536870912; omega) hroom (Nat.lt_of_lt_of_le (Nat.lt_succ_self _) hr1) hr2 (fun d' acts' => ?_)))
  intro acts2
  have ht := XN.here.top
  simp [jvm, ht]
  exact a1
end MULTI
