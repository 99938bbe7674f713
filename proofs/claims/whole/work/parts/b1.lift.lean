/-! contracts over larger worlds -/
theorem Met_mono {l : Launch} {y : MethodName} {ws : List Cond} {rm : Room} {Pc Pc' : Array Value → State → Prop} {Qc Qc' : Array Value → State → Outcome → State → Prop} {mc ms : Nat} {free free' : Addr → Prop} (h : Met l y ws rm Pc Qc mc ms free) (hP : ∀ a U, Pc' a U → Pc a U) (hQ : ∀ a st o t, Pc' a st → Qc a st o t → Qc' a st o t) (hf : ∀ q, free q → free' q) : Met l y ws rm Pc' Qc' mc ms free' := by
  intro p e ha hc hk s m args below hF happ hp hK
  obtain ⟨n, o, h1, h2, h3, h4, L, h5, h6⟩ := h p e ha hc hk s m args below hF happ (hP _ _ hp) hK
  exact ⟨n, o, h1, h2, h3, hQ _ _ _ _ hp h4, L, h5, fun q hq => hf _ (h6 q hq)⟩
theorem va_A_mem {ws : va_W} {sz q : Nat} : va_A ws sz q ↔ (∃ e : va_E, (q, e) ∈ ws) ∨ sz ≤ q := by
  unfold va_A
  constructor
  · rintro (⟨k, e, h⟩ | h)
    · exact Or.inl ⟨e, List.mem_of_getElem? h⟩
    · exact Or.inr h
  · rintro (⟨e, h⟩ | h)
    · obtain ⟨k, hk⟩ := List.getElem?_of_mem h
      exact Or.inl ⟨k, e, hk⟩
    · exact Or.inr h
theorem va_A_sub {ws wc wr : va_W} (hp : ws.Perm (wc ++ wr)) {sz q : Nat} (h : va_A wc sz q) : va_A ws sz q := by
  rw [va_A_mem] at h ⊢
  rcases h with ⟨e, h⟩ | h
  · exact Or.inl ⟨e, hp.mem_iff.mpr (List.mem_append_left _ h)⟩
  · exact Or.inr h
/-- the callee's world beside the rest -/
theorem lift_post {D : va_G} {ws wc wr w1 ws' : va_W} {st t : State} (hp : ws.Perm (wc ++ wr)) (hp' : (wr ++ w1).Perm ws') {A0 : Nat → Prop} (hP : va_P D vwCl ws st.heap) (hD : va_D A0 ws) (hP1 : va_P D vwCl w1 t.heap) (hD1 : va_D (va_A wc st.heap.size) w1) (hF : va_F (va_A wc st.heap.size) st t) : va_P D vwCl ws' t.heap ∧ va_D (va_A ws st.heap.size) ws' ∧ va_F (va_A ws st.heap.size) st t := by
  have hPc := hP.perm hp
  have hDc : va_D (va_A ws st.heap.size) (wc ++ wr) := (hD.self (sz := st.heap.size)).perm hp
  obtain ⟨a, b⟩ := va_join (A0 := va_A ws st.heap.size) (wr := wr) (w1 := w1) hPc hDc (List.range wc.length) (List.range' wc.length wr.length) pos_left pos_right (nd_range' _ _) (fun i hi h2 => by
    rw [List.mem_range'_1] at hi
    rw [List.mem_range] at h2
    omega) (fun q h1 h2 => hF.2 q h1 h2) (fun q h => va_A_sub hp h) hP1 hD1
  exact ⟨a.perm hp', b.perm hp', hF.1, fun q h1 h2 => hF.2 q h1 (fun z => h2 (va_A_sub hp z))⟩
theorem sub_pre {D : va_G} {ws wc wr : va_W} {H : Heap} {A : Nat → Prop} (hp : ws.Perm (wc ++ wr)) (hP : va_P D vwCl ws H) (hD : va_D A ws) : va_P D vwCl wc H ∧ va_D A wc := by
  have h1 := hP.perm hp
  have h2 := hD.perm hp
  exact ⟨vp_mem.mpr fun q hq => vp_mem.mp h1 q (List.mem_append_left _ hq), h2.sub (List.range wc.length) (nd_range _) pos_left⟩
theorem MW.lift {l : Launch} {y : MethodName} {cy : Cond} {rm : Room} {D : va_G} {E : Nat → ClassId} {B : Nat} {Z : ZT} {av : List Value} {wc w1 ws ws' wr : va_W} {rv : Option Value} (h : MW l y cy rm D E av wc rv w1) (hp : ws.Perm (wc ++ wr)) (hp' : (wr ++ w1).Perm ws') : MWs l y cy rm D E B Z av ws rv ws' := by
  intro sz
  refine Met_mono (h sz) (fun a U q => ?_) (fun a st o t q r => ?_) (fun q hq => va_A_sub hp hq)
  · obtain ⟨q0, q1, q2, q3, q4, -⟩ := q
    obtain ⟨u1, u2⟩ := sub_pre hp q2 q4
    exact ⟨q0, q1, u1, q3, u2.weaken (fun _ _ _ _ => trivial)⟩
  · obtain ⟨q0, q1, q2, q3, q4, -⟩ := q
    obtain ⟨r1, ⟨r2, r3, r4⟩, r5⟩ := r
    subst q1
    obtain ⟨u1, u2, u3⟩ := lift_post hp hp' q2 q4 r2 r4 r5
    exact ⟨r1, ⟨u1, r3, u2⟩, u3⟩
theorem MWs.lift {l : Launch} {y : MethodName} {cy : Cond} {rm : Room} {D : va_G} {E : Nat → ClassId} {B : Nat} {Z : ZT} {av : List Value} {wc w1 ws ws' wr : va_W} {rv : Option Value} (h : MWs l y cy rm D E B Z av wc rv w1) (hp : ws.Perm (wc ++ wr)) (hp' : (wr ++ w1).Perm ws') : MWs l y cy rm D E B Z av ws rv ws' := by
  intro sz
  refine Met_mono (h sz) (fun a U q => ?_) (fun a st o t q r => ?_) (fun q hq => va_A_sub hp hq)
  · obtain ⟨q0, q1, q2, q3, q4, q5⟩ := q
    obtain ⟨u1, u2⟩ := sub_pre hp q2 q4
    exact ⟨q0, q1, u1, q3, u2, q5⟩
  · obtain ⟨q0, q1, q2, q3, q4, -⟩ := q
    obtain ⟨r1, ⟨r2, r3, r4⟩, r5⟩ := r
    subst q1
    obtain ⟨u1, u2, u3⟩ := lift_post hp hp' q2 q4 r2 r4 r5
    exact ⟨r1, ⟨u1, r3, u2⟩, u3⟩
theorem MR.lift {l : Launch} {y : MethodName} {cy : Cond} {rm : Room} {D : va_G} {E : Nat → ClassId} {B : Nat} {Z : ZT} {av : List Value} {wc ws wr : va_W} {rv : Option Value} (h : MR l y cy rm D E av wc rv) (hp : ws.Perm (wc ++ wr)) : MWs l y cy rm D E B Z av ws rv ws := by
  intro sz
  intro p e ha hc hk s m args below hF happ hq hK
  obtain ⟨q0, q1, q2, q3, q4, -⟩ := hq
  obtain ⟨u1, u2⟩ := sub_pre hp q2 q4
  obtain ⟨n, o, h1, h2, h3, ⟨h4, h4'⟩, L, h5, h6⟩ := h p e ha hc hk s m args below hF happ ⟨q0, u1, q3⟩ hK
  refine ⟨n, o, h1, h2, h3, ⟨h4, ⟨by rw [h4']; exact q2, ?_, ?_⟩, ?_⟩, L, h5, fun q hq => (h6 q hq).elim⟩
  · exact q3.moved h5.2.1
  · exact q4.self
  · exact ⟨by rw [h4']; exact Nat.le_refl _, fun q _ _ => by rw [h4']⟩
theorem perm_call {Xw cx rx cx' Xw' P T P' T1 T2 : va_W} (is : List Nat) (h : is.map (fun i => Xw[i]?) = (cx ++ rx).map some) (hp : is.Perm (List.range Xw.length)) (h' : is.map (fun i => Xw'[i]?) = (cx' ++ rx).map some) (hl : Xw'.length = Xw.length) (t1 : T1.Perm (P ++ T)) (t2 : T2.Perm (P' ++ T)) : (Xw ++ T1).Perm ((cx ++ P) ++ (rx ++ T)) ∧ ((rx ++ T) ++ (cx' ++ P')).Perm (Xw' ++ T2) := by
  have hX := perm_pos is h hp
  have hX' := perm_pos is h' (by rw [hl]; exact hp)
  constructor
  · refine (hX.append t1).trans ?_
    rw [List.append_assoc, List.append_assoc]
    exact List.Perm.append_left _ (List.perm_append_comm_assoc _ _ _)
  · refine List.Perm.trans ?_ (hX'.append t2).symm
    refine List.perm_append_comm.trans ?_
    rw [List.append_assoc, List.append_assoc]
    exact List.Perm.append_left _ (List.perm_append_comm_assoc _ _ _)
section LIFT
variable {l : Launch} {y : MethodName} {cy : Cond} {rm : Room} {D : va_G} {E : Nat → ClassId} {B : Nat} {Z : ZT} {av : List Value} {cx cx' rx Xw Xw' P P' T T1 T2 : va_W} {rv : Option Value}
theorem MW.liftX (h : MW l y cy rm D E av (cx ++ P) rv (cx' ++ P')) (is : List Nat) (h1 : is.map (fun i => Xw[i]?) = (cx ++ rx).map some) (hp : is.Perm (List.range Xw.length)) (h2 : is.map (fun i => Xw'[i]?) = (cx' ++ rx).map some) (hl : Xw'.length = Xw.length) (t1 : T1.Perm (P ++ T)) (t2 : T2.Perm (P' ++ T)) : MWs l y cy rm D E B Z av (Xw ++ T1) rv (Xw' ++ T2) :=
  have p := perm_call is h1 hp h2 hl t1 t2
  MW.lift h p.1 p.2
theorem MWs.liftX (h : MWs l y cy rm D E B Z av (cx ++ P) rv (cx' ++ P')) (is : List Nat) (h1 : is.map (fun i => Xw[i]?) = (cx ++ rx).map some) (hp : is.Perm (List.range Xw.length)) (h2 : is.map (fun i => Xw'[i]?) = (cx' ++ rx).map some) (hl : Xw'.length = Xw.length) (t1 : T1.Perm (P ++ T)) (t2 : T2.Perm (P' ++ T)) : MWs l y cy rm D E B Z av (Xw ++ T1) rv (Xw' ++ T2) :=
  have p := perm_call is h1 hp h2 hl t1 t2
  MWs.lift h p.1 p.2
theorem MW.liftY (h : MW l y cy rm D E av cx rv cx') (is : List Nat) (h1 : is.map (fun i => Xw[i]?) = (cx ++ rx).map some) (hp : is.Perm (List.range Xw.length)) (h2 : is.map (fun i => Xw'[i]?) = (cx' ++ rx).map some) (hl : Xw'.length = Xw.length) : MWs l y cy rm D E B Z av (Xw ++ T1) rv (Xw' ++ T1) := by
  have p := perm_call (P := []) (P' := []) (T := T1) (T1 := T1) (T2 := T1) is h1 hp h2 hl (List.Perm.refl _) (List.Perm.refl _)
  rw [List.append_nil, List.append_nil] at p
  exact MW.lift h p.1 p.2
theorem MR.liftY (h : MR l y cy rm D E av cx rv) (is : List Nat) (h1 : is.map (fun i => Xw[i]?) = (cx ++ rx).map some) (hp : is.Perm (List.range Xw.length)) : MWs l y cy rm D E B Z av (Xw ++ T1) rv (Xw ++ T1) := by
  have p := perm_call (P := []) (P' := []) (T := T1) (T1 := T1) (T2 := T1) is h1 hp h1 rfl (List.Perm.refl _) (List.Perm.refl _)
  rw [List.append_nil] at p
  exact MR.lift h p.1
end LIFT
