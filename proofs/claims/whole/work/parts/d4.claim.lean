/-! THE CLAIM OUT OF ONE WALK OF THE LAW'S BODY. Your part is whole_start (and what it stands on); all else here is the same for every law, but numbers. -/
def R_law : String := "RunWatchLaw"
def lw_P (b : Addr) (xs : List Int32) (args : Array Value) (s : State) : Prop := args = #[.ref b] ∧ s.IntsAt b xs ∧ xs.length ≤ 1536 ∧ (Jvm.Cond.and given_1 narrow_1).before args s = true
def lw_Q (_ : Array Value) (s : State) (o : Outcome) (t : State) : Prop := o = .returned (some (.int 1)) ∧ Framed s o t [] 600000 7302250
def lw_Z (below : List Frame) (a : Array Value) (s : State) : State → Prop := fun t => ∃ o, t.status = .running ∧ Ended t below o ∧ lw_Q a s o t
/-- the law's own end, with 1 on the stack, nothing written that was there before, its room as the claim has it -/
theorem lw_ret {p : Program} {l : Launch} {e : Env} {s : State} {m : MethodId} {below : List Frame} {meth : Method} {c : Code} {b : Nat} (hx : p.tables.exec = Jvm.exec) (hb : c.code = code) (hr : meth.sig.returnType = ret) (hlocks : meth.locks = false) {pc : Nat} {H : Heap} {ls : Array Slot} (hdg : decode code pc = .ok (.ireturn, 1)) : W p l e room_1 s m #[Value.ref b] below meth c H [] 600000 7302250 (lw_Z below #[Value.ref b] s) (F0 m pc ls [.int 1]) := by
  intro T hT X
  obtain ⟨fs, hret, hrun, hended, hW, hframe⟩ := X.leave (v := some (.int 1)) (hlocks := hlocks) (fun h => by rw [hr] at h; cases h)
  have hmeth' : T.vm.method? m = some meth := X.method'
  refine ⟨T.setFrames fs, ?_, .returned (some (.int 1)), hrun, hended, rfl, ⟨_, rfl⟩, hW, hframe⟩
  jvm_step X.here [X.here.top, hx, hb, hdg, hmeth', hr, ret, narrow_b1]
  (try refine ⟨rfl, ?_⟩); (try refine ⟨rfl, ?_⟩)
  first | (intro acts; rw [hret _ acts rfl rfl rfl]) | rw [hret _ _ rfl rfl rfl]
  exact Steps.refl _
/-- what holds at the law's entry: the machine, the code, the tables' words (any of lw_tbl by 'hts w (by decide +kernel)'), the script of L ints xs at the cell b, what the Statement gives of the start (any of its parts by flat_of_before) -/
def lw_At (p : Program) (s : State) (m : MethodId) (meth : Method) (c : Code) (b L : Nat) (xs : Nat → Int32) : Prop :=
  p.tables.exec = Jvm.exec ∧ c.code = code ∧ meth.sig.returnType = ret ∧ c.maxLocals = 4 ∧ s.vm.findClass R_law = some m.cls ∧ (∀ w ∈ lw_tbl, w.before #[Value.ref b] s = true) ∧ va_X b L xs s s.heap ∧ b < s.heap.size ∧ meth.locks = false ∧ (Jvm.Cond.and given_1 narrow_1).before #[Value.ref b] s = true
set_option maxHeartbeats 4000000 in
theorem law_loop {p : Program} {l : Launch} {e : Env} {s : State} {m : MethodId} {below : List Frame} {meth : Method} {c_ : Code} {b Ls : Nat} {xs : Nat → Int32} {D : va_G} {E : Nat → ClassId} {Z : ZT} {n : Nat} {ad : Nat → Nat} {ah ai : Nat → Nat → Nat} {Lp : List Nat} {am : Nat → Nat} {cw : Cond} (X : CallFix p m c_ code 4 s #[Value.ref b] (cw :: TT) RLaw) (hr : meth.sig.returnType = ret) (hlocks : meth.locks = false) (hX : va_X b Ls xs s s.heap) (hbl : b < s.heap.size) (hLs : Ls ≤ 1536) (hK : KK D E s) (hF : SF s.heap.size Z s s.heap) (hn : 1000 ≤ n) : ∀ (f : Nat) (i : Int), 0 ≤ i → i ≤ 10000 → (Ls : Int) < i + 3 * (f : Int) + 3 → LG p l e s m below meth c_ b (lw_Z below #[Value.ref b] s) D E n ad ah ai Lp am i i.toNat 18 := by
  intro f
  induction f with
  | zero =>
    intro i h0 h1 h2 c mm H locs ls hR hP hD hS hl
    have hbA : ¬ (fun q : Nat => s.heap.size ≤ q) b := Nat.not_le.mpr hbl
    refine lv_iload_n X.1 X.2.1 d_law_18 rfl (lv_at hl 0 rfl) ?_
    refine lv_aload_n X.1 X.2.1 d_law_19 rfl (lv_at hl 3 rfl) ?_
    refine va_slen X.1 X.2.1 hX hbl hbA hS d_law_20 ?_
    rw [show Int32.ofNat Ls = z4 (Ls : Int) from (Int32.ofInt_eq_ofNat).symm]
    refine m_iconst X d_law_21 ?_
    refine m_isub X d_law_22 ?_
    refine m_icmp_gt X ⟨by omega, by omega⟩ d_law_23 (tgt := 614) (by decide) (fun h => ?_) (fun h => absurd (by omega) h)
    refine m_iconst X d_law_614 ?_
    refine va_forget (fun q hq => hS.2.2 q hq) ?_
    refine W.widen (k := 600000) (n := 7302250) (Nat.le_of_ble_eq_true rfl) (Nat.le_of_ble_eq_true rfl) ?_
    exact lw_ret X.1 X.2.1 hr hlocks d_law_615
  | succ f ih =>
    intro i h0 h1 h2 c mm H locs ls hR hP hD hS hl
    have hbA : ¬ (fun q : Nat => s.heap.size ≤ q) b := Nat.not_le.mpr hbl
    refine lv_iload_n X.1 X.2.1 d_law_18 rfl (lv_at hl 0 rfl) ?_
    refine lv_aload_n X.1 X.2.1 d_law_19 rfl (lv_at hl 3 rfl) ?_
    refine va_slen X.1 X.2.1 hX hbl hbA hS d_law_20 ?_
    rw [show Int32.ofNat Ls = z4 (Ls : Int) from (Int32.ofInt_eq_ofNat).symm]
    refine m_iconst X d_law_21 ?_
    refine m_isub X d_law_22 ?_
    refine m_icmp_gt X ⟨by omega, by omega⟩ d_law_23 (tgt := 614) (by decide) (fun h => ?_) (fun h => ?_)
    · refine m_iconst X d_law_614 ?_
      refine va_forget (fun q hq => hS.2.2 q hq) ?_
      refine W.widen (k := 600000) (n := 7302250) (Nat.le_of_ble_eq_true rfl) (Nat.le_of_ble_eq_true rfl) ?_
      exact lw_ret X.1 X.2.1 hr hlocks d_law_615
    · have hi : 0 ≤ i ∧ i + 2 < (Ls : Int) := by omega
      have hk : LG p l e s m below meth c_ b (lw_Z below #[Value.ref b] s) D E n ad ah ai Lp am i (i.toNat + 1) 608 := by
        intro c mm H locs ls hR hP hD hS hl
        refine m_iinc X 0 [(3, .int (z4 (i + 3))), (2, .ref (am 0)), (1, .ref (ad 0)), (0, .ref b)] d_law_608 hl rfl (by decide) rfl (fun ls hl => ?_)
        refine lv_goto (tgt := 18) X.1 X.2.1 d_law_611 (by decide) ?_
        exact ih (i + 3) (by omega) (by omega) (by omega) c mm H locs ls (hR.mono (by omega)) hP hD hS hl
      refine lv_aload_n X.1 X.2.1 d_law_26 rfl (lv_at hl 3 rfl) ?_
      refine lv_iload_n X.1 X.2.1 d_law_27 rfl (lv_at hl 0 rfl) ?_
      refine m_sld X hX hbl hbA hLs hS (by omega) d_law_28 ?_
      refine m_bipush X d_law_29 (by decide) ?_
      refine lv_iand X.1 X.2.1 d_law_31 ?_
      obtain ⟨t, ht, hr4⟩ : ∃ t : Int, z4 (sv xs i) &&& z4 31 = z4 t ∧ r4 t := ⟨(z4 (sv xs i) &&& z4 31).toInt, (z4_back _).symm, by have := Int32.le_toInt (z4 (sv xs i) &&& z4 31); omega, by have := Int32.toInt_lt (z4 (sv xs i) &&& z4 31); omega⟩
      rw [ht]
      by_cases t0 : t = 0
      · exact m_swIn X hr4 0 t0 (by decide) d_law_32 rfl (by decide) (law_type X hX hbl hLs hK hF (u := i.toNat) (by omega) hn hi hk c mm H locs ls hR hP hD hS hl)
      by_cases t1 : t = 1
      · exact m_swIn X hr4 1 t1 (by decide) d_law_32 rfl (by decide) (law_clear X hX hbl hLs hK hF (u := i.toNat) (by omega) hn hi hk c mm H locs ls hR hP hD hS hl)
      by_cases t2 : t = 2
      · exact m_swIn X hr4 2 t2 (by decide) d_law_32 rfl (by decide) (law_tells X hX hbl hLs hK hF (u := i.toNat) (by omega) hn hi hk c mm H locs ls hR hP hD hS hl)
      by_cases t3 : t = 3
      · exact m_swIn X hr4 3 t3 (by decide) d_law_32 rfl (by decide) (law_comes X hX hbl hLs hK hF (u := i.toNat) (by omega) hn hi hk c mm H locs ls hR hP hD hS hl)
      by_cases t4 : t = 4
      · exact m_swIn X hr4 4 t4 (by decide) d_law_32 rfl (by decide) (law_goes X hX hbl hLs hK hF (u := i.toNat) (by omega) hn hi hk c mm H locs ls hR hP hD hS hl)
      by_cases t5 : t = 5
      · exact m_swIn X hr4 5 t5 (by decide) d_law_32 rfl (by decide) (law_becomes X hX hbl hLs hK hF (u := i.toNat) (by omega) hn hi hk c mm H locs ls hR hP hD hS hl)
      by_cases t6 : t = 6
      · exact m_swIn X hr4 6 t6 (by decide) d_law_32 rfl (by decide) (law_undo X hX hbl hLs hK hF (u := i.toNat) (by omega) hn hi hk c mm H locs ls hR hP hD hS hl)
      by_cases t7 : t = 7
      · exact m_swIn X hr4 7 t7 (by decide) d_law_32 rfl (by decide) (law_rule X hX hbl hLs hK hF (u := i.toNat) (by omega) hn hi hk c mm H locs ls hR hP hD hS hl)
      by_cases t8 : t = 8
      · exact m_swIn X hr4 8 t8 (by decide) d_law_32 rfl (by decide) (law_chance X hX hbl hLs hK hF (u := i.toNat) (by omega) hn hi hk c mm H locs ls hR hP hD hS hl)
      by_cases t9 : t = 9
      · exact m_swIn X hr4 9 t9 (by decide) d_law_32 rfl (by decide) (law_row X hX hbl hLs hK hF (u := i.toNat) (by omega) hn hi hk c mm H locs ls hR hP hD hS hl)
      by_cases t10 : t = 10
      · exact m_swIn X hr4 10 t10 (by decide) d_law_32 rfl (by decide) (law_alarm X hX hbl hLs hK hF (u := i.toNat) (by omega) hn hi hk c mm H locs ls hR hP hD hS hl)
      by_cases t11 : t = 11
      · exact m_swIn X hr4 11 t11 (by decide) d_law_32 rfl (by decide) (law_signal X hX hbl hLs hK hF (u := i.toNat) (by omega) hn hi hk c mm H locs ls hR hP hD hS hl)
      by_cases t12 : t = 12
      · exact m_swIn X hr4 12 t12 (by decide) d_law_32 rfl (by decide) (law_step X hX hbl hLs hK hF (u := i.toNat) (by omega) hn hi hk c mm H locs ls hR hP hD hS hl)
      by_cases t13 : t = 13
      · exact m_swIn X hr4 13 t13 (by decide) d_law_32 rfl (by decide) (law_soonest X hX hbl hLs hK hF (u := i.toNat) (by omega) hn hi hk c mm H locs ls hR hP hD hS hl)
      by_cases t14 : t = 14
      · exact m_swIn X hr4 14 t14 (by decide) d_law_32 rfl (by decide) (law_odds X hX hbl hLs hK hF (u := i.toNat) (by omega) hn hi hk c mm H locs ls hR hP hD hS hl)
      by_cases t15 : t = 15
      · exact m_swIn X hr4 15 t15 (by decide) d_law_32 rfl (by decide) (law_mean X hX hbl hLs hK hF (u := i.toNat) (by omega) hn hi hk c mm H locs ls hR hP hD hS hl)
      by_cases t16 : t = 16
      · exact m_swIn X hr4 16 t16 (by decide) d_law_32 rfl (by decide) (law_same X hX hbl hLs hK hF (u := i.toNat) (by omega) hn hi hk c mm H locs ls hR hP hD hS hl)
      by_cases t17 : t = 17
      · exact m_swIn X hr4 17 t17 (by decide) d_law_32 rfl (by decide) (law_keep X hX hbl hLs hK hF (u := i.toNat) (by omega) hn hi hk c mm H locs ls hR hP hD hS hl)
      by_cases t18 : t = 18
      · exact m_swIn X hr4 18 t18 (by decide) d_law_32 rfl (by decide) (law_back X hX hbl hLs hK hF (u := i.toNat) (by omega) hn hi hk c mm H locs ls hR hP hD hS hl)
      by_cases t19 : t = 19
      · exact m_swIn X hr4 19 t19 (by decide) d_law_32 rfl (by decide) (law_count X hX hbl hLs hK hF (u := i.toNat) (by omega) hn hi hk c mm H locs ls hR hP hD hS hl)
      exact m_swOut X hr4 (by omega) d_law_32 (by decide) (hk c mm H locs ls (hR.mono (by omega)) hP hD hS hl)
set_option maxHeartbeats 4000000 in
set_option maxRecDepth 100000 in
/-- THE LAW, from its entry -/
theorem whole_start {p : Program} {e : Env} {s : State} {m : MethodId} {below : List Frame} {meth : Method} {c : Code} (l : Launch) (hflags : l.flags = flags0) {b L : Nat} {xs : Nat → Int32} (hL : L ≤ 1536) (C0 : lw_At p s m meth c b L xs) : W p l e room_1 s m #[Value.ref b] below meth c s.heap [] 0 0 (lw_Z below #[Value.ref b] s) (entryFrame m ([Value.ref b] : List Value).toArray 4) := by
  obtain ⟨hx, hb, hr, hml, hown, hts, hX, hbl, hlocks, hgv⟩ := id C0
  obtain ⟨Z, hF⟩ := law_SF hgv hts
  obtain ⟨D, E, hK⟩ := law_KK hts
  have hin : Cond.initialized "RunWatchLaw" ∈ lw_tbl := List.mem_of_getElem? (i := 67) (by decide +kernel)
  have X : CallFix p m c code 4 s #[Value.ref b] (Cond.initialized "RunWatchLaw" :: TT) RLaw := ⟨hx, hb, hml, hown, fun w hw => by
    rcases List.mem_cons.mp hw with rfl | h
    · exact hts _ hin
    · exact hts w (List.mem_filter.mp h).1⟩
  have hA : ∀ q : Nat, s.heap.size ≤ q → (fun q : Nat => s.heap.size ≤ q) q := fun _ h => h
  have hAB : ∀ q : Nat, (fun q : Nat => s.heap.size ≤ q) q → s.heap.size ≤ q := fun _ h => h
  have hS : va_S (fun q : Nat => s.heap.size ≤ q) s.heap s.heap [] := va_S.rf
  have hP : va_P D vwCl [] s.heap := fun k q h => by simp at h
  have hD : va_D (fun q : Nat => s.heap.size ≤ q) [] := ⟨fun i j p q h => by simp at h, fun k q h => by simp at h⟩
  have hl := lv_entry ([.ref b]) (n := 4) (Nat.le_of_ble_eq_true rfl)
  rw [lg_entry_eq]
  generalize (lg_sl ([.ref b]) ++ List.replicate (4 - (lg_sl ([.ref b])).length) Slot.unset).toArray = ls at hl ⊢
  have hl : lv_has ls 4 [(0, .ref b)] := hl
  refine m_newO X hK hP hD hS hA cl_X11 iT_X11 tyX11 tyX11_ok ck__law_7 mk_X11 in_X11 [.null, .null, .null, .null, .null, .null, .null, .null, .null, .null, .null] df_X11 (Nat.le_of_ble_eq_true rfl) (Nat.le_of_ble_eq_true rfl) d_law_0 (fun q0 H hP hD hS => ?_)
  refine lv_dup X.1 X.2.1 d_law_3 rfl ?_
  refine m_cI X hK hF hAB (Nat.le_refl _) hP hD hS hA (i_X11 2000 (by omega)) il__law_9 im_X11 in_X11 co_X11_init rfl dy_X11_init rfl rfl ⟨Nat.le_of_ble_eq_true rfl, Nat.le_of_ble_eq_true rfl⟩ hl.1 (Nat.le_of_ble_eq_true rfl) d_law_4 (Nat.le_of_ble_eq_true rfl) (Nat.le_of_ble_eq_true rfl) (fun w1 H1 locs1 hw hP1 hD1 hS1 => ?_)
  obtain ⟨ad, ah, ai, Lp, cc, hf, hI, rfl⟩ := hw
  subst hf
  have hP1 : va_P D vwCl (WC E ad ah ai Lp cc) H1 := hP1
  have hD1 : va_D (fun q : Nat => s.heap.size ≤ q) (WC E ad ah ai Lp cc) := hD1
  refine lv_astore_n (lv' := [(1, .ref (ad 0)), (0, .ref b)]) X.1 X.2.1 d_law_7 rfl hl (by decide) rfl (fun ls hl => ?_)
  refine m_newO X hK hP1 hD1 hS1 hA cl_X12 iT_X12 tyX12 tyX12_ok ck__law_10 mk_X12 in_X12 [.null, .null, .null, .int (z4 0), .null, .null, .null, .int (z4 0), .int (z4 0), .int (z4 0), .int (z4 0), .int (z4 0), .int (z4 0), .int (z4 0), .int (z4 0), .null, .null, .null, .null, .null, .null, .null, .null, .int (z4 0), .null, .null, .int (z4 0), .null, .null, .null, .int (z4 0), .null, .null, .null, .null] df_X12 (Nat.le_of_ble_eq_true rfl) (Nat.le_of_ble_eq_true rfl) d_law_8 (fun q1 H hP hD hS => ?_)
  refine lv_dup X.1 X.2.1 d_law_11 rfl ?_
  refine m_cI X hK hF hAB (Nat.le_refl _) hP hD hS hA (i_X12 2000 (by omega)) il__law_12 im_X12 in_X12 co_X12_init rfl dy_X12_init rfl rfl ⟨Nat.le_of_ble_eq_true rfl, Nat.le_of_ble_eq_true rfl⟩ hl.1 (Nat.le_of_ble_eq_true rfl) d_law_12 (Nat.le_of_ble_eq_true rfl) (Nat.le_of_ble_eq_true rfl) (fun w2 H2 locs2 hw hP2 hD2 hS2 => ?_)
  obtain ⟨am, mm, hf, hJ, rfl⟩ := hw
  subst hf
  refine lv_astore_n (lv' := [(2, .ref (am 0)), (1, .ref (ad 0)), (0, .ref b)]) X.1 X.2.1 d_law_15 rfl hl (by decide) rfl (fun ls hl => ?_)
  refine m_iconst X d_law_16 ?_
  refine lv_istore_n (lv' := [(3, .int (z4 0)), (2, .ref (am 0)), (1, .ref (ad 0)), (0, .ref b)]) X.1 X.2.1 d_law_17 rfl hl (by decide) rfl (fun ls hl => ?_)
  exact law_loop X hr hlocks hX hbl hL hK hF (by omega) 2000 0 (by omega) (by omega) (by omega) cc mm H2 locs2 ls (REL0 hI hJ) hP2 hD2 hS2 hl
set_option maxHeartbeats 4000000 in
theorem lw_walk (l : Launch) (hflags : l.flags = flags0) (b : Addr) (xs : List Int32) : MetFree l x (headSpec (Jvm.Cond.code x code maxLocals ret :: tables_1) room_1) (lw_P b xs) (fun _ _ _ _ _ => True) lw_Q := by
  refine MetFree.of_bodyS (code := code) (maxLocals := maxLocals) (ret := ret) (by decide) ?_ ?_
  · intro args s m h hn
    obtain ⟨meth, c, h1, h2, h3, h4, h5, h6, -, -⟩ := Cond.code_spec hn (atoms_spec (ws := Jvm.Cond.code x code maxLocals ret :: tables_1) h _ List.mem_cons_self)
    exact ⟨meth, c, h1, h2, h3, h4, h5, h6⟩
  · intro p e s m args below meth c s₁ B hml0 hP _
    obtain ⟨rfl, hx, hbd, hgv⟩ := hP
    obtain ⟨scr, harrAt, hlist, hof, hsmall⟩ := hx
    obtain ⟨hcb, hkn, -, -⟩ := State.arrayAt?_spec harrAt
    have hown : s.vm.findClass R_law = some m.cls := findClass_of_methodNamed B.named
    have hts0 : ∀ c ∈ (Jvm.Cond.code x code maxLocals ret :: tables_1), c.before #[Value.ref b] s = true := atoms_spec (ws := Jvm.Cond.code x code maxLocals ret :: tables_1) B.pre
    have hts : ∀ w ∈ lw_tbl, w.before #[Value.ref b] s = true := k2_hts_sels lw_privs (fun w hw => hts0 w (List.mem_cons_of_mem _ hw)) lw_privs_ok
    have hml : c.maxLocals = 4 := B.maxLocals_eq (hts0 _ List.mem_cons_self)
    have X₀ : Stand p l e room_1 s m #[Value.ref b] below meth c s₁ [] 0 0 := Stand.of_body B
    have hh0 : s₁.heap = s.heap := by rw [B.state]; rfl
    have hsz : scr.slots.size = xs.length := by rw [← Array.length_toList, hlist, List.length_map]
    have hval : ∀ j : Nat, j < xs.length → scr.slots[j]? = some (.int (xs.getD j 0)) := fun j hj => by
      rw [← Array.getElem?_toList, hlist]
      simp [hj]
    have hbl : b < s.heap.size := (Array.getElem?_eq_some_iff.mp hcb).1
    have hX : va_X b xs.length (fun j => xs.getD j 0) s s.heap := ⟨scr, hcb, hof, hkn, hsz, hval⟩
    have K : W p l e room_1 s m #[Value.ref b] below meth c s₁.heap [] 0 0 (lw_Z below #[Value.ref b] s) (entryFrame m ([Value.ref b] : List Value).toArray 4) := by
      rw [hh0]
      exact whole_start l hflags hbd ⟨B.exec, B.bytes, B.returns, hml, hown, hts, hX, hbl, B.notSynchronized, hgv⟩
    obtain ⟨t, a1, o, b1, b2, b3⟩ := K s₁ rfl X₀
    exact ⟨t, o, a1, b1, b2, b3⟩
theorem lw_pre_spec {args : Array Value} {s : State} (h : (Jvm.Cond.and given_1 narrow_1).before args s = true) (hr : rest_1_c.before args s = true) : ∃ (b : Addr) (xs : List Int32), lw_P b xs args s := by
  have hs := flat_of_before _ h
  have hq := flat_of_before _ hr
  have hc : (Cond.count 1).before args s = true := hs _ (by decide +kernel)
  have harr : (Cond.arrayOf (.arg 0) .int).before args s = true := hs _ (by decide +kernel)
  have hle : (Cond.le (.length (.arg 0)) (.int 1536)).before args s = true := hs _ (by decide +kernel)
  have hlen : (Cond.isInt (.length (.arg 0))).before args s = true := hq _ (by decide +kernel)
  have hall : (Cond.all (.arg 0) (.isInt (.elem (.arg 0) (.index 0)))).before args s = true := hq _ (by decide +kernel)
  obtain ⟨b, xs, hb, hx⟩ := State.ints_of_pre rfl harr hlen hall
  have hsm : xs.length < 2 ^ 31 := hx.choose_spec.2.2.2
  have hev : (Term.length (.arg 0)).eval args s none [] s = some (.int xs.length.toInt32) := hx.length_eval hb
  have hv := Cond.le_ints hev (show (Term.int 1536).eval args s none [] s = some (.int 1536) from rfl)
  have hd : xs.length.toInt32 ≤ 1536 := by
    simpa [Cond.before, Cond.holds, hv] using hle
  have hN : xs.length ≤ 1536 := (Int32.ofNat_le_ofNat hsm (by decide)).mp (show Int32.ofNat xs.length ≤ Int32.ofNat 1536 from hd)
  exact ⟨b, xs, Cond.one_arg hc (show args[0]? = some (.ref b) from hb), hx, hN, h⟩
theorem lw_comes (l : Launch) (hflags : l.flags = flags0) : Comes l x (Jvm.Cond.code x code maxLocals ret :: tables_1) room_1 (fun tb e args s => Calls_1 tb e args s ∧ rest_1 tb e args s ∧ Pre_1 tb e args s)
    (fun _ _ args s o t => lw_Q args s o t) := by
  intro p e ha hc hk s m args below hf hfit hheap happ hpre
  obtain ⟨b, xs, hP⟩ := lw_pre_spec hpre.2.2 hpre.2.1
  obtain ⟨k, o, h1, h2, h3, hQ⟩ := lw_walk l hflags b xs p e ha hc hk s m args below hf ((Spec.applies_iff_loose hf).mp happ).1 hP trivial
  exact ⟨k, o, h1, h2, h3, hQ⟩
theorem lw_frame {s t : State} {o : Outcome} {args : Array Value} (h : Framed s o t [] 600000 7302250) :
    Framed s o t (fieldLocs frame_1_writes args s ++ arrayLocs frame_1_arrays args s ++ staticLocs frame_1_statics s) 600000 7302250 := h
theorem lw_limb (L : Cond) (hL : ∀ (args : Array Value) (s t : State), L.after args s (.returned (some (.int 1))) t = true) :
    ArmFor flags0 classFile x code maxLocals ret World_1 tables_1 room_1 Calls_1 rest_1 Pre_1
      (fun tb e a s o t => postC L tb e a s o t ∧ Framed s o t (fieldLocs frame_1_writes a s ++ arrayLocs frame_1_arrays a s ++ staticLocs frame_1_statics s) 600000 7302250) := by
  intro l hflags _ _ p e ha hc hk s m args below hf hfit hheap happ hpre
  obtain ⟨k, o, h1, h2, h3, rfl, hF⟩ := lw_comes l hflags p e ha hc hk s m args below hf hfit hheap happ hpre
  exact ⟨k, _, h1, h2, h3, hL args s _, lw_frame hF⟩
theorem i_vc : Claimed_1_1 ∧ Claimed_1_2 := ⟨lw_limb limb_1_1 (fun args s t => by simp [limb_1_1, Cond.after, Cond.holds, Cond.value]), lw_limb limb_1_2 (fun args s t => Cond.after_iff.mpr (by
  first | (rw [show limb_1_2 = Cond.eq .result (.int 1) from rfl, Cond.eq_ints (x := 1) (y := 1) rfl rfl]; simp; done) | (simp [limb_1_2, Cond.value, Term.eval]; done)))⟩
