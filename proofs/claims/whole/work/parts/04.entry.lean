/-! a method by its body: the end is a hypothesis -/
theorem MRi {l : Launch} {y : MethodName} {cc : ByteArray} {nL : Nat} {rm : Room} {D : va_G} {E : Nat → ClassId} {av : List Value} {wc : va_W} {x : Int} (hy : plainName y.cls = true) (hlen : (lg_sl av).length ≤ nL)
    (body : ∀ (p : Program) (e : Env) (s : State) (m : MethodId) (args : Array Value) (below : List Frame) (meth : Method) (c : Code) (Q : State → Prop), CallFix p m c cc nL s args (.code y cc nL (some .int) :: TT) y.cls → KK D E s → va_P D vwCl wc s.heap → (∀ (pc : Nat) (ls : Array Slot), decode cc pc = .ok (.ireturn, 1) → W p l e rm s m args below meth c s.heap [] 0 0 Q (F0 m pc ls [.int (z4 x)])) → ∀ ls : Array Slot, lv_has ls nL (lv_args 0 av) →
      W p l e rm s m args below meth c s.heap [] 0 0 Q (F0 m 0 ls [])) : MR l y (.code y cc nL (some .int)) rm D E av wc (some (.int (z4 x))) :=
  MR_of hy hlen fun p e s m args below meth c X hr hk hK hP ls hl => body p e s m args below meth c _ X hK hP (fun _ _ d => m_iretR X hr hk d) ls hl
theorem MRz {l : Launch} {y : MethodName} {cc : ByteArray} {nL : Nat} {rm : Room} {D : va_G} {E : Nat → ClassId} {av : List Value} {wc : va_W} {x : Int} (hy : plainName y.cls = true) (hlen : (lg_sl av).length ≤ nL)
    (body : ∀ (p : Program) (e : Env) (s : State) (m : MethodId) (args : Array Value) (below : List Frame) (meth : Method) (c : Code) (Q : State → Prop), CallFix p m c cc nL s args (.code y cc nL (some .boolean) :: TT) y.cls → KK D E s → va_P D vwCl wc s.heap → (∀ (pc : Nat) (ls : Array Slot), (x = 0 ∨ x = 1) → decode cc pc = .ok (.ireturn, 1) → W p l e rm s m args below meth c s.heap [] 0 0 Q (F0 m pc ls [.int (z4 x)])) → ∀ ls : Array Slot, lv_has ls nL (lv_args 0 av) →
      W p l e rm s m args below meth c s.heap [] 0 0 Q (F0 m 0 ls [])) : MR l y (.code y cc nL (some .boolean)) rm D E av wc (some (.int (z4 x))) :=
  MR_of hy hlen fun p e s m args below meth c X hr hk hK hP ls hl => body p e s m args below meth c _ X hK hP (fun _ _ h d => m_zretR X hr hk h d) ls hl
theorem MRl {l : Launch} {y : MethodName} {cc : ByteArray} {nL : Nat} {rm : Room} {D : va_G} {E : Nat → ClassId} {av : List Value} {wc : va_W} {x : Int} (hy : plainName y.cls = true) (hlen : (lg_sl av).length ≤ nL)
    (body : ∀ (p : Program) (e : Env) (s : State) (m : MethodId) (args : Array Value) (below : List Frame) (meth : Method) (c : Code) (Q : State → Prop), CallFix p m c cc nL s args (.code y cc nL (some .long) :: TT) y.cls → KK D E s → va_P D vwCl wc s.heap → (∀ (pc : Nat) (ls : Array Slot), decode cc pc = .ok (.lreturn, 1) → W p l e rm s m args below meth c s.heap [] 0 0 Q (F0 m pc ls [.long (z8 x)])) → ∀ ls : Array Slot, lv_has ls nL (lv_args 0 av) →
      W p l e rm s m args below meth c s.heap [] 0 0 Q (F0 m 0 ls [])) : MR l y (.code y cc nL (some .long)) rm D E av wc (some (.long (z8 x))) :=
  MR_of hy hlen fun p e s m args below meth c X hr hk hK hP ls hl => body p e s m args below meth c _ X hK hP (fun _ _ d => m_lretR X hr hk d) ls hl
theorem MWi {l : Launch} {y : MethodName} {cc : ByteArray} {nL : Nat} {rm : Room} {D : va_G} {E : Nat → ClassId} {av : List Value} {wc w1 : va_W} {x : Int} (hy : plainName y.cls = true) (hlen : (lg_sl av).length ≤ nL)
    (body : ∀ (p : Program) (e : Env) (s : State) (m : MethodId) (args : Array Value) (below : List Frame) (meth : Method) (c : Code) (A : Nat → Prop) (Q : State → Prop), CallFix p m c cc nL s args (.code y cc nL (some .int) :: TT) y.cls → KK D E s → va_P D vwCl wc s.heap → va_D A wc → (∀ q, s.heap.size ≤ q → A q) →
      (∀ (pc : Nat) (ls : Array Slot) (H : Heap) (locs : List Loc), va_P D vwCl w1 H → va_D A w1 → va_S A s.heap H locs → decode cc pc = .ok (.ireturn, 1) → W p l e rm s m args below meth c H locs 0 0 Q (F0 m pc ls [.int (z4 x)])) → ∀ ls : Array Slot, lv_has ls nL (lv_args 0 av) →
      W p l e rm s m args below meth c s.heap [] 0 0 Q (F0 m 0 ls [])) : MW l y (.code y cc nL (some .int)) rm D E av wc (some (.int (z4 x))) w1 :=
  MW_of hy hlen fun p e s m args below meth c A X hr hk hK hP hD hA ls hl => body p e s m args below meth c A _ X hK hP hD hA (fun _ _ _ _ h1 h2 h3 d => m_iretW X hr hk hK h1 h2 h3 d) ls hl
theorem MWz {l : Launch} {y : MethodName} {cc : ByteArray} {nL : Nat} {rm : Room} {D : va_G} {E : Nat → ClassId} {av : List Value} {wc w1 : va_W} {x : Int} (hy : plainName y.cls = true) (hlen : (lg_sl av).length ≤ nL)
    (body : ∀ (p : Program) (e : Env) (s : State) (m : MethodId) (args : Array Value) (below : List Frame) (meth : Method) (c : Code) (A : Nat → Prop) (Q : State → Prop), CallFix p m c cc nL s args (.code y cc nL (some .boolean) :: TT) y.cls → KK D E s → va_P D vwCl wc s.heap → va_D A wc → (∀ q, s.heap.size ≤ q → A q) →
      (∀ (pc : Nat) (ls : Array Slot) (H : Heap) (locs : List Loc), (x = 0 ∨ x = 1) → va_P D vwCl w1 H → va_D A w1 → va_S A s.heap H locs → decode cc pc = .ok (.ireturn, 1) → W p l e rm s m args below meth c H locs 0 0 Q (F0 m pc ls [.int (z4 x)])) → ∀ ls : Array Slot, lv_has ls nL (lv_args 0 av) →
      W p l e rm s m args below meth c s.heap [] 0 0 Q (F0 m 0 ls [])) : MW l y (.code y cc nL (some .boolean)) rm D E av wc (some (.int (z4 x))) w1 :=
  MW_of hy hlen fun p e s m args below meth c A X hr hk hK hP hD hA ls hl => body p e s m args below meth c A _ X hK hP hD hA (fun _ _ _ _ h h1 h2 h3 d => m_zretW X hr hk hK h1 h2 h3 h d) ls hl
theorem MWv {l : Launch} {y : MethodName} {cc : ByteArray} {nL : Nat} {rm : Room} {D : va_G} {E : Nat → ClassId} {av : List Value} {wc w1 : va_W} (hy : plainName y.cls = true) (hlen : (lg_sl av).length ≤ nL)
    (body : ∀ (p : Program) (e : Env) (s : State) (m : MethodId) (args : Array Value) (below : List Frame) (meth : Method) (c : Code) (A : Nat → Prop) (Q : State → Prop), CallFix p m c cc nL s args (.code y cc nL none :: TT) y.cls → KK D E s → va_P D vwCl wc s.heap → va_D A wc → (∀ q, s.heap.size ≤ q → A q) →
      (∀ (pc : Nat) (ls : Array Slot) (H : Heap) (locs : List Loc), va_P D vwCl w1 H → va_D A w1 → va_S A s.heap H locs → decode cc pc = .ok (.return_, 1) → W p l e rm s m args below meth c H locs 0 0 Q (F0 m pc ls [])) → ∀ ls : Array Slot, lv_has ls nL (lv_args 0 av) →
      W p l e rm s m args below meth c s.heap [] 0 0 Q (F0 m 0 ls [])) : MW l y (.code y cc nL none) rm D E av wc none w1 :=
  MW_of hy hlen fun p e s m args below meth c A X hr hk hK hP hD hA ls hl => body p e s m args below meth c A _ X hK hP hD hA (fun _ _ _ _ h1 h2 h3 d => m_vretW X hr hk hK h1 h2 h3 d) ls hl
section MORE
variable {p : Program} {l : Launch} {e : Env} {R : Room} {s : State} {m : MethodId} {args : Array Value} {below : List Frame} {meth : Method} {c : Code} {H : Heap} {locs : List Loc} {cells slots : Nat} {Q : State → Prop}
variable {cc : ByteArray} {pc nL : Nat} {ls : Array Slot} {rest : List Value} {D : va_G} {E : Nat → ClassId} {A : Nat → Prop} {a : Nat} {ws : va_W} {H0 : Heap} {cw : Cond} {own : String}
theorem lc_eq {x y : Int} (h : r8 x ∧ r8 y) : lg_cmp (z8 x) (z8 y) = 0 ↔ x = y := by
  unfold lg_cmp
  by_cases h1 : z8 x > z8 y
  · rw [if_pos h1]
    have h2 : y < x := (z8_lt h.2 h.1).mp h1
    exact ⟨fun q => absurd q (by decide), fun q => by omega⟩
  · rw [if_neg h1]
    by_cases h3 : x = y
    · subst h3; simp
    · rw [if_neg (fun q => h3 ((z8_eq h.1 h.2).mp q))]
      exact ⟨fun q => absurd q (by decide), fun q => absurd q h3⟩
theorem m_lcmp_eq (X : CallFix p m c cc nL s args (cw :: TT) own) {x y off : Int} {tgt : Nat} (h : r8 x ∧ r8 y) (d1 : decode cc pc = .ok (.lcmp, 1)) (d : decode cc (pc + 1) = .ok (.ifCond .eq off, 3)) (ht : ((pc + 1 : Nat) : Int) + off = (tgt : Int)) (kt : x = y → W p l e R s m args below meth c H locs cells slots Q (F0 m tgt ls rest)) (kf : ¬ x = y → W p l e R s m args below meth c H locs cells slots Q (F0 m (pc + 1 + 3) ls rest)) : W p l e R s m args below meth c H locs cells slots Q (F0 m pc ls (.long (z8 y) :: .long (z8 x) :: rest)) :=
  W.lcmp X.1 X.2.1 d1 (lv_if_eq X.1 X.2.1 d ht (fun q => kt ((lc_eq h).mp q)) (fun q => kf (fun z => q ((lc_eq h).mpr z))))
theorem m_lcmp_ne (X : CallFix p m c cc nL s args (cw :: TT) own) {x y off : Int} {tgt : Nat} (h : r8 x ∧ r8 y) (d1 : decode cc pc = .ok (.lcmp, 1)) (d : decode cc (pc + 1) = .ok (.ifCond .ne off, 3)) (ht : ((pc + 1 : Nat) : Int) + off = (tgt : Int)) (kt : ¬ x = y → W p l e R s m args below meth c H locs cells slots Q (F0 m tgt ls rest)) (kf : x = y → W p l e R s m args below meth c H locs cells slots Q (F0 m (pc + 1 + 3) ls rest)) : W p l e R s m args below meth c H locs cells slots Q (F0 m pc ls (.long (z8 y) :: .long (z8 x) :: rest)) :=
  W.lcmp X.1 X.2.1 d1 (lv_if_ne X.1 X.2.1 d ht (fun q => kt (fun z => q ((lc_eq h).mpr z))) (fun q => kf ((lc_eq h).mp q)))
theorem m_swIn (X : CallFix p m c cc nL s args (cw :: TT) own) {dflt lo hi off : Int} {offs : Array Int} {len tgt : Nat} {x : Int} (hx : r4 x) (j : Int) (hj : x = j) (hlo : lo ≤ j ∧ j ≤ hi) (d : decode cc pc = .ok (.tableswitch dflt lo hi offs, len)) (ho : offs[(j - lo).toNat]? = some off) (ht : (pc : Int) + off = (tgt : Int)) (k : W p l e R s m args below meth c H locs cells slots Q (F0 m tgt ls rest)) : W p l e R s m args below meth c H locs cells slots Q (F0 m pc ls (.int (z4 x) :: rest)) := by
  subst hj
  exact lv_tableIn X.1 X.2.1 d (by rw [z4_toInt hx]; omega) (by rw [z4_toInt hx]; omega) (by rw [z4_toInt hx]; exact ho) ht k
theorem m_swOut (X : CallFix p m c cc nL s args (cw :: TT) own) {dflt lo hi : Int} {offs : Array Int} {len tgt : Nat} {x : Int} (hx : r4 x) (hj : x < lo ∨ hi < x) (d : decode cc pc = .ok (.tableswitch dflt lo hi offs, len)) (ht : (pc : Int) + dflt = (tgt : Int)) (k : W p l e R s m args below meth c H locs cells slots Q (F0 m tgt ls rest)) : W p l e R s m args below meth c H locs cells slots Q (F0 m pc ls (.int (z4 x) :: rest)) :=
  lv_tableOut X.1 X.2.1 d (by rw [z4_toInt hx]; exact hj) ht k
theorem m_alen (X : CallFix p m c cc nL s args (cw :: TT) own) (hK : KK D E s) (hP : va_P D vwCl ws H) (q0 : Nat) {n : Nat} {f : Nat → Int} (ha : ws[q0]? = some (a, .inl (E 0, n, .inl (A4 f)))) (d : decode cc pc = .ok (.arraylength, 1)) (k : W p l e R s m args below meth c H locs cells slots Q (F0 m (pc + 1) ls (.int (z4 (n : Int)) :: rest))) : W p l e R s m args below meth c H locs cells slots Q (F0 m pc ls (.ref a :: rest)) :=
  va_alen (tys := [(E 0, .int), (E 1, .boolean), (E 2, .long), (E 3, .object "RunWatch$Sheet"), (E 4, .array .int)]) (ty := .int) X.1 X.2.1 hK.1 hP q0 0 ha rfl (Int32.ofInt_eq_ofNat).symm d k
end MORE
