/-! numbers of the machine by whole numbers -/
def z4 (x : Int) : Int32 := Int32.ofInt x
def z8 (x : Int) : Int64 := Int64.ofInt x
abbrev r4 (x : Int) : Prop := -2147483648 ≤ x ∧ x < 2147483648
abbrev r8 (x : Int) : Prop := -9223372036854775808 ≤ x ∧ x < 9223372036854775808
def ck {α : Type} (p : Prop) [Decidable p] (x : Option α) : Option α := if p then x else none
theorem ck_some {α : Type} {p : Prop} [Decidable p] {x : Option α} {y : α} (h : ck p x = some y) : p ∧ x = some y := by
  unfold ck at h
  split at h
  · rename_i hp; exact ⟨hp, h⟩
  · cases h
theorem ck_pos {α : Type} {p : Prop} [Decidable p] {x : Option α} (h : p) : ck p x = x := if_pos h
theorem bd_some {α β : Type} {x : Option α} {f : α → Option β} {y : β} (h : x.bind f = some y) : ∃ a, x = some a ∧ f a = some y := by
  cases x with
  | none => cases h
  | some a => exact ⟨a, rfl, h⟩
/-- a loop: a step goes on, or ends -/
def lp_ {σ ρ : Type} (f : σ → Option (σ ⊕ ρ)) : Nat → σ → Option ρ
  | 0, _ => none
  | n + 1, s => (f s).bind fun o => match o with
    | .inl t => lp_ f n t
    | .inr r => some r
theorem lp_some {σ ρ : Type} {f : σ → Option (σ ⊕ ρ)} {n : Nat} {s : σ} {r : ρ} (h : lp_ f (n + 1) s = some r) : ∃ o, f s = some o ∧ (match o with
    | .inl t => lp_ f n t
    | .inr q => some q) = some r := bd_some h
theorem lp_zero {σ ρ : Type} {f : σ → Option (σ ⊕ ρ)} {s : σ} {r : ρ} (h : lp_ f 0 s = some r) : False := by cases h
theorem lp_go {σ ρ : Type} {f : σ → Option (σ ⊕ ρ)} {n : Nat} {s t : σ} (h : f s = some (.inl t)) : lp_ f (n + 1) s = lp_ f n t := by
  show (f s).bind _ = _
  rw [h]; rfl
theorem lp_end {σ ρ : Type} {f : σ → Option (σ ⊕ ρ)} {n : Nat} {s : σ} {r : ρ} (h : f s = some (.inr r)) : lp_ f (n + 1) s = some r := by
  show (f s).bind _ = _
  rw [h]; rfl
def up_ {α : Type} (f : Nat → α) (k : Nat) (x : α) : Nat → α := fun j => if j = k then x else f j
/-- what an int array holds -/
def A4 (f : Nat → Int) : Nat → Int32 := fun j => z4 (f j)
def A8 (f : Nat → Int) : Nat → Int64 := fun j => z8 (f j)
theorem z4_add (x y : Int) : z4 x + z4 y = z4 (x + y) := (Int32.ofInt_add x y).symm
theorem z4_sub (x y : Int) : z4 x - z4 y = z4 (x - y) := (Int32.ofInt_sub x y).symm
theorem z4_mul (x y : Int) : z4 x * z4 y = z4 (x * y) := (Int32.ofInt_mul x y).symm
theorem z8_add (x y : Int) : z8 x + z8 y = z8 (x + y) := (Int64.ofInt_add x y).symm
theorem z8_sub (x y : Int) : z8 x - z8 y = z8 (x - y) := (Int64.ofInt_sub x y).symm
theorem z8_mul (x y : Int) : z8 x * z8 y = z8 (x * y) := (Int64.ofInt_mul x y).symm
theorem z4_toInt {x : Int} (h : r4 x) : (z4 x).toInt = x := Int32.toInt_ofInt_of_le (by simpa using h.1) (by simpa using h.2)
theorem z8_toInt {x : Int} (h : r8 x) : (z8 x).toInt = x := Int64.toInt_ofInt_of_le (by simpa using h.1) (by simpa using h.2)
theorem z4_back (x : Int32) : z4 x.toInt = x := Int32.ofInt_toInt x
theorem z4_lt {x y : Int} (hx : r4 x) (hy : r4 y) : (z4 x < z4 y) ↔ x < y := by rw [Int32.lt_iff_toInt_lt, z4_toInt hx, z4_toInt hy]
theorem z4_le {x y : Int} (hx : r4 x) (hy : r4 y) : (z4 x ≤ z4 y) ↔ x ≤ y := by rw [Int32.le_iff_toInt_le, z4_toInt hx, z4_toInt hy]
theorem z4_eq {x y : Int} (hx : r4 x) (hy : r4 y) : (z4 x = z4 y) ↔ x = y := by rw [← Int32.toInt_inj, z4_toInt hx, z4_toInt hy]
theorem z8_lt {x y : Int} (hx : r8 x) (hy : r8 y) : (z8 x < z8 y) ↔ x < y := by rw [Int64.lt_iff_toInt_lt, z8_toInt hx, z8_toInt hy]
theorem z8_eq {x y : Int} (hx : r8 x) (hy : r8 y) : (z8 x = z8 y) ↔ x = y := by rw [← Int64.toInt_inj, z8_toInt hx, z8_toInt hy]
theorem z4_0 : z4 0 = 0 := rfl
theorem z4_nat {x : Int} (h : r4 x) : (z4 x).toNatClampNeg = x.toNat := by
  show (z4 x).toInt.toNat = _
  rw [z4_toInt h]
theorem z4_in {i : Int} {n : Nat} (hn : n ≤ 2147483648) (h : 0 ≤ i ∧ i < (n : Int)) : vp_in (z4 i) n ∧ (z4 i).toNatClampNeg = i.toNat := by
  have h4 : r4 i := ⟨by omega, by omega⟩
  refine ⟨fun q => ?_, z4_nat h4⟩
  rcases q with q | q
  · rw [← z4_0, z4_lt h4 ⟨by decide, by decide⟩] at q
    omega
  · rw [z4_nat h4] at q
    omega
theorem A4_upd (f : Nat → Int) (k : Nat) (x : Int) : upd (A4 f) k (z4 x) = A4 (up_ f k x) := by
  funext j
  simp only [upd, A4, up_]
  split <;> rfl
theorem A8_upd (f : Nat → Int) (k : Nat) (x : Int) : vp_updL (A8 f) k (z8 x) = A8 (up_ f k x) := by
  funext j
  simp only [vp_updL, A8, up_]
  split <;> rfl
def cp_ (f g : Nat → Int) (sp dp n : Nat) : Nat → Int := fun k => if dp ≤ k ∧ k < dp + n then f (sp + (k - dp)) else g k
theorem A4_cpy (f g : Nat → Int) (sp dp n : Nat) : va_cpy (A4 f) (A4 g) sp dp n = A4 (cp_ f g sp dp n) := by
  funext j
  simp only [va_cpy, A4, cp_]
  split <;> rfl
theorem z4_div {x y : Int} (hx : 0 ≤ x ∧ x < 2147483648) (hy : 0 < y ∧ y < 2147483648) : z4 x / z4 y = z4 (x / y) := by
  have h1 : r4 x := ⟨by omega, by omega⟩
  have h2 : r4 y := ⟨by omega, by omega⟩
  have h3 : 0 ≤ x / y := Int.ediv_nonneg hx.1 (by omega)
  have h4 : x / y ≤ x := Int.ediv_le_self _ hx.1
  apply Int32.toInt_inj.mp
  rw [Int32.toInt_div_of_ne_right _ _ (fun q => by
    have := congrArg Int32.toInt q
    rw [z4_toInt h2] at this
    have h5 : (-1 : Int32).toInt = -1 := rfl
    rw [h5] at this
    omega), z4_toInt h1, z4_toInt h2, z4_toInt ⟨by omega, by omega⟩]
  exact Int.tdiv_eq_ediv_of_nonneg hx.1
theorem z4_mod {x y : Int} (hx : 0 ≤ x ∧ x < 2147483648) (hy : 0 < y ∧ y < 2147483648) : z4 x % z4 y = z4 (x % y) := by
  have h1 : r4 x := ⟨by omega, by omega⟩
  have h2 : r4 y := ⟨by omega, by omega⟩
  have h3 : 0 ≤ x % y := Int.emod_nonneg _ (by omega)
  have h4 : x % y < y := Int.emod_lt_of_pos _ hy.1
  apply Int32.toInt_inj.mp
  rw [Int32.toInt_mod, z4_toInt h1, z4_toInt h2, z4_toInt ⟨by omega, by omega⟩]
  exact Int.tmod_eq_emod_of_nonneg hx.1
theorem z8_div {x y : Int} (hx : 0 ≤ x ∧ x < 9223372036854775808) (hy : 0 < y ∧ y < 9223372036854775808) : z8 x / z8 y = z8 (x / y) := by
  have h1 : r8 x := ⟨by omega, by omega⟩
  have h2 : r8 y := ⟨by omega, by omega⟩
  have h3 : 0 ≤ x / y := Int.ediv_nonneg hx.1 (by omega)
  have h4 : x / y ≤ x := Int.ediv_le_self _ hx.1
  apply Int64.toInt_inj.mp
  rw [Int64.toInt_div_of_ne_right _ _ (fun q => by
    have := congrArg Int64.toInt q
    rw [z8_toInt h2] at this
    have h5 : (-1 : Int64).toInt = -1 := rfl
    rw [h5] at this
    omega), z8_toInt h1, z8_toInt h2, z8_toInt ⟨by omega, by omega⟩]
  exact Int.tdiv_eq_ediv_of_nonneg hx.1
theorem z8_mod {x y : Int} (hx : 0 ≤ x ∧ x < 9223372036854775808) (hy : 0 < y ∧ y < 9223372036854775808) : z8 x % z8 y = z8 (x % y) := by
  have h1 : r8 x := ⟨by omega, by omega⟩
  have h2 : r8 y := ⟨by omega, by omega⟩
  have h3 : 0 ≤ x % y := Int.emod_nonneg _ (by omega)
  have h4 : x % y < y := Int.emod_lt_of_pos _ hy.1
  apply Int64.toInt_inj.mp
  rw [Int64.toInt_mod, z8_toInt h1, z8_toInt h2, z8_toInt ⟨by omega, by omega⟩]
  exact Int.tmod_eq_emod_of_nonneg hx.1
theorem z4_ne0 {y : Int} (h : 0 < y ∧ y < 2147483648) : ¬ z4 y = 0 := fun q => by
  rw [← z4_0, z4_eq ⟨by omega, by omega⟩ ⟨by decide, by decide⟩] at q
  omega
theorem z8_ne0 {y : Int} (h : 0 < y ∧ y < 9223372036854775808) : ¬ z8 y = 0 := fun q => by
  rw [show (0 : Int64) = z8 0 from rfl, z8_eq ⟨by omega, by omega⟩ ⟨by decide, by decide⟩] at q
  omega
/-- bits of numbers that are no less than 0 -/
abbrev nn (x : Int) : Prop := 0 ≤ x ∧ x < 2147483648
def an_ (x y : Int) : Int := ((x.toNat &&& y.toNat : Nat) : Int)
def or_ (x y : Int) : Int := ((x.toNat ||| y.toNat : Nat) : Int)
theorem z4_bv {x : Int} (h : nn x) : (z4 x).toBitVec = BitVec.ofNat 32 x.toNat := by
  apply BitVec.eq_of_toInt_eq
  show (z4 x).toInt = _
  rw [z4_toInt ⟨by omega, by omega⟩]
  rw [BitVec.toInt_eq_toNat_of_lt (by simp; omega), BitVec.toNat_ofNat]
  omega
theorem z4_and {x y : Int} (hx : nn x) (hy : nn y) : z4 x &&& z4 y = z4 (an_ x y) := by
  have h1 : x.toNat &&& y.toNat ≤ x.toNat := Nat.and_le_left
  have h : nn (an_ x y) := ⟨by unfold an_; omega, by unfold an_; omega⟩
  apply Int32.toBitVec_inj.mp
  rw [Int32.toBitVec_and, z4_bv hx, z4_bv hy, z4_bv h]
  apply BitVec.eq_of_toNat_eq
  simp only [BitVec.toNat_and, BitVec.toNat_ofNat, an_, Int.toNat_natCast]
  rw [Nat.mod_eq_of_lt (by omega), Nat.mod_eq_of_lt (by omega), Nat.mod_eq_of_lt (by omega)]
theorem or_nn {x y : Int} (hx : nn x) (hy : nn y) : nn (or_ x y) := by
  have h1 : x.toNat ||| y.toNat < 2 ^ 31 := Nat.or_lt_two_pow (by omega) (by omega)
  exact ⟨by unfold or_; omega, by unfold or_; omega⟩
theorem z4_or {x y : Int} (hx : nn x) (hy : nn y) : z4 x ||| z4 y = z4 (or_ x y) := by
  have h1 : x.toNat ||| y.toNat < 2 ^ 31 := Nat.or_lt_two_pow (by omega) (by omega)
  apply Int32.toBitVec_inj.mp
  rw [Int32.toBitVec_or, z4_bv hx, z4_bv hy, z4_bv (or_nn hx hy)]
  apply BitVec.eq_of_toNat_eq
  simp only [BitVec.toNat_or, BitVec.toNat_ofNat, or_, Int.toNat_natCast]
  rw [Nat.mod_eq_of_lt (by omega), Nat.mod_eq_of_lt (by omega), Nat.mod_eq_of_lt (by omega)]
def sl_ (x y : Int) : Int := x * 2 ^ y.toNat
def sr_ (x y : Int) : Int := x / 2 ^ y.toNat
theorem z4_k31 {y : Int} (hy : 0 ≤ y ∧ y < 32) : z4 y &&& 31 = z4 y := by
  have h : z4 y &&& z4 31 = z4 (an_ y 31) := z4_and ⟨by omega, by omega⟩ ⟨by decide, by decide⟩
  have h2 : an_ y 31 = y := by
    unfold an_
    have : (y.toNat &&& (31 : Int).toNat) = y.toNat % 2 ^ 5 := Nat.and_two_pow_sub_one_eq_mod y.toNat 5
    rw [this, Nat.mod_eq_of_lt (by omega)]
    omega
  rw [h2] at h
  exact h
theorem sm_k : ∀ k, k < 32 → (BitVec.ofNat 32 k).smod 32#32 = BitVec.ofNat 32 k := by decide
theorem z4_shl {x y : Int} (hx : nn x) (hy : 0 ≤ y ∧ y < 32) (hr : x * 2 ^ y.toNat < 2147483648) : z4 x <<< (z4 y &&& 31) = z4 (sl_ x y) := by
  rw [z4_k31 hy]
  have hn : nn (sl_ x y) := ⟨by unfold sl_; exact Int.mul_nonneg hx.1 (Int.le_of_lt (Int.pow_pos (by decide))), by unfold sl_; exact hr⟩
  apply Int32.toBitVec_inj.mp
  have e1 : (sl_ x y).toNat = x.toNat * 2 ^ y.toNat := by
    unfold sl_
    obtain ⟨a, rfl⟩ : ∃ a : Nat, x = (a : Int) := ⟨x.toNat, by omega⟩
    have : ((a : Int) * 2 ^ y.toNat) = ((a * 2 ^ y.toNat : Nat) : Int) := by simp
    rw [this, Int.toNat_natCast, Int.toNat_natCast]
  have e3 : x.toNat * 2 ^ y.toNat < 2147483648 := by
    have h5 : (sl_ x y).toNat < 2147483648 := by have := hn.2; have := hn.1; omega
    rw [e1] at h5; exact h5
  have e4 : (z4 x <<< z4 y).toBitVec = (z4 x).toBitVec <<< ((z4 y).toBitVec.smod 32#32) := rfl
  rw [e4, z4_bv hx, z4_bv (x := y) ⟨by omega, by omega⟩, z4_bv hn, sm_k _ (by omega), BitVec.shiftLeft_eq']
  apply BitVec.eq_of_toNat_eq
  rw [BitVec.toNat_shiftLeft, BitVec.toNat_ofNat, BitVec.toNat_ofNat, BitVec.toNat_ofNat, e1, Nat.shiftLeft_eq, Nat.mod_eq_of_lt (show y.toNat < 2 ^ 32 by omega), Nat.mod_eq_of_lt (show x.toNat < 2 ^ 32 by omega)]
theorem z4_shr {x y : Int} (hx : r4 x) (hy : 0 ≤ y ∧ y < 32) : z4 x >>> (z4 y &&& 31) = z4 (sr_ x y) := by
  rw [z4_k31 hy]
  have e4 : (z4 x >>> z4 y).toBitVec = (z4 x).toBitVec.sshiftRight' ((z4 y).toBitVec.smod 32#32) := rfl
  have e5 : (z4 x >>> z4 y).toInt = sr_ x y := by
    show (z4 x >>> z4 y).toBitVec.toInt = _
    rw [e4, z4_bv (x := y) ⟨by omega, by omega⟩, sm_k _ (by omega), BitVec.sshiftRight_eq', BitVec.toInt_sshiftRight, BitVec.toNat_ofNat, Nat.mod_eq_of_lt (show y.toNat < 2 ^ 32 by omega)]
    show (z4 x).toInt >>> y.toNat = _
    rw [z4_toInt hx, Int.shiftRight_eq_div_pow]
    rfl
  rw [← e5, z4_back]
theorem z4_z8 {x : Int} (h : r4 x) : (z4 x).toInt64 = z8 x := by
  rw [← Int64.ofInt_int32ToInt, z4_toInt h]; rfl
theorem z8_z4 (x : Int) : (z8 x).toInt32 = z4 x := Int64.toInt32_ofInt
/-! the tables' words: those that go over to a callee -/
def TT : List Cond := lw_tbl.filter goodWord
theorem TT_in {w : Cond} (i : Nat) (h : lw_tbl[i]? = some w) (hg : goodWord w = true) : w ∈ TT := List.mem_filter.mpr ⟨List.mem_of_getElem? h, hg⟩
theorem TT_good {cw cy : Cond} (hc : cy ∈ TT) : GoodIn (cw :: TT) (cy :: TT) := by
  intro w hw
  rcases List.mem_cons.mp hw with rfl | hw
  · exact ⟨List.mem_cons_of_mem _ hc, good_of_word (List.mem_filter.mp hc).2⟩
  · exact ⟨List.mem_cons_of_mem _ hw, good_of_word (List.mem_filter.mp hw).2⟩
/-- the array classes: 0 int[], 1 boolean[], 2 long[], 3 Sheet[], 4 int[][] -/
def AI_ (U : State) : Prop := (Cond.arrayOver (.array .int)).before #[] U = true
theorem AI_.moved {u U : State} (hvm : u.vm.Alike U.vm) (h : AI_ u) : AI_ U := by
  obtain ⟨comp, c, k, h1, h2, h3, h4, h5⟩ := arrayOverA_spec h
  obtain ⟨k', hk', he⟩ := hvm.2.2 _ _ h3
  have hi : (U.vm.classes.findIdx? fun (x : Class) => match x.kind with | .array component _ => component == comp | _ => false) = some c := by
    refine (va_idx_bare U.vm comp).symm.trans ?_
    first | rw [hvm.bare_eq] | rw [← hvm.bare_eq]
    exact (va_idx_bare u.vm comp).trans h2
  have hkind : k'.kind = .array comp (.array .int) := by rw [he]; exact h4
  have f1 : U.vm.findClass (FieldType.array .int).toString = some comp := by rw [hvm.findClass]; exact h1
  have f2 : U.vm.findClass ("[" ++ (FieldType.array .int).toString) = some c := by rw [hvm.findClass]; exact h5
  unfold AI_ Cond.before Cond.holds
  simp only [Cond.value]
  rw [f1, Option.bind_some]
  refine (congrArg (fun o : Option Nat => (o.bind (fun c => (U.vm.classes[c]?).map fun (k : Class) => match k.kind with | .array _ ty => decide (ty = FieldType.array .int) && decide (U.vm.findClass ("[" ++ (FieldType.array .int).toString) = some c) | _ => false) == some true)) hi).trans ?_
  simp [hk', hkind, f2]
def KK (D : va_G) (E : Nat → ClassId) (U : State) : Prop := va_K D vwCl [(E 0, .int), (E 1, .boolean), (E 2, .long), (E 3, .object "RunWatch$Sheet"), (E 4, .array .int)] U ∧ AI_ U ∧ va_AO "RunWatch$Sheet" U ∧ NK U
theorem KK.moved {D : va_G} {E : Nat → ClassId} {u U : State} (hW : u.WarmedH U.vm) (h : KK D E u) : KK D E U := ⟨va_K.moved hW.alike h.1, h.2.1.moved hW.alike, h.2.2.1.moved hW.alike, h.2.2.2.warm hW⟩
/-- a method that only reads: what it answers -/
def MR (l : Launch) (y : MethodName) (cy : Cond) (rm : Room) (D : va_G) (E : Nat → ClassId) (av : List Value) (wc : va_W) (rv : Option Value) : Prop :=
  Met l y (cy :: TT) rm (va_Pc av (fun U => va_P D vwCl wc U.heap ∧ KK D E U)) (fun _ st o t => o = .returned rv ∧ t.heap = st.heap) 0 0 (fun _ => False)
/-- a method that writes in its world: what it answers, its world then -/
def MW (l : Launch) (y : MethodName) (cy : Cond) (rm : Room) (D : va_G) (E : Nat → ClassId) (av : List Value) (wc : va_W) (rv : Option Value) (w1 : va_W) : Prop :=
  ∀ sz : Nat, Met l y (cy :: TT) rm (va_Pc av (fun U => U.heap.size = sz ∧ va_P D vwCl wc U.heap ∧ KK D E U ∧ va_D (fun _ => True) wc)) (fun _ st o t => o = .returned rv ∧ (va_P D vwCl w1 t.heap ∧ KK D E t ∧ va_D (va_A wc sz) w1) ∧ va_F (va_A wc sz) st t) 0 0 (va_A wc sz)
/-- what a call's place gives: the words of the call -/
def LnV (own C : String) (idx : Nat) (y : MethodName) : Prop := Cond.methodLink own idx y ∈ TT ∧ Cond.instanceMethod y ∈ TT ∧ Cond.selects C y y ∈ TT ∧ Cond.initialized y.cls ∈ TT
def LnS (own : String) (idx : Nat) (y : MethodName) : Prop := Cond.methodLink own idx y ∈ TT ∧ Cond.static y ∈ TT ∧ Cond.initialized y.cls ∈ TT
def DY (y : MethodName) (n : Nat) : Prop := y.cls ≠ "java/lang/invoke/MethodHandle" ∧ y.cls ≠ "java/lang/invoke/VarHandle" ∧ (parseMethodDescriptor y.desc).map (fun d => d.parameters.length) = some n
section ROWS
variable {p : Program} {l : Launch} {e : Env} {R : Room} {s : State} {m : MethodId} {args : Array Value} {below : List Frame} {meth : Method} {c : Code} {H : Heap} {locs : List Loc} {cells slots : Nat} {Q : State → Prop}
variable {cc : ByteArray} {pc nL : Nat} {ls : Array Slot} {rest : List Value} {D : va_G} {E : Nat → ClassId} {A : Nat → Prop} {a : Nat} {ws : va_W} {H0 : Heap} {cw : Cond} {own : String}
theorem m_iconst (X : CallFix p m c cc nL s args (cw :: TT) own) {n : Int} (d : decode cc pc = .ok (.iconst n, 1)) (k : W p l e R s m args below meth c H locs cells slots Q (F0 m (pc + 1) ls (.int (z4 n) :: rest))) : W p l e R s m args below meth c H locs cells slots Q (F0 m pc ls rest) := lv_iconst X.1 X.2.1 d rfl k
theorem m_bipush (X : CallFix p m c cc nL s args (cw :: TT) own) {n : Int} (d : decode cc pc = .ok (.bipush n, 2)) (h : (Int8.ofInt n).toInt32 = z4 n) (k : W p l e R s m args below meth c H locs cells slots Q (F0 m (pc + 2) ls (.int (z4 n) :: rest))) : W p l e R s m args below meth c H locs cells slots Q (F0 m pc ls rest) := lv_bipush X.1 X.2.1 d h k
theorem m_sipush (X : CallFix p m c cc nL s args (cw :: TT) own) {n : Int} (d : decode cc pc = .ok (.sipush n, 3)) (h : (Int16.ofInt n).toInt32 = z4 n) (k : W p l e R s m args below meth c H locs cells slots Q (F0 m (pc + 3) ls (.int (z4 n) :: rest))) : W p l e R s m args below meth c H locs cells slots Q (F0 m pc ls rest) := lv_sipush X.1 X.2.1 d h k
theorem m_ldc (X : CallFix p m c cc nL s args (cw :: TT) own) {i : Nat} (n : Int) (hw : Cond.constant own i (z4 n) ∈ TT) (d : decode cc pc = .ok (.ldc i, 2)) (k : W p l e R s m args below meth c H locs cells slots Q (F0 m (pc + 2) ls (.int (z4 n) :: rest))) : W p l e R s m args below meth c H locs cells slots Q (F0 m pc ls rest) := lv_ldc X.1 X.2.1 X.2.2.2.1 (X.2.2.2.2 _ (List.mem_cons_of_mem _ hw)) d k
theorem m_ldc2 (X : CallFix p m c cc nL s args (cw :: TT) own) {i : Nat} (n : Int) (hw : Cond.constantLong own i (z8 n) ∈ TT) (d : decode cc pc = .ok (.ldc2_w i, 3)) (k : W p l e R s m args below meth c H locs cells slots Q (F0 m (pc + 3) ls (.long (z8 n) :: rest))) : W p l e R s m args below meth c H locs cells slots Q (F0 m pc ls rest) := lv_ldc2 X.1 X.2.1 X.2.2.2.1 (X.2.2.2.2 _ (List.mem_cons_of_mem _ hw)) d k
theorem m_lconst (X : CallFix p m c cc nL s args (cw :: TT) own) {n : Fin 2} (x : Int) (h : Int64.ofNat (n : Nat) = z8 x) (d : decode cc pc = .ok (.lconst n, 1)) (k : W p l e R s m args below meth c H locs cells slots Q (F0 m (pc + 1) ls (.long (z8 x) :: rest))) : W p l e R s m args below meth c H locs cells slots Q (F0 m pc ls rest) := lv_lconst X.1 X.2.1 d h k
theorem m_iadd (X : CallFix p m c cc nL s args (cw :: TT) own) {x y : Int} (d : decode cc pc = .ok (.iadd, 1)) (k : W p l e R s m args below meth c H locs cells slots Q (F0 m (pc + 1) ls (.int (z4 (x + y)) :: rest))) : W p l e R s m args below meth c H locs cells slots Q (F0 m pc ls (.int (z4 y) :: .int (z4 x) :: rest)) := lv_iadd X.1 X.2.1 d (by rw [z4_add]; exact k)
theorem m_isub (X : CallFix p m c cc nL s args (cw :: TT) own) {x y : Int} (d : decode cc pc = .ok (.isub, 1)) (k : W p l e R s m args below meth c H locs cells slots Q (F0 m (pc + 1) ls (.int (z4 (x - y)) :: rest))) : W p l e R s m args below meth c H locs cells slots Q (F0 m pc ls (.int (z4 y) :: .int (z4 x) :: rest)) := lv_isub X.1 X.2.1 d (by rw [z4_sub]; exact k)
theorem m_imul (X : CallFix p m c cc nL s args (cw :: TT) own) {x y : Int} (d : decode cc pc = .ok (.imul, 1)) (k : W p l e R s m args below meth c H locs cells slots Q (F0 m (pc + 1) ls (.int (z4 (x * y)) :: rest))) : W p l e R s m args below meth c H locs cells slots Q (F0 m pc ls (.int (z4 y) :: .int (z4 x) :: rest)) := lv_imul X.1 X.2.1 d (by rw [z4_mul]; exact k)
theorem m_ladd (X : CallFix p m c cc nL s args (cw :: TT) own) {x y : Int} (d : decode cc pc = .ok (.ladd, 1)) (k : W p l e R s m args below meth c H locs cells slots Q (F0 m (pc + 1) ls (.long (z8 (x + y)) :: rest))) : W p l e R s m args below meth c H locs cells slots Q (F0 m pc ls (.long (z8 y) :: .long (z8 x) :: rest)) := lv_ladd X.1 X.2.1 d (by rw [z8_add]; exact k)
theorem m_lsub (X : CallFix p m c cc nL s args (cw :: TT) own) {x y : Int} (d : decode cc pc = .ok (.lsub, 1)) (k : W p l e R s m args below meth c H locs cells slots Q (F0 m (pc + 1) ls (.long (z8 (x - y)) :: rest))) : W p l e R s m args below meth c H locs cells slots Q (F0 m pc ls (.long (z8 y) :: .long (z8 x) :: rest)) := lv_lsub X.1 X.2.1 d (by rw [z8_sub]; exact k)
theorem m_lmul (X : CallFix p m c cc nL s args (cw :: TT) own) {x y : Int} (d : decode cc pc = .ok (.lmul, 1)) (k : W p l e R s m args below meth c H locs cells slots Q (F0 m (pc + 1) ls (.long (z8 (x * y)) :: rest))) : W p l e R s m args below meth c H locs cells slots Q (F0 m pc ls (.long (z8 y) :: .long (z8 x) :: rest)) := lv_lmul X.1 X.2.1 d (by rw [z8_mul]; exact k)
theorem m_iand (X : CallFix p m c cc nL s args (cw :: TT) own) {x y : Int} (h : nn x ∧ nn y) (d : decode cc pc = .ok (.iand, 1)) (k : W p l e R s m args below meth c H locs cells slots Q (F0 m (pc + 1) ls (.int (z4 (an_ x y)) :: rest))) : W p l e R s m args below meth c H locs cells slots Q (F0 m pc ls (.int (z4 y) :: .int (z4 x) :: rest)) := lv_iand X.1 X.2.1 d (by rw [z4_and h.1 h.2]; exact k)
theorem m_ior (X : CallFix p m c cc nL s args (cw :: TT) own) {x y : Int} (h : nn x ∧ nn y) (d : decode cc pc = .ok (.ior, 1)) (k : W p l e R s m args below meth c H locs cells slots Q (F0 m (pc + 1) ls (.int (z4 (or_ x y)) :: rest))) : W p l e R s m args below meth c H locs cells slots Q (F0 m pc ls (.int (z4 y) :: .int (z4 x) :: rest)) := lv_ior X.1 X.2.1 d (by rw [z4_or h.1 h.2]; exact k)
abbrev hS_ (x y : Int) : Prop := nn x ∧ (0 ≤ y ∧ y < 32) ∧ sl_ x y < 2147483648
theorem m_ishl (X : CallFix p m c cc nL s args (cw :: TT) own) {x y : Int} (h : hS_ x y) (d : decode cc pc = .ok (.ishl, 1)) (k : W p l e R s m args below meth c H locs cells slots Q (F0 m (pc + 1) ls (.int (z4 (sl_ x y)) :: rest))) : W p l e R s m args below meth c H locs cells slots Q (F0 m pc ls (.int (z4 y) :: .int (z4 x) :: rest)) := lv_ishl X.1 X.2.1 d (by rw [z4_shl h.1 h.2.1 h.2.2]; exact k)
theorem m_ishr (X : CallFix p m c cc nL s args (cw :: TT) own) {x y : Int} (h : r4 x ∧ (0 ≤ y ∧ y < 32)) (d : decode cc pc = .ok (.ishr, 1)) (k : W p l e R s m args below meth c H locs cells slots Q (F0 m (pc + 1) ls (.int (z4 (sr_ x y)) :: rest))) : W p l e R s m args below meth c H locs cells slots Q (F0 m pc ls (.int (z4 y) :: .int (z4 x) :: rest)) := lv_ishr X.1 X.2.1 d (by rw [z4_shr h.1 h.2]; exact k)
abbrev d4_ (x y : Int) : Prop := (0 ≤ x ∧ x < 2147483648) ∧ (0 < y ∧ y < 2147483648)
abbrev d8_ (x y : Int) : Prop := (0 ≤ x ∧ x < 9223372036854775808) ∧ (0 < y ∧ y < 9223372036854775808)
theorem m_idiv (X : CallFix p m c cc nL s args (cw :: TT) own) {x y : Int} (h : d4_ x y) (d : decode cc pc = .ok (.idiv, 1)) (k : W p l e R s m args below meth c H locs cells slots Q (F0 m (pc + 1) ls (.int (z4 (x / y)) :: rest))) : W p l e R s m args below meth c H locs cells slots Q (F0 m pc ls (.int (z4 y) :: .int (z4 x) :: rest)) := lv_idiv X.1 X.2.1 d (z4_ne0 h.2) (by rw [z4_div h.1 h.2]; exact k)
theorem m_irem (X : CallFix p m c cc nL s args (cw :: TT) own) {x y : Int} (h : d4_ x y) (d : decode cc pc = .ok (.irem, 1)) (k : W p l e R s m args below meth c H locs cells slots Q (F0 m (pc + 1) ls (.int (z4 (x % y)) :: rest))) : W p l e R s m args below meth c H locs cells slots Q (F0 m pc ls (.int (z4 y) :: .int (z4 x) :: rest)) := lv_irem X.1 X.2.1 d (z4_ne0 h.2) (by rw [z4_div h.1 h.2, z4_mul, z4_sub, show x - x / y * y = x % y by rw [Int.emod_def, Int.mul_comm]]; exact k)
theorem m_ldiv (X : CallFix p m c cc nL s args (cw :: TT) own) {x y : Int} (h : d8_ x y) (d : decode cc pc = .ok (.ldiv, 1)) (k : W p l e R s m args below meth c H locs cells slots Q (F0 m (pc + 1) ls (.long (z8 (x / y)) :: rest))) : W p l e R s m args below meth c H locs cells slots Q (F0 m pc ls (.long (z8 y) :: .long (z8 x) :: rest)) := lv_ldiv X.1 X.2.1 d (z8_ne0 h.2) (by rw [z8_div h.1 h.2]; exact k)
theorem m_lrem (X : CallFix p m c cc nL s args (cw :: TT) own) {x y : Int} (h : d8_ x y) (d : decode cc pc = .ok (.lrem, 1)) (k : W p l e R s m args below meth c H locs cells slots Q (F0 m (pc + 1) ls (.long (z8 (x % y)) :: rest))) : W p l e R s m args below meth c H locs cells slots Q (F0 m pc ls (.long (z8 y) :: .long (z8 x) :: rest)) := lv_lrem X.1 X.2.1 d (z8_ne0 h.2) (by rw [z8_div h.1 h.2, z8_mul, z8_sub, show x - x / y * y = x % y by rw [Int.emod_def, Int.mul_comm]]; exact k)
theorem m_i2l (X : CallFix p m c cc nL s args (cw :: TT) own) {x : Int} (h : r4 x) (d : decode cc pc = .ok (.i2l, 1)) (k : W p l e R s m args below meth c H locs cells slots Q (F0 m (pc + 1) ls (.long (z8 x) :: rest))) : W p l e R s m args below meth c H locs cells slots Q (F0 m pc ls (.int (z4 x) :: rest)) := lv_i2l X.1 X.2.1 d (z4_z8 h) k
theorem m_l2i (X : CallFix p m c cc nL s args (cw :: TT) own) {x : Int} (d : decode cc pc = .ok (.l2i, 1)) (k : W p l e R s m args below meth c H locs cells slots Q (F0 m (pc + 1) ls (.int (z4 x) :: rest))) : W p l e R s m args below meth c H locs cells slots Q (F0 m pc ls (.long (z8 x) :: rest)) := lv_l2i X.1 X.2.1 d (z8_z4 x) k
theorem m_iinc (X : CallFix p m c cc nL s args (cw :: TT) own) {i : Nat} (k0 : Nat) {n x : Int} {lv : List (Nat × Value)} (lv' : List (Nat × Value)) (d : decode cc pc = .ok (.iinc i n, 3)) (h : lv_has ls nL lv) (hk : lv[k0]? = some (i, .int (z4 x))) (hn : i < nL) (hl : (i, Value.int (z4 (x + n))) :: lv.filter (fun q => !(q.1 == i) && !(q.1 + 1 == i && q.2.category == 2)) = lv')
    (k : ∀ ls : Array Slot, lv_has ls nL lv' → W p l e R s m args below meth c H locs cells slots Q (F0 m (pc + 3) ls rest)) : W p l e R s m args below meth c H locs cells slots Q (F0 m pc ls rest) := lv_iinc (v := z4 (x + n)) X.1 X.2.1 d h hk (z4_add x n) hn hl k
theorem m_icmp_lt (X : CallFix p m c cc nL s args (cw :: TT) own) {x y off : Int} {tgt : Nat} (h : r4 x ∧ r4 y) (d : decode cc pc = .ok (.if_icmp .lt off, 3)) (ht : (pc : Int) + off = (tgt : Int)) (kt : x < y → W p l e R s m args below meth c H locs cells slots Q (F0 m tgt ls rest)) (kf : ¬ x < y → W p l e R s m args below meth c H locs cells slots Q (F0 m (pc + 3) ls rest)) : W p l e R s m args below meth c H locs cells slots Q (F0 m pc ls (.int (z4 y) :: .int (z4 x) :: rest)) := lv_icmp_lt X.1 X.2.1 d ht (fun q => kt ((z4_lt h.1 h.2).mp q)) (fun q => kf (fun z => q ((z4_lt h.1 h.2).mpr z)))
theorem m_icmp_ge (X : CallFix p m c cc nL s args (cw :: TT) own) {x y off : Int} {tgt : Nat} (h : r4 x ∧ r4 y) (d : decode cc pc = .ok (.if_icmp .ge off, 3)) (ht : (pc : Int) + off = (tgt : Int)) (kt : ¬ x < y → W p l e R s m args below meth c H locs cells slots Q (F0 m tgt ls rest)) (kf : x < y → W p l e R s m args below meth c H locs cells slots Q (F0 m (pc + 3) ls rest)) : W p l e R s m args below meth c H locs cells slots Q (F0 m pc ls (.int (z4 y) :: .int (z4 x) :: rest)) := lv_icmp_ge X.1 X.2.1 d ht (fun q => kt (by have := (z4_le h.2 h.1).mp q; omega)) (fun q => kf (by have : ¬ y ≤ x := fun z => q ((z4_le h.2 h.1).mpr z); omega))
theorem m_icmp_gt (X : CallFix p m c cc nL s args (cw :: TT) own) {x y off : Int} {tgt : Nat} (h : r4 x ∧ r4 y) (d : decode cc pc = .ok (.if_icmp .gt off, 3)) (ht : (pc : Int) + off = (tgt : Int)) (kt : y < x → W p l e R s m args below meth c H locs cells slots Q (F0 m tgt ls rest)) (kf : ¬ y < x → W p l e R s m args below meth c H locs cells slots Q (F0 m (pc + 3) ls rest)) : W p l e R s m args below meth c H locs cells slots Q (F0 m pc ls (.int (z4 y) :: .int (z4 x) :: rest)) := lv_icmp_gt X.1 X.2.1 d ht (fun q => kt ((z4_lt h.2 h.1).mp q)) (fun q => kf (fun z => q ((z4_lt h.2 h.1).mpr z)))
theorem m_icmp_le (X : CallFix p m c cc nL s args (cw :: TT) own) {x y off : Int} {tgt : Nat} (h : r4 x ∧ r4 y) (d : decode cc pc = .ok (.if_icmp .le off, 3)) (ht : (pc : Int) + off = (tgt : Int)) (kt : ¬ y < x → W p l e R s m args below meth c H locs cells slots Q (F0 m tgt ls rest)) (kf : y < x → W p l e R s m args below meth c H locs cells slots Q (F0 m (pc + 3) ls rest)) : W p l e R s m args below meth c H locs cells slots Q (F0 m pc ls (.int (z4 y) :: .int (z4 x) :: rest)) := lv_icmp_le X.1 X.2.1 d ht (fun q => kt (by have := (z4_le h.1 h.2).mp q; omega)) (fun q => kf (by have : ¬ x ≤ y := fun z => q ((z4_le h.1 h.2).mpr z); omega))
theorem m_icmp_eq (X : CallFix p m c cc nL s args (cw :: TT) own) {x y off : Int} {tgt : Nat} (h : r4 x ∧ r4 y) (d : decode cc pc = .ok (.if_icmp .eq off, 3)) (ht : (pc : Int) + off = (tgt : Int)) (kt : x = y → W p l e R s m args below meth c H locs cells slots Q (F0 m tgt ls rest)) (kf : ¬ x = y → W p l e R s m args below meth c H locs cells slots Q (F0 m (pc + 3) ls rest)) : W p l e R s m args below meth c H locs cells slots Q (F0 m pc ls (.int (z4 y) :: .int (z4 x) :: rest)) := lv_icmp_eq X.1 X.2.1 d ht (fun q => kt ((z4_eq h.1 h.2).mp q)) (fun q => kf (fun z => q ((z4_eq h.1 h.2).mpr z)))
theorem m_icmp_ne (X : CallFix p m c cc nL s args (cw :: TT) own) {x y off : Int} {tgt : Nat} (h : r4 x ∧ r4 y) (d : decode cc pc = .ok (.if_icmp .ne off, 3)) (ht : (pc : Int) + off = (tgt : Int)) (kt : ¬ x = y → W p l e R s m args below meth c H locs cells slots Q (F0 m tgt ls rest)) (kf : x = y → W p l e R s m args below meth c H locs cells slots Q (F0 m (pc + 3) ls rest)) : W p l e R s m args below meth c H locs cells slots Q (F0 m pc ls (.int (z4 y) :: .int (z4 x) :: rest)) := lv_icmp_ne X.1 X.2.1 d ht (fun q => kt (fun z => q ((z4_eq h.1 h.2).mpr z))) (fun q => kf ((z4_eq h.1 h.2).mp q))
theorem m_if_lt (X : CallFix p m c cc nL s args (cw :: TT) own) {x off : Int} {tgt : Nat} (h : r4 x) (d : decode cc pc = .ok (.ifCond .lt off, 3)) (ht : (pc : Int) + off = (tgt : Int)) (kt : x < 0 → W p l e R s m args below meth c H locs cells slots Q (F0 m tgt ls rest)) (kf : ¬ x < 0 → W p l e R s m args below meth c H locs cells slots Q (F0 m (pc + 3) ls rest)) : W p l e R s m args below meth c H locs cells slots Q (F0 m pc ls (.int (z4 x) :: rest)) := lv_if_lt X.1 X.2.1 d ht (fun q => kt ((z4_lt h ⟨by decide, by decide⟩).mp q)) (fun q => kf (fun z => q ((z4_lt h ⟨by decide, by decide⟩).mpr z)))
theorem m_if_ge (X : CallFix p m c cc nL s args (cw :: TT) own) {x off : Int} {tgt : Nat} (h : r4 x) (d : decode cc pc = .ok (.ifCond .ge off, 3)) (ht : (pc : Int) + off = (tgt : Int)) (kt : ¬ x < 0 → W p l e R s m args below meth c H locs cells slots Q (F0 m tgt ls rest)) (kf : x < 0 → W p l e R s m args below meth c H locs cells slots Q (F0 m (pc + 3) ls rest)) : W p l e R s m args below meth c H locs cells slots Q (F0 m pc ls (.int (z4 x) :: rest)) := lv_if_ge X.1 X.2.1 d ht (fun q => kt (by have := (z4_le (x := 0) ⟨by decide, by decide⟩ h).mp q; omega)) (fun q => kf (by have : ¬ 0 ≤ x := fun z => q ((z4_le (x := 0) ⟨by decide, by decide⟩ h).mpr z); omega))
theorem m_if_gt (X : CallFix p m c cc nL s args (cw :: TT) own) {x off : Int} {tgt : Nat} (h : r4 x) (d : decode cc pc = .ok (.ifCond .gt off, 3)) (ht : (pc : Int) + off = (tgt : Int)) (kt : 0 < x → W p l e R s m args below meth c H locs cells slots Q (F0 m tgt ls rest)) (kf : ¬ 0 < x → W p l e R s m args below meth c H locs cells slots Q (F0 m (pc + 3) ls rest)) : W p l e R s m args below meth c H locs cells slots Q (F0 m pc ls (.int (z4 x) :: rest)) := lv_if_gt X.1 X.2.1 d ht (fun q => kt ((z4_lt (x := 0) ⟨by decide, by decide⟩ h).mp q)) (fun q => kf (fun z => q ((z4_lt (x := 0) ⟨by decide, by decide⟩ h).mpr z)))
theorem m_if_le (X : CallFix p m c cc nL s args (cw :: TT) own) {x off : Int} {tgt : Nat} (h : r4 x) (d : decode cc pc = .ok (.ifCond .le off, 3)) (ht : (pc : Int) + off = (tgt : Int)) (kt : ¬ 0 < x → W p l e R s m args below meth c H locs cells slots Q (F0 m tgt ls rest)) (kf : 0 < x → W p l e R s m args below meth c H locs cells slots Q (F0 m (pc + 3) ls rest)) : W p l e R s m args below meth c H locs cells slots Q (F0 m pc ls (.int (z4 x) :: rest)) := lv_if_le X.1 X.2.1 d ht (fun q => kt (by have := (z4_le (y := 0) h ⟨by decide, by decide⟩).mp q; omega)) (fun q => kf (by have : ¬ x ≤ 0 := fun z => q ((z4_le (y := 0) h ⟨by decide, by decide⟩).mpr z); omega))
theorem m_if_eq (X : CallFix p m c cc nL s args (cw :: TT) own) {x off : Int} {tgt : Nat} (h : r4 x) (d : decode cc pc = .ok (.ifCond .eq off, 3)) (ht : (pc : Int) + off = (tgt : Int)) (kt : x = 0 → W p l e R s m args below meth c H locs cells slots Q (F0 m tgt ls rest)) (kf : ¬ x = 0 → W p l e R s m args below meth c H locs cells slots Q (F0 m (pc + 3) ls rest)) : W p l e R s m args below meth c H locs cells slots Q (F0 m pc ls (.int (z4 x) :: rest)) := lv_if_eq X.1 X.2.1 d ht (fun q => kt ((z4_eq h ⟨by decide, by decide⟩).mp q)) (fun q => kf (fun z => q ((z4_eq h ⟨by decide, by decide⟩).mpr z)))
theorem m_if_ne (X : CallFix p m c cc nL s args (cw :: TT) own) {x off : Int} {tgt : Nat} (h : r4 x) (d : decode cc pc = .ok (.ifCond .ne off, 3)) (ht : (pc : Int) + off = (tgt : Int)) (kt : ¬ x = 0 → W p l e R s m args below meth c H locs cells slots Q (F0 m tgt ls rest)) (kf : x = 0 → W p l e R s m args below meth c H locs cells slots Q (F0 m (pc + 3) ls rest)) : W p l e R s m args below meth c H locs cells slots Q (F0 m pc ls (.int (z4 x) :: rest)) := lv_if_ne X.1 X.2.1 d ht (fun q => kt (fun z => q ((z4_eq h ⟨by decide, by decide⟩).mpr z))) (fun q => kf ((z4_eq h ⟨by decide, by decide⟩).mp q))
theorem m_iald (X : CallFix p m c cc nL s args (cw :: TT) own) (hK : KK D E s) (hP : va_P D vwCl ws H) (q0 : Nat) {n : Nat} {f : Nat → Int} (ha : ws[q0]? = some (a, .inl (E 0, n, .inl (A4 f)))) (hn : n ≤ 2147483648) {i : Int} (h : 0 ≤ i ∧ i < (n : Int)) (d : decode cc pc = .ok (.iaload, 1)) (k : W p l e R s m args below meth c H locs cells slots Q (F0 m (pc + 1) ls (.int (z4 (f i.toNat)) :: rest))) : W p l e R s m args below meth c H locs cells slots Q (F0 m pc ls (.int (z4 i) :: .ref a :: rest)) := va_iald X.1 X.2.1 hK.1 hP q0 0 ha rfl (z4_in hn h).1 d (by rw [(z4_in hn h).2]; exact k)
theorem m_zald (X : CallFix p m c cc nL s args (cw :: TT) own) (hK : KK D E s) (hP : va_P D vwCl ws H) (q0 : Nat) {n : Nat} {f : Nat → Int} (ha : ws[q0]? = some (a, .inl (E 1, n, .inl (A4 f)))) (hn : n ≤ 2147483648) {i : Int} (h : 0 ≤ i ∧ i < (n : Int)) (d : decode cc pc = .ok (.baload, 1)) (k : W p l e R s m args below meth c H locs cells slots Q (F0 m (pc + 1) ls (.int (z4 (f i.toNat)) :: rest))) : W p l e R s m args below meth c H locs cells slots Q (F0 m pc ls (.int (z4 i) :: .ref a :: rest)) := va_zald X.1 X.2.1 hK.1 hP q0 1 ha rfl (z4_in hn h).1 d (by rw [(z4_in hn h).2]; exact k)
theorem m_lald (X : CallFix p m c cc nL s args (cw :: TT) own) (hK : KK D E s) (hP : va_P D vwCl ws H) (q0 : Nat) {n : Nat} {f : Nat → Int} (ha : ws[q0]? = some (a, .inl (E 2, n, .inr (.inl (A8 f))))) (hn : n ≤ 2147483648) {i : Int} (h : 0 ≤ i ∧ i < (n : Int)) (d : decode cc pc = .ok (.laload, 1)) (k : W p l e R s m args below meth c H locs cells slots Q (F0 m (pc + 1) ls (.long (z8 (f i.toNat)) :: rest))) : W p l e R s m args below meth c H locs cells slots Q (F0 m pc ls (.int (z4 i) :: .ref a :: rest)) := va_lald X.1 X.2.1 hK.1 hP q0 2 ha rfl (z4_in hn h).1 d (by rw [(z4_in hn h).2]; exact k)
theorem m_iast (X : CallFix p m c cc nL s args (cw :: TT) own) (hK : KK D E s) (hP : va_P D vwCl ws H) (hD : va_D A ws) (hS : va_S A H0 H locs) (q0 : Nat) {n : Nat} {f : Nat → Int} (ha : ws[q0]? = some (a, .inl (E 0, n, .inl (A4 f)))) (hn : n ≤ 2147483648) {i x : Int} (h : 0 ≤ i ∧ i < (n : Int)) (ws' : va_W) (hw : ws.set q0 (a, .inl (E 0, n, .inl (A4 (up_ f i.toNat x)))) = ws') (d : decode cc pc = .ok (.iastore, 1))
    (k : ∀ (H1 : Heap) (locs1 : List Loc), va_P D vwCl ws' H1 → va_D A ws' → va_S A H0 H1 locs1 → W p l e R s m args below meth c H1 locs1 cells slots Q (F0 m (pc + 1) ls rest)) : W p l e R s m args below meth c H locs cells slots Q (F0 m pc ls (.int (z4 x) :: .int (z4 i) :: .ref a :: rest)) := by
  refine va_iast X.1 X.2.1 hK.1 hP hD hS q0 0 ha rfl (z4_in hn h).1 d fun H1 locs1 h1 h2 h3 => ?_
  rw [(z4_in hn h).2, A4_upd, hw] at h1 h2
  exact k H1 locs1 h1 h2 h3
theorem m_zast (X : CallFix p m c cc nL s args (cw :: TT) own) (hK : KK D E s) (hP : va_P D vwCl ws H) (hD : va_D A ws) (hS : va_S A H0 H locs) (q0 : Nat) {n : Nat} {f : Nat → Int} (ha : ws[q0]? = some (a, .inl (E 1, n, .inl (A4 f)))) (hn : n ≤ 2147483648) {i x : Int} (h : 0 ≤ i ∧ i < (n : Int)) (hx : x = 0 ∨ x = 1) (ws' : va_W) (hw : ws.set q0 (a, .inl (E 1, n, .inl (A4 (up_ f i.toNat x)))) = ws') (d : decode cc pc = .ok (.bastore, 1))
    (k : ∀ (H1 : Heap) (locs1 : List Loc), va_P D vwCl ws' H1 → va_D A ws' → va_S A H0 H1 locs1 → W p l e R s m args below meth c H1 locs1 cells slots Q (F0 m (pc + 1) ls rest)) : W p l e R s m args below meth c H locs cells slots Q (F0 m pc ls (.int (z4 x) :: .int (z4 i) :: .ref a :: rest)) := by
  refine va_zast X.1 X.2.1 hK.1 hP hD hS q0 1 ha rfl (z4_in hn h).1 d fun H1 locs1 h1 h2 h3 => ?_
  have hz : vp_nar .boolean (z4 x) = z4 x := by rcases hx with rfl | rfl <;> rfl
  rw [(z4_in hn h).2, hz, A4_upd, hw] at h1 h2
  exact k H1 locs1 h1 h2 h3
theorem m_last (X : CallFix p m c cc nL s args (cw :: TT) own) (hK : KK D E s) (hP : va_P D vwCl ws H) (hD : va_D A ws) (hS : va_S A H0 H locs) (q0 : Nat) {n : Nat} {f : Nat → Int} (ha : ws[q0]? = some (a, .inl (E 2, n, .inr (.inl (A8 f))))) (hn : n ≤ 2147483648) {i x : Int} (h : 0 ≤ i ∧ i < (n : Int)) (ws' : va_W) (hw : ws.set q0 (a, .inl (E 2, n, .inr (.inl (A8 (up_ f i.toNat x))))) = ws') (d : decode cc pc = .ok (.lastore, 1))
    (k : ∀ (H1 : Heap) (locs1 : List Loc), va_P D vwCl ws' H1 → va_D A ws' → va_S A H0 H1 locs1 → W p l e R s m args below meth c H1 locs1 cells slots Q (F0 m (pc + 1) ls rest)) : W p l e R s m args below meth c H locs cells slots Q (F0 m pc ls (.long (z8 x) :: .int (z4 i) :: .ref a :: rest)) := by
  refine va_last X.1 X.2.1 hK.1 hP hD hS q0 2 ha rfl (z4_in hn h).1 d fun H1 locs1 h1 h2 h3 => ?_
  rw [(z4_in hn h).2, A8_upd, hw] at h1 h2
  exact k H1 locs1 h1 h2 h3
end ROWS
