abbrev cy_ (sp n dp n0 n1 : Int) : Prop := 0 ≤ sp ∧ 0 ≤ n ∧ sp + n ≤ n0 ∧ 0 ≤ dp ∧ dp + n ≤ n1 ∧ n < 2147483648 ∧ sp < 2147483648 ∧ dp < 2147483648
abbrev hR_ (x y : Int) : Prop := r4 x ∧ (0 ≤ y ∧ y < 32)
abbrev ix_ (i n : Int) : Prop := 0 ≤ i ∧ i < n
/-- how many bits are 1 -/
def bc_ (x : Int) : Int := if x = 0 then 0 else if x = 1 ∨ x = 2 ∨ x = 4 ∨ x = 8 then 1 else if x = 3 ∨ x = 5 ∨ x = 6 ∨ x = 9 ∨ x = 10 ∨ x = 12 then 2 else if x = 15 then 4 else 3
def F_J6_bitCount_0f7a4 (n : Nat) (x0 : Int) : Option Int := ck (0 ≤ x0 ∧ x0 < 16) (some (bc_ x0))
def rm_J6_bitCount_0f7a4 : Room := { frames := 0, cells := 0, slots := 0, locals := 0 }
theorem k_J6_bitCount_0f7a4 {l : Launch} {D : va_G} {E : Nat → ClassId} (n : Nat) (x0 : Int) (res : Int) (hf : F_J6_bitCount_0f7a4 n x0 = some res) : MR l yJ6_bitCount_0f7a4 (.code yJ6_bitCount_0f7a4 cJ6_bitCount_0f7a4 1 (some .int)) rm_J6_bitCount_0f7a4 D E [.int (z4 x0)] [] (some (.int (z4 res))) := sorry
def F_J9_floorMod_7cf53 (n : Nat) (x0 x1 : Int) : Option Int := ck (r4 x0 ∧ 0 < x1 ∧ x1 < 2147483648) (some (x0 % x1))
def rm_J9_floorMod_7cf53 : Room := { frames := 0, cells := 0, slots := 0, locals := 0 }
theorem k_J9_floorMod_7cf53 {l : Launch} {D : va_G} {E : Nat → ClassId} (n : Nat) (x0 x1 : Int) (res : Int) (hf : F_J9_floorMod_7cf53 n x0 x1 = some res) : MR l yJ9_floorMod_7cf53 (.code yJ9_floorMod_7cf53 cJ9_floorMod_7cf53 3 (some .int)) rm_J9_floorMod_7cf53 D E [.int (z4 x0), .int (z4 x1)] [] (some (.int (z4 res))) := sorry
