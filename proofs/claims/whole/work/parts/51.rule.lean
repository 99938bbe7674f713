/-! rules: bits of pasts -/
theorem or_lt2 {x y : Int} {k : Nat} (hx : 0 ≤ x ∧ x < 2 ^ k) (hy : 0 ≤ y ∧ y < 2 ^ k) : 0 ≤ or_ x y ∧ or_ x y < 2 ^ k := by
  have e : ((2 ^ k : Nat) : Int) = 2 ^ k := by simp
  have h1 : x.toNat ||| y.toNat < 2 ^ k := Nat.or_lt_two_pow (by omega) (by omega)
  unfold or_
  omega
theorem an_le {x y : Int} (hy : 0 ≤ y) : 0 ≤ an_ x y ∧ an_ x y ≤ y := by
  have h1 : x.toNat &&& y.toNat ≤ y.toNat := Nat.and_le_right
  unfold an_
  omega
theorem sl_0 (x : Int) : sl_ x 0 = x := by simp [sl_]
theorem sl_1 (x : Int) : sl_ x 1 = 2 * x := by
  have : sl_ x 1 = x * 2 := rfl
  omega
theorem sl_2 (x : Int) : sl_ x 2 = 4 * x := by
  have : sl_ x 2 = x * 4 := rfl
  omega
theorem sl_3 (x : Int) : sl_ x 3 = 8 * x := by
  have : sl_ x 3 = x * 8 := rfl
  omega
theorem sl_nat (x : Int) (k : Nat) : sl_ x (k : Int) = x * 2 ^ k := by simp [sl_]
theorem p2_6 {k : Nat} (h : k ≤ 6) : (1 : Int) ≤ 2 ^ k ∧ (2 : Int) ^ k ≤ 64 := by
  rcases (show k = 0 ∨ k = 1 ∨ k = 2 ∨ k = 3 ∨ k = 4 ∨ k = 5 ∨ k = 6 by omega) with rfl | rfl | rfl | rfl | rfl | rfl | rfl <;> decide
theorem p2_3 {k : Nat} (h : k ≤ 3) : (1 : Int) ≤ 2 ^ k ∧ (2 : Int) ^ k ≤ 8 := by
  rcases (show k = 0 ∨ k = 1 ∨ k = 2 ∨ k = 3 by omega) with rfl | rfl | rfl | rfl <;> decide
theorem sr_nn {x y : Int} (h : 0 ≤ x ∧ x < 2147483648) : nn (sr_ x y) := by
  unfold sr_
  have h1 : (0 : Int) < 2 ^ y.toNat := Int.pow_pos (by decide)
  exact ⟨Int.ediv_nonneg h.1 (by omega), Int.lt_of_le_of_lt (Int.ediv_le_self _ h.1) h.2⟩
/-- of what a rule remembers; whether a sign is in its set -/
def hd_ (mem sh w : Int) : Int := an_ (sr_ mem sh) (sl_ 1 w - 1)
def bt_ (se sg : Int) : Int := an_ (sr_ se sg) 1
theorem hd_b {mem sh : Int} {w : Nat} (hw : w ≤ 3) : 0 ≤ hd_ mem sh w ∧ hd_ mem sh w < 2 ^ w := by
  have h1 := p2_3 hw
  have h2 := an_le (x := sr_ mem sh) (y := sl_ 1 (w : Int) - 1) (by rw [sl_nat]; omega)
  rw [sl_nat] at h2
  unfold hd_
  rw [sl_nat]
  omega
theorem bt_b (se sg : Int) : 0 ≤ bt_ se sg ∧ bt_ se sg ≤ 1 := an_le (by decide)
theorem or_2 {h b : Int} (hh : 0 ≤ h ∧ h < 8) (hb : 0 ≤ b ∧ b ≤ 1) : or_ (sl_ h 1) b = 2 * h + b := by
  rcases (show h = 0 ∨ h = 1 ∨ h = 2 ∨ h = 3 ∨ h = 4 ∨ h = 5 ∨ h = 6 ∨ h = 7 by omega) with rfl | rfl | rfl | rfl | rfl | rfl | rfl | rfl <;> rcases (show b = 0 ∨ b = 1 by omega) with rfl | rfl <;> decide
theorem bc_2 {h b : Int} (hh : 0 ≤ h ∧ h < 8) (hb : 0 ≤ b ∧ b ≤ 1) : bc_ (2 * h + b) = bc_ h + b := by
  rcases (show h = 0 ∨ h = 1 ∨ h = 2 ∨ h = 3 ∨ h = 4 ∨ h = 5 ∨ h = 6 ∨ h = 7 by omega) with rfl | rfl | rfl | rfl | rfl | rfl | rfl | rfl <;> rcases (show b = 0 ∨ b = 1 by omega) with rfl | rfl <;> decide
theorem bc_b {h : Int} (hh : 0 ≤ h ∧ h < 16) : 0 ≤ bc_ h ∧ bc_ h ≤ 4 := by
  unfold bc_
  repeat' split <;> omega
  all_goals omega
def mtS (le of_ se : Nat → Int) (mem sg : Int) : Nat → Int
  | 0 => 0
  | r + 1 => if bc_ (hd_ mem (wd_ of_ r) (of_ r - 1)) + bt_ (se r) sg < le r then mtS le of_ se mem sg r else or_ (mtS le of_ se mem sg r) (sl_ 1 r)
def nxS (of_ se : Nat → Int) (mem sg : Int) : Nat → Int
  | 0 => 0
  | r + 1 => or_ (nxS of_ se mem sg r) (sl_ (an_ (2 * hd_ mem (wd_ of_ r) (of_ r - 1) + bt_ (se r) sg) (sl_ 1 (of_ r - 1) - 1)) (wd_ of_ r))
/-- rules as they may be -/
def okR (k : Nat) (le of_ se : Nat → Int) : Prop := k ≤ 3 ∧ (∀ r, r < k → 1 ≤ le r ∧ le r ≤ of_ r ∧ of_ r ≤ 4 ∧ 1 ≤ se r ∧ se r ≤ 31) ∧ wd_ of_ k ≤ 6
theorem okR.wd {k : Nat} {le of_ se : Nat → Int} (h : okR k le of_ se) : ∀ r, r ≤ k → 0 ≤ wd_ of_ r ∧ wd_ of_ r ≤ 6 := by
  have h0 : ∀ r, r ≤ k → 0 ≤ wd_ of_ r := by
    intro r
    induction r with
    | zero => intro _; exact Int.le_refl 0
    | succ r ih =>
      intro hr
      have h1 := ih (by omega)
      have h2 := h.2.1 r (by omega)
      show 0 ≤ wd_ of_ r + (of_ r - 1)
      omega
  have h1 : ∀ d r, r + d = k → wd_ of_ r ≤ wd_ of_ k := by
    intro d
    induction d with
    | zero => intro r hr; rw [show r = k by omega]; exact Int.le_refl _
    | succ d ih =>
      intro r hr
      have h2 := ih (r + 1) (by omega)
      have h3 := h.2.1 r (by omega)
      have h4 : wd_ of_ (r + 1) = wd_ of_ r + (of_ r - 1) := rfl
      omega
  intro r hr
  have h2 := h1 (k - r) r (by omega)
  have h3 := h.2.2
  exact ⟨h0 r hr, by omega⟩
theorem mtS_b {k : Nat} {le of_ se : Nat → Int} (h : okR k le of_ se) (mem sg : Int) : ∀ r, r ≤ k → 0 ≤ mtS le of_ se mem sg r ∧ mtS le of_ se mem sg r < 8 := by
  intro r
  induction r with
  | zero => intro _; exact ⟨Int.le_refl 0, show (0 : Int) < 8 by decide⟩
  | succ r ih =>
    intro hr
    have h1 := ih (by omega)
    have hk := h.1
    unfold mtS
    split
    · exact h1
    · refine or_lt2 (k := 3) h1 ?_
      rw [sl_nat]
      have := p2_3 (k := r) (by omega)
      rcases (show r = 0 ∨ r = 1 ∨ r = 2 by omega) with rfl | rfl | rfl <;> decide
theorem nxS_b {k : Nat} {le of_ se : Nat → Int} (h : okR k le of_ se) (mem sg : Int) : ∀ r, r ≤ k → 0 ≤ nxS of_ se mem sg r ∧ nxS of_ se mem sg r < 2 ^ (wd_ of_ r).toNat := by
  intro r
  induction r with
  | zero => intro _; exact ⟨Int.le_refl 0, show (0 : Int) < 2 ^ (0 : Int).toNat by decide⟩
  | succ r ih =>
    intro hr
    have h1 := ih (by omega)
    obtain ⟨w, hw⟩ : ∃ w : Nat, of_ r - 1 = w := ⟨(of_ r - 1).toNat, by have := h.2.1 r (by omega); omega⟩
    obtain ⟨s, hs⟩ : ∃ s : Nat, wd_ of_ r = s := ⟨(wd_ of_ r).toNat, by have := h.wd r (by omega); omega⟩
    have h2 := h.2.1 r (by omega)
    have h3 := h.wd (r + 1) hr
    have e1 : wd_ of_ (r + 1) = wd_ of_ r + (of_ r - 1) := rfl
    have e2 : (wd_ of_ (r + 1)).toNat = s + w := by omega
    rw [hs] at h1
    rw [e2]
    show 0 ≤ or_ _ _ ∧ or_ _ _ < _
    rw [hw, hs, sl_nat, sl_nat, Int.one_mul]
    rw [Int.toNat_natCast] at h1
    have p1 := p2_3 (k := w) (by omega)
    have p2 := p2_6 (k := s) (by omega)
    have h4 := an_le (x := 2 * hd_ mem s w + bt_ (se r) sg) (y := 2 ^ w - 1) (by omega)
    generalize an_ (2 * hd_ mem s w + bt_ (se r) sg) (2 ^ w - 1) = z at h4 ⊢
    have p3 : (2 : Int) ^ (s + w) = 2 ^ s * 2 ^ w := Int.pow_add 2 s w
    refine or_lt2 (k := s + w) ⟨h1.1, ?_⟩ ⟨Int.mul_nonneg h4.1 (by omega), ?_⟩
    · rw [p3]
      have : (2 : Int) ^ s * 1 ≤ 2 ^ s * 2 ^ w := Int.mul_le_mul_of_nonneg_left p1.1 (by omega)
      omega
    · rw [p3, Int.mul_comm]
      exact Int.mul_lt_mul_of_pos_left (by omega) (by omega)
theorem p_pass {n : Nat} (hn : 1000 ≤ n) {k : Nat} {le of_ se : Nat → Int} (h : okR k le of_ se) {mem sg : Int} (hm : 0 ≤ mem ∧ mem < 64) (hg : 0 ≤ sg ∧ sg < 5) : F_X4_pass n k of_ se le mem sg = some (if mtS le of_ se mem sg k = 0 then 8 * nxS of_ se mem sg k else mtS le of_ se mem sg k) := by
  have hk := h.1
  unfold F_X4_pass
  refine (bd_of (lp_for (fun i => (mtS le of_ se mem sg i, nxS of_ se mem sg i, wd_ of_ i, (i : Int))) k (r := (mtS le of_ se mem sg k, nxS of_ se mem sg k)) (by omega) (fun i hi => ?_) ?_)).trans ?_
  · obtain ⟨w, hw⟩ : ∃ w : Nat, of_ i - 1 = w := ⟨(of_ i - 1).toNat, by have := h.2.1 i (by omega); omega⟩
    have r1 := h.2.1 i hi
    have r2 := h.wd i (by omega)
    have r3 := h.wd (i + 1) (by omega)
    have e1 : wd_ of_ (i + 1) = wd_ of_ i + (of_ i - 1) := rfl
    have m1 := mtS_b h mem sg i (by omega)
    have m2 := mtS_b h mem sg (i + 1) (by omega)
    have n1 := nxS_b h mem sg i (by omega)
    have n2 := nxS_b h mem sg (i + 1) (by omega)
    have p1 := p2_6 (k := (wd_ of_ i).toNat) (by omega)
    have p2 := p2_6 (k := (wd_ of_ (i + 1)).toNat) (by omega)
    have p3 := p2_3 (k := w) (by omega)
    have a1 := hd_b (mem := mem) (sh := wd_ of_ i) (w := w) (by omega)
    have b1 := bt_b (se i) sg
    have s1 : nn (sr_ mem (wd_ of_ i)) := sr_nn (by omega)
    have s2 : nn (sr_ (se i) sg) := sr_nn (by omega)
    have o1 := or_2 (h := hd_ mem (wd_ of_ i) w) (b := bt_ (se i) sg) (by omega) b1
    have c1 := bc_2 (h := hd_ mem (wd_ of_ i) w) (b := bt_ (se i) sg) (by omega) b1
    have l1 := sl_1 (hd_ mem (wd_ of_ i) w)
    have l2 : sl_ 1 (w : Int) = 2 ^ w := by rw [sl_nat, Int.one_mul]
    have l3 := an_le (x := 2 * hd_ mem (wd_ of_ i) w + bt_ (se i) sg) (y := 2 ^ w - 1) (by omega)
    have l4 : sl_ 1 (i : Int) = 2 ^ i := by rw [sl_nat, Int.one_mul]
    have l5 := p2_3 (k := i) (by omega)
    have d1 := bc_b (h := 2 * hd_ mem (wd_ of_ i) w + bt_ (se i) sg) (by omega)
    have ehd : an_ (sr_ mem (wd_ of_ i)) (2 ^ w - 1) = hd_ mem (wd_ of_ i) w := by unfold hd_; rw [l2]
    have ebt : an_ (sr_ (se i) sg) 1 = bt_ (se i) sg := rfl
    have en : nxS of_ se mem sg (i + 1) = or_ (nxS of_ se mem sg i) (sl_ (an_ (2 * hd_ mem (wd_ of_ i) w + bt_ (se i) sg) (sl_ 1 (w : Int) - 1)) (wd_ of_ i)) := by rw [← hw]; rfl
    have em : mtS le of_ se mem sg (i + 1) = if bc_ (hd_ mem (wd_ of_ i) w) + bt_ (se i) sg < le i then mtS le of_ se mem sg i else or_ (mtS le of_ se mem sg i) (sl_ 1 i) := by rw [← hw]; rfl
    have ti : ((i : Int)).toNat = i := by omega
    have hsl : hS_ (an_ (2 * hd_ mem (wd_ of_ i) w + bt_ (se i) sg) (2 ^ w - 1)) (wd_ of_ i) ∧ 0 ≤ sl_ (an_ (2 * hd_ mem (wd_ of_ i) w + bt_ (se i) sg) (2 ^ w - 1)) (wd_ of_ i) := by
      generalize an_ (2 * hd_ mem (wd_ of_ i) w + bt_ (se i) sg) (2 ^ w - 1) = z at l3 ⊢
      obtain ⟨s, hs⟩ : ∃ s : Nat, wd_ of_ i = s := ⟨(wd_ of_ i).toNat, by omega⟩
      rw [hs] at p1 ⊢
      rw [Int.toNat_natCast] at p1
      have q1 : z * 2 ^ s ≤ 7 * 2 ^ s := Int.mul_le_mul_of_nonneg_right (by omega) (by omega)
      have q2 : 0 ≤ z * 2 ^ s := Int.mul_nonneg (by omega) (by omega)
      rw [sl_nat]
      refine ⟨⟨⟨by omega, by omega⟩, ⟨by omega, by omega⟩, ?_⟩, q2⟩
      rw [sl_nat]
      omega
    unfold F_X4_pass_L11
    simp only [ti, hw, ehd, ebt, o1, l2]
    simp (disch := omega) only [ck_pos, if_pos]
    have hbc : F_J6_bitCount_0f7a4 n (2 * hd_ mem (wd_ of_ i) w + bt_ (se i) sg) = some (bc_ (2 * hd_ mem (wd_ of_ i) w + bt_ (se i) sg)) := ck_pos ⟨by omega, by omega⟩
    rw [hbc]
    simp only [Option.bind_some]
    rw [c1]
    have ei : ((i + 1 : Nat) : Int) = (i : Int) + 1 := by omega
    rw [c1] at d1
    rw [en, em, l2, e1, hw, ei]
    by_cases hc : bc_ (hd_ mem (wd_ of_ i) w) + bt_ (se i) sg < le i
    · simp (disch := omega) only [if_pos, ck_pos, Option.bind_some]
    · simp (disch := omega) only [if_neg, ck_pos, Option.bind_some]
  · unfold F_X4_pass_L11
    simp (disch := omega) only [ck_pos, if_neg]
  · have m1 := mtS_b h mem sg k (by omega)
    have n1 := nxS_b h mem sg k (by omega)
    have r2 := h.wd k (by omega)
    have p1 := p2_6 (k := (wd_ of_ k).toNat) (by omega)
    have l3 := sl_3 (nxS of_ se mem sg k)
    by_cases hz : mtS le of_ se mem sg k = 0
    · simp (disch := omega) only [if_pos, ck_pos, Option.bind_some, l3]
    · simp (disch := omega) only [if_neg, ck_pos, Option.bind_some]
