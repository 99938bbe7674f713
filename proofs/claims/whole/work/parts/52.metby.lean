theorem or_0 {x : Int} (h : 0 ≤ x) : or_ x 0 = x := by
  unfold or_
  simp
  omega
def leM (now : Nat → Int) (r : Nat) : Int := now (1 + 3 * r)
def ofM (now : Nat → Int) (r : Nat) : Int := now (2 + 3 * r)
def seM (now : Nat → Int) (r : Nat) : Int := now (3 + 3 * r)
theorem on8 (x : Int) (h : 0 ≤ x ∧ x < 16) : an_ (sr_ x 0) 1 + an_ (sr_ x 1) 1 + an_ (sr_ x 2) 1 + an_ (sr_ x 3) 1 + an_ (sr_ x 4) 1 + an_ (sr_ x 5) 1 + an_ (sr_ x 6) 1 + an_ (sr_ x 7) 1 = bc_ x := by
  rcases (show x = 0 ∨ x = 1 ∨ x = 2 ∨ x = 3 ∨ x = 4 ∨ x = 5 ∨ x = 6 ∨ x = 7 ∨ x = 8 ∨ x = 9 ∨ x = 10 ∨ x = 11 ∨ x = 12 ∨ x = 13 ∨ x = 14 ∨ x = 15 by omega) with rfl | rfl | rfl | rfl | rfl | rfl | rfl | rfl | rfl | rfl | rfl | rfl | rfl | rfl | rfl | rfl <;> decide
def onS (x : Int) : Nat → Int
  | 0 => 0
  | j + 1 => onS x j + an_ (sr_ x j) 1
theorem p_ones {n : Nat} (hn : 1000 ≤ n) {x : Int} (hx : 0 ≤ x ∧ x < 16) : F_X12_ones n x = some (bc_ x) := by
  unfold F_X12_ones
  refine (bd_of (lp_for (fun i => (onS x i, (i : Int))) 8 (r := bc_ x) (by omega) (fun i hi => ?_) ?_)).trans rfl
  · have s1 : nn (sr_ x (i : Int)) := sr_nn (by omega)
    have ei : ((i + 1 : Nat) : Int) = (i : Int) + 1 := by omega
    unfold F_X12_ones_L4
    simp (disch := omega) only [ck_pos, if_pos, ei, onS]
  · unfold F_X12_ones_L4
    simp (disch := omega) only [ck_pos, if_neg]
    rw [← on8 x hx]
    simp [onS]
theorem p_metBy {n : Nat} (hn : 1000 ≤ n) {k : Nat} {now : Nat → Int} (h0 : now 0 = k) (h : okR k (leM now) (ofM now) (seM now)) {mem sg : Int} (hm : 0 ≤ mem ∧ mem < 64) (hg : 0 ≤ sg ∧ sg < 5) : F_X12_metBy n now mem sg = some (mtS (leM now) (ofM now) (seM now) mem sg k) := by
  have hk := h.1
  unfold F_X12_metBy
  refine (bd_of (lp_for (fun i => (mtS (leM now) (ofM now) (seM now) mem sg i, wd_ (ofM now) i, (i : Int))) k (r := mtS (leM now) (ofM now) (seM now) mem sg k) (by omega) (fun i hi => ?_) ?_)).trans rfl
  · obtain ⟨w, hw⟩ : ∃ w : Nat, ofM now i - 1 = w := ⟨(ofM now i - 1).toNat, by have := h.2.1 i (by omega); omega⟩
    have r1 := h.2.1 i hi
    have r2 := h.wd i (by omega)
    have e1 : wd_ (ofM now) (i + 1) = wd_ (ofM now) i + (ofM now i - 1) := rfl
    have m1 := mtS_b h mem sg i (by omega)
    have m2 := mtS_b h mem sg (i + 1) (by omega)
    have p3 := p2_3 (k := w) (by omega)
    have a1 := hd_b (mem := mem) (sh := wd_ (ofM now) i) (w := w) (by omega)
    have b1 := bt_b (seM now i) sg
    have s1 : nn (sr_ mem (wd_ (ofM now) i)) := sr_nn (by omega)
    have s2 : nn (sr_ (seM now i) sg) := sr_nn (by omega)
    have l2 : sl_ 1 (w : Int) = 2 ^ w := by rw [sl_nat, Int.one_mul]
    have l4 : sl_ 1 (i : Int) = 2 ^ i := by rw [sl_nat, Int.one_mul]
    have l5 := p2_3 (k := i) (by omega)
    have d1 := bc_b (h := hd_ mem (wd_ (ofM now) i) w) (by omega)
    have ehd : an_ (sr_ mem (wd_ (ofM now) i)) (2 ^ w - 1) = hd_ mem (wd_ (ofM now) i) w := by unfold hd_; rw [l2]
    have ebt : an_ (sr_ (seM now i) sg) 1 = bt_ (seM now i) sg := rfl
    have em : mtS (leM now) (ofM now) (seM now) mem sg (i + 1) = if bc_ (hd_ mem (wd_ (ofM now) i) w) + bt_ (seM now i) sg < leM now i then mtS (leM now) (ofM now) (seM now) mem sg i else or_ (mtS (leM now) (ofM now) (seM now) mem sg i) (sl_ 1 i) := by rw [← hw]; rfl
    have t1 : now (1 + 3 * (i : Int) + 1).toNat = ofM now i := by unfold ofM; congr 1; omega
    have t2 : now (1 + 3 * (i : Int) + 2).toNat = seM now i := by unfold seM; congr 1; omega
    have t3 : now (1 + 3 * (i : Int)).toNat = leM now i := by unfold leM; congr 1
    have ei : ((i + 1 : Nat) : Int) = (i : Int) + 1 := by omega
    have ho := p_ones hn (x := hd_ mem (wd_ (ofM now) i) w) (by omega)
    have oz := or_0 m1.1
    unfold F_X12_metBy_L8
    simp only [t1, t2, t3, hw, l2, ehd, ebt, h0, ho]
    simp (disch := omega) only [ck_pos, if_pos, Option.bind_some]
    rw [em, e1, hw, ei]
    by_cases hc : bc_ (hd_ mem (wd_ (ofM now) i) w) + bt_ (seM now i) sg < leM now i
    · simp (disch := omega) only [if_pos, ck_pos, Option.bind_some, oz]
    · simp (disch := omega) only [if_neg, ck_pos, Option.bind_some]
  · unfold F_X12_metBy_L8
    simp only [h0]
    simp (disch := omega) only [ck_pos, if_neg]
theorem p_nextBy {n : Nat} (hn : 1000 ≤ n) {k : Nat} {now : Nat → Int} (h0 : now 0 = k) (h : okR k (leM now) (ofM now) (seM now)) {mem sg : Int} (hm : 0 ≤ mem ∧ mem < 64) (hg : 0 ≤ sg ∧ sg < 5) : F_X12_nextBy n now mem sg = some (nxS (ofM now) (seM now) mem sg k) := by
  have hk := h.1
  unfold F_X12_nextBy
  refine (bd_of (lp_for (fun i => (nxS (ofM now) (seM now) mem sg i, wd_ (ofM now) i, (i : Int))) k (r := nxS (ofM now) (seM now) mem sg k) (by omega) (fun i hi => ?_) ?_)).trans rfl
  · obtain ⟨w, hw⟩ : ∃ w : Nat, ofM now i - 1 = w := ⟨(ofM now i - 1).toNat, by have := h.2.1 i (by omega); omega⟩
    have r1 := h.2.1 i hi
    have r2 := h.wd i (by omega)
    have r3 := h.wd (i + 1) (by omega)
    have e1 : wd_ (ofM now) (i + 1) = wd_ (ofM now) i + (ofM now i - 1) := rfl
    have n1 := nxS_b h mem sg i (by omega)
    have p1 := p2_6 (k := (wd_ (ofM now) i).toNat) (by omega)
    have p3 := p2_3 (k := w) (by omega)
    have a1 := hd_b (mem := mem) (sh := wd_ (ofM now) i) (w := w) (by omega)
    have b1 := bt_b (seM now i) sg
    have s1 : nn (sr_ mem (wd_ (ofM now) i)) := sr_nn (by omega)
    have s2 : nn (sr_ (seM now i) sg) := sr_nn (by omega)
    have l2 : sl_ 1 (w : Int) = 2 ^ w := by rw [sl_nat, Int.one_mul]
    have l3 := an_le (x := 2 * hd_ mem (wd_ (ofM now) i) w + bt_ (seM now i) sg) (y := 2 ^ w - 1) (by omega)
    have ehd : an_ (sr_ mem (wd_ (ofM now) i)) (2 ^ w - 1) = hd_ mem (wd_ (ofM now) i) w := by unfold hd_; rw [l2]
    have ebt : an_ (sr_ (seM now i) sg) 1 = bt_ (seM now i) sg := rfl
    have en : nxS (ofM now) (seM now) mem sg (i + 1) = or_ (nxS (ofM now) (seM now) mem sg i) (sl_ (an_ (2 * hd_ mem (wd_ (ofM now) i) w + bt_ (seM now i) sg) (sl_ 1 (w : Int) - 1)) (wd_ (ofM now) i)) := by rw [← hw]; rfl
    have t1 : now (1 + 3 * (i : Int) + 1).toNat = ofM now i := by unfold ofM; congr 1; omega
    have t2 : now (1 + 3 * (i : Int) + 2).toNat = seM now i := by unfold seM; congr 1; omega
    have ei : ((i + 1 : Nat) : Int) = (i : Int) + 1 := by omega
    have hsl : hS_ (an_ (2 * hd_ mem (wd_ (ofM now) i) w + bt_ (seM now i) sg) (2 ^ w - 1)) (wd_ (ofM now) i) ∧ 0 ≤ sl_ (an_ (2 * hd_ mem (wd_ (ofM now) i) w + bt_ (seM now i) sg) (2 ^ w - 1)) (wd_ (ofM now) i) := by
      generalize an_ (2 * hd_ mem (wd_ (ofM now) i) w + bt_ (seM now i) sg) (2 ^ w - 1) = z at l3 ⊢
      obtain ⟨s, hs⟩ : ∃ s : Nat, wd_ (ofM now) i = s := ⟨(wd_ (ofM now) i).toNat, by omega⟩
      rw [hs] at p1 ⊢
      rw [Int.toNat_natCast] at p1
      have q1 : z * 2 ^ s ≤ 7 * 2 ^ s := Int.mul_le_mul_of_nonneg_right (by omega) (by omega)
      have q2 : 0 ≤ z * 2 ^ s := Int.mul_nonneg (by omega) (by omega)
      rw [sl_nat]
      refine ⟨⟨⟨by omega, by omega⟩, ⟨by omega, by omega⟩, ?_⟩, q2⟩
      rw [sl_nat]
      omega
    unfold F_X12_nextBy_L8
    simp only [t1, t2, hw, l2, ehd, ebt, h0]
    simp (disch := omega) only [ck_pos, if_pos]
    rw [en, l2, e1, hw, ei]
  · unfold F_X12_nextBy_L8
    simp only [h0]
    simp (disch := omega) only [ck_pos, if_neg]
theorem wd_congr {f g : Nat → Int} {k : Nat} (h : ∀ r, r < k → f r = g r) : ∀ r, r ≤ k → wd_ f r = wd_ g r := by
  intro r
  induction r with
  | zero => intro _; rfl
  | succ r ih =>
    intro hr
    show wd_ f r + (f r - 1) = wd_ g r + (g r - 1)
    rw [ih (by omega), h r (by omega)]
theorem mtS_congr {le of_ se le' of' se' : Nat → Int} {k : Nat} (h : ∀ r, r < k → le r = le' r ∧ of_ r = of' r ∧ se r = se' r) (mem sg : Int) : ∀ r, r ≤ k → mtS le of_ se mem sg r = mtS le' of' se' mem sg r := by
  intro r
  induction r with
  | zero => intro _; rfl
  | succ r ih =>
    intro hr
    obtain ⟨h1, h2, h3⟩ := h r (by omega)
    unfold mtS
    rw [ih (by omega), h1, h2, h3, wd_congr (fun r hr => (h r hr).2.1) r (by omega)]
theorem nxS_congr {of_ se of' se' : Nat → Int} {k : Nat} (h : ∀ r, r < k → of_ r = of' r ∧ se r = se' r) (mem sg : Int) : ∀ r, r ≤ k → nxS of_ se mem sg r = nxS of' se' mem sg r := by
  intro r
  induction r with
  | zero => intro _; rfl
  | succ r ih =>
    intro hr
    obtain ⟨h2, h3⟩ := h r (by omega)
    unfold nxS
    rw [ih (by omega), h2, h3, wd_congr (fun r hr => (h r hr).1) r (by omega)]
theorem okR_congr {le of_ se le' of' se' : Nat → Int} {k : Nat} (h : ∀ r, r < k → le r = le' r ∧ of_ r = of' r ∧ se r = se' r) (ho : okR k le of_ se) : okR k le' of' se' := by
  refine ⟨ho.1, fun r hr => ?_, ?_⟩
  · obtain ⟨h1, h2, h3⟩ := h r hr
    rw [← h1, ← h2, ← h3]
    exact ho.2.1 r hr
  · rw [← wd_congr (fun r hr => (h r hr).2.1) k (Nat.le_refl k)]
    exact ho.2.2
