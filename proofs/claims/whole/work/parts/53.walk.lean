/-! rows gone through -/
def ov (f g : Nat → Int) (i : Nat) : Nat → Int := fun j => if j < i then f j else g j
theorem ov_up (f g : Nat → Int) (i : Nat) : up_ (ov f g i) i (f i) = ov f g (i + 1) := by
  funext j
  unfold up_ ov
  by_cases h : j = i
  · subst h; simp
  · by_cases h2 : j < i
    · rw [if_neg h, if_pos h2, if_pos (by omega)]
    · rw [if_neg h, if_neg h2, if_neg (by omega)]
theorem ov_0 (f g : Nat → Int) : ov f g 0 = g := by
  funext j
  unfold ov
  rw [if_neg (by omega)]
theorem ov_in {f g : Nat → Int} {i j : Nat} (h : j < i) : ov f g i j = f j := if_pos h
theorem an_7 {x : Int} (h : 0 ≤ x) : an_ x 7 = x % 8 := by
  unfold an_
  have : (x.toNat &&& (7 : Int).toNat) = x.toNat % 2 ^ 3 := Nat.and_two_pow_sub_one_eq_mod x.toNat 3
  rw [this]
  omega
theorem sr_3 (x : Int) : sr_ x 3 = x / 8 := rfl
theorem up_at {α : Type} (f : Nat → α) (i : Nat) (x : α) : up_ f i x i = x := if_pos rfl
theorem up_off {α : Type} {f : Nat → α} {i j : Nat} {x : α} (h : ¬ j = i) : up_ f i x j = f j := if_neg h
/-- what is remembered ahead of row i -/
def paS (k : Nat) (le of_ se sg : Nat → Int) : Nat → Int
  | 0 => 0
  | i + 1 => if mtS le of_ se (paS k le of_ se sg i) (sg i) k = 0 then nxS of_ se (paS k le of_ se sg i) (sg i) k else 0
/-- the rules that are met at row i -/
def meS (k : Nat) (le of_ se sg : Nat → Int) (i : Nat) : Int := mtS le of_ se (paS k le of_ se sg i) (sg i) k
theorem paS_b {k : Nat} {le of_ se : Nat → Int} (h : okR k le of_ se) (sg : Nat → Int) (i : Nat) : 0 ≤ paS k le of_ se sg i ∧ paS k le of_ se sg i < 2 ^ (wd_ of_ k).toNat ∧ paS k le of_ se sg i < 64 := by
  have r2 := h.wd k (Nat.le_refl k)
  have p1 := p2_6 (k := (wd_ of_ k).toNat) (by omega)
  cases i with
  | zero => exact ⟨Int.le_refl 0, show (0 : Int) < _ by omega, show (0 : Int) < 64 by decide⟩
  | succ i =>
    have n1 := nxS_b h (paS k le of_ se sg i) (sg i) k (Nat.le_refl k)
    unfold paS
    split <;> omega
theorem meS_b {k : Nat} {le of_ se : Nat → Int} (h : okR k le of_ se) (sg : Nat → Int) (i : Nat) : 0 ≤ meS k le of_ se sg i ∧ meS k le of_ se sg i < 8 := mtS_b h _ _ k (Nat.le_refl k)
def udS (sl li : Int) (sg : Nat → Int) : Nat → Int × Int
  | 0 => (0, 0)
  | i + 1 => if li < max 0 ((udS sl li sg i).1 + (sg i - 2) - sl) ∨ li < max 0 ((udS sl li sg i).2 - (sg i - 2) - sl) then (0, 0) else (max 0 ((udS sl li sg i).1 + (sg i - 2) - sl), max 0 ((udS sl li sg i).2 - (sg i - 2) - sl))
def siS (sl li : Int) (sg : Nat → Int) (i : Nat) : Int := if li < max 0 ((udS sl li sg i).1 + (sg i - 2) - sl) ∨ li < max 0 ((udS sl li sg i).2 - (sg i - 2) - sl) then 1 else 0
theorem udS_b {sl li : Int} {sg : Nat → Int} (hl : 0 ≤ li ∧ li ≤ 9) (i : Nat) : 0 ≤ (udS sl li sg i).1 ∧ (udS sl li sg i).1 ≤ 9 ∧ 0 ≤ (udS sl li sg i).2 ∧ (udS sl li sg i).2 ≤ 9 := by
  cases i with
  | zero => exact ⟨Int.le_refl 0, show (0 : Int) ≤ 9 by decide, Int.le_refl 0, show (0 : Int) ≤ 9 by decide⟩
  | succ i =>
    unfold udS
    split
    · exact ⟨Int.le_refl 0, by decide, Int.le_refl 0, by decide⟩
    · rename_i h
      show 0 ≤ max 0 _ ∧ max 0 _ ≤ 9 ∧ 0 ≤ max 0 _ ∧ max 0 _ ≤ (9 : Int)
      omega
theorem p_ruleByRule {n : Nat} (hn : 1000 ≤ n) {k z : Nat} {le of_ se sg : Nat → Int} (h : okR k le of_ se) (hz : z ≤ 40) (hg : ∀ i, i < z → 0 ≤ sg i ∧ sg i < 5) (met past : Nat → Int) :
    F_X10_ruleByRule n z sg k of_ se le met past = some (ov (meS k le of_ se sg) met z, ov (fun i => paS k le of_ se sg (i + 1)) past z) := by
  unfold F_X10_ruleByRule
  refine (bd_of (lp_for (fun i => (paS k le of_ se sg i, (i : Int), ov (meS k le of_ se sg) met i, ov (fun i => paS k le of_ se sg (i + 1)) past i)) z (r := (ov (meS k le of_ se sg) met z, ov (fun i => paS k le of_ se sg (i + 1)) past z)) (by omega) (fun i hi => ?_) ?_)).trans rfl
  · have p1 := paS_b h sg i
    have q1 := hg i hi
    have hp := p_pass hn h (mem := paS k le of_ se sg i) (sg := sg i) ⟨p1.1, p1.2.2⟩ q1
    have m1 := meS_b h sg i
    have n1 := nxS_b h (paS k le of_ se sg i) (sg i) k (Nat.le_refl k)
    have r2 := h.wd k (Nat.le_refl k)
    have p2 := p2_6 (k := (wd_ of_ k).toNat) (by omega)
    have ti : ((i : Int)).toNat = i := by omega
    have ei : ((i + 1 : Nat) : Int) = (i : Int) + 1 := by omega
    have em : mtS le of_ se (paS k le of_ se sg i) (sg i) k = meS k le of_ se sg i := rfl
    have ep : paS k le of_ se sg (i + 1) = if meS k le of_ se sg i = 0 then nxS of_ se (paS k le of_ se sg i) (sg i) k else 0 := rfl
    rw [em] at hp
    unfold F_X10_ruleByRule_L5
    simp only [ti, hp, Option.bind_some]
    rw [← ov_up, ← ov_up (fun i => paS k le of_ se sg (i + 1)), ei]
    simp only [ep]
    by_cases hc : meS k le of_ se sg i = 0
    · simp (disch := omega) only [if_pos, ck_pos, an_7, sr_3]
      rw [show 8 * nxS of_ se (paS k le of_ se sg i) (sg i) k % 8 = meS k le of_ se sg i by omega, show 8 * nxS of_ se (paS k le of_ se sg i) (sg i) k / 8 = nxS of_ se (paS k le of_ se sg i) (sg i) k by omega]
    · simp only [if_neg hc]
      simp (disch := omega) only [if_pos, ck_pos, an_7, sr_3]
      rw [show meS k le of_ se sg i % 8 = meS k le of_ se sg i by omega, show meS k le of_ se sg i / 8 = 0 by omega]
  · unfold F_X10_ruleByRule_L5
    simp (disch := omega) only [ck_pos, if_neg]
theorem p_sumBySum {n : Nat} (hn : 1000 ≤ n) {z : Nat} {sl li : Int} {sg : Nat → Int} (hl : 0 ≤ li ∧ li ≤ 9) (hs : 0 ≤ sl ∧ sl ≤ 2) (hz : z ≤ 40) (hg : ∀ i, i < z → 0 ≤ sg i ∧ sg i < 5) (si up dn : Nat → Int) :
    F_X10_sumBySum n z sg sl li si up dn = some (ov (siS sl li sg) si z, ov (fun i => (udS sl li sg (i + 1)).1) up z, ov (fun i => (udS sl li sg (i + 1)).2) dn z) := by
  unfold F_X10_sumBySum
  refine (bd_of (lp_for (fun i => ((udS sl li sg i).1, (udS sl li sg i).2, (i : Int), ov (siS sl li sg) si i, ov (fun i => (udS sl li sg (i + 1)).1) up i, ov (fun i => (udS sl li sg (i + 1)).2) dn i)) z (r := (ov (siS sl li sg) si z, ov (fun i => (udS sl li sg (i + 1)).1) up z, ov (fun i => (udS sl li sg (i + 1)).2) dn z)) (by omega) (fun i hi => ?_) ?_)).trans rfl
  · have q1 := hg i hi
    have b1 := udS_b (sl := sl) (sg := sg) hl i
    have ti : ((i : Int)).toNat = i := by omega
    have ei : ((i + 1 : Nat) : Int) = (i : Int) + 1 := by omega
    rw [← ov_up, ← ov_up (fun i => (udS sl li sg (i + 1)).1), ← ov_up (fun i => (udS sl li sg (i + 1)).2), ei]
    have eu : ∀ f : Nat → Int, up_ (up_ f i 0) i 1 = up_ f i 1 := fun f => by
      funext j
      unfold up_
      split <;> rfl
    unfold F_X10_sumBySum_L8
    simp only [ti, eu]
    have us : udS sl li sg (i + 1) = if li < max 0 ((udS sl li sg i).1 + (sg i - 2) - sl) ∨ li < max 0 ((udS sl li sg i).2 - (sg i - 2) - sl) then (0, 0) else (max 0 ((udS sl li sg i).1 + (sg i - 2) - sl), max 0 ((udS sl li sg i).2 - (sg i - 2) - sl)) := rfl
    have ss : siS sl li sg i = if li < max 0 ((udS sl li sg i).1 + (sg i - 2) - sl) ∨ li < max 0 ((udS sl li sg i).2 - (sg i - 2) - sl) then 1 else 0 := rfl
    by_cases h1 : li < max 0 ((udS sl li sg i).1 + (sg i - 2) - sl)
    · rw [if_pos (Or.inl h1)] at us ss
      rw [us, ss]
      simp (disch := omega) only [ck_pos, if_pos, Option.bind_some]
    · by_cases h2 : li < max 0 ((udS sl li sg i).2 - (sg i - 2) - sl)
      · rw [if_pos (Or.inr h2)] at us ss
        rw [us, ss]
        simp only [if_neg h1, if_pos h2]
        simp (disch := omega) only [ck_pos, if_pos, Option.bind_some]
      · rw [if_neg (by omega)] at us ss
        rw [us, ss]
        simp only [if_neg h1, if_neg h2]
        simp (disch := omega) only [ck_pos, if_pos, Option.bind_some]
  · unfold F_X10_sumBySum_L8
    simp (disch := omega) only [ck_pos, if_neg]
theorem p_through {n : Nat} (hn : 1000 ≤ n) {k z : Nat} {le of_ se sg : Nat → Int} {sl li : Int} (h : okR k le of_ se) (hl : 0 ≤ li ∧ li ≤ 9) (hs : 0 ≤ sl ∧ sl ≤ 2) (hz : z ≤ 40) (hg : ∀ i, i < z → 0 ≤ sg i ∧ sg i < 5) (met past si up dn : Nat → Int) :
    F_X10_through n z sg k sl li of_ se le met past si up dn = some (ov (meS k le of_ se sg) met z, ov (fun i => paS k le of_ se sg (i + 1)) past z, ov (siS sl li sg) si z, ov (fun i => (udS sl li sg (i + 1)).1) up z, ov (fun i => (udS sl li sg (i + 1)).2) dn z) := by
  unfold F_X10_through
  rw [p_ruleByRule hn h hz hg, Option.bind_some, p_sumBySum hn hl hs hz hg]
  rfl
theorem p_goThrough {n : Nat} (hn : 1000 ≤ n) {k z : Nat} {now : Nat → Int} (h0 : now 0 = k) (h : okR k (leM now) (ofM now) (seM now)) (hl : 0 ≤ now 16 ∧ now 16 ≤ 9) (hs : 0 ≤ now 15 ∧ now 15 ≤ 2) (h17 : now 17 = z) (hz : z ≤ 40) (hg : ∀ i, i < z → 0 ≤ now (58 + i) ∧ now (58 + i) < 5) (met past si up dn : Nat → Int) :
    F_X12_goThrough n now met past si up dn = some (ov (meS k (leM now) (ofM now) (seM now) (fun i => now (58 + i))) met z, ov (fun i => paS k (leM now) (ofM now) (seM now) (fun i => now (58 + i)) (i + 1)) past z, ov (siS (now 15) (now 16) (fun i => now (58 + i))) si z, ov (fun i => (udS (now 15) (now 16) (fun i => now (58 + i)) (i + 1)).1) up z, ov (fun i => (udS (now 15) (now 16) (fun i => now (58 + i)) (i + 1)).2) dn z) := by
  generalize hsg : (fun i => now (58 + i)) = sg
  have hsg2 : ∀ i, now (58 + i) = sg i := fun i => by rw [← hsg]
  generalize hlli : now 16 = li at hl ⊢
  generalize hssl : now 15 = sl at hs ⊢
  unfold F_X12_goThrough
  refine (bd_of (lp_for (fun i => (paS k (leM now) (ofM now) (seM now) sg i, (udS sl li sg i).1, (udS sl li sg i).2, (i : Int), ov (meS k (leM now) (ofM now) (seM now) sg) met i, ov (fun i => paS k (leM now) (ofM now) (seM now) sg (i + 1)) past i, ov (siS sl li sg) si i, ov (fun i => (udS sl li sg (i + 1)).1) up i, ov (fun i => (udS sl li sg (i + 1)).2) dn i)) z (r := (ov (meS k (leM now) (ofM now) (seM now) sg) met z, ov (fun i => paS k (leM now) (ofM now) (seM now) sg (i + 1)) past z, ov (siS sl li sg) si z, ov (fun i => (udS sl li sg (i + 1)).1) up z, ov (fun i => (udS sl li sg (i + 1)).2) dn z)) (by omega) (fun i hi => ?_) ?_)).trans rfl
  · have q1 := hg i hi
    rw [hsg2] at q1
    have p1 := paS_b h sg i
    have b1 := udS_b (sl := sl) (sg := sg) hl i
    have m1 := meS_b h sg i
    have ti : ((i : Int)).toNat = i := by omega
    have t5 : now (58 + (i : Int)).toNat = sg i := by rw [← hsg2]; congr 1
    have ei : ((i + 1 : Nat) : Int) = (i : Int) + 1 := by omega
    have hm := p_metBy hn h0 h (mem := paS k (leM now) (ofM now) (seM now) sg i) (sg := sg i) ⟨p1.1, p1.2.2⟩ q1
    have hx := p_nextBy hn h0 h (mem := paS k (leM now) (ofM now) (seM now) sg i) (sg := sg i) ⟨p1.1, p1.2.2⟩ q1
    have em : mtS (leM now) (ofM now) (seM now) (paS k (leM now) (ofM now) (seM now) sg i) (sg i) k = meS k (leM now) (ofM now) (seM now) sg i := rfl
    have ep : paS k (leM now) (ofM now) (seM now) sg (i + 1) = if meS k (leM now) (ofM now) (seM now) sg i = 0 then nxS (ofM now) (seM now) (paS k (leM now) (ofM now) (seM now) sg i) (sg i) k else 0 := rfl
    rw [em] at hm
    rw [← ov_up, ← ov_up (fun i => paS k (leM now) (ofM now) (seM now) sg (i + 1)), ← ov_up (siS sl li sg), ← ov_up (fun i => (udS sl li sg (i + 1)).1), ← ov_up (fun i => (udS sl li sg (i + 1)).2), ei]
    unfold F_X12_goThrough_L9
    simp only [ti, t5, hm, Option.bind_some, hx, hlli, hssl, h17, up_at]
    have us : udS sl li sg (i + 1) = if li < max 0 ((udS sl li sg i).1 + (sg i - 2) - sl) ∨ li < max 0 ((udS sl li sg i).2 - (sg i - 2) - sl) then (0, 0) else (max 0 ((udS sl li sg i).1 + (sg i - 2) - sl), max 0 ((udS sl li sg i).2 - (sg i - 2) - sl)) := rfl
    have ss : siS sl li sg i = if li < max 0 ((udS sl li sg i).1 + (sg i - 2) - sl) ∨ li < max 0 ((udS sl li sg i).2 - (sg i - 2) - sl) then 1 else 0 := rfl
    have e1 : (ck (r4 ((udS sl li sg i).1 + ((sg i - 2) - sl))) (if (udS sl li sg i).1 + ((sg i - 2) - sl) < 0 then some 0 else some ((udS sl li sg i).1 + ((sg i - 2) - sl)))) = some (max 0 ((udS sl li sg i).1 + (sg i - 2) - sl)) := by
      rw [ck_pos (by omega)]
      split
      · congr 1; omega
      · congr 1; omega
    have e2 : (ck (r4 ((udS sl li sg i).2 + ((2 - sg i) - sl))) (if (udS sl li sg i).2 + ((2 - sg i) - sl) < 0 then some 0 else some ((udS sl li sg i).2 + ((2 - sg i) - sl)))) = some (max 0 ((udS sl li sg i).2 - (sg i - 2) - sl)) := by
      rw [ck_pos (by omega)]
      split
      · congr 1; omega
      · congr 1; omega
    have e3 : (ck (r4 (meS k (leM now) (ofM now) (seM now) sg i)) (if meS k (leM now) (ofM now) (seM now) sg i = 0 then some (nxS (ofM now) (seM now) (paS k (leM now) (ofM now) (seM now) sg i) (sg i) k) else some 0)) = some (paS k (leM now) (ofM now) (seM now) sg (i + 1)) := by
      rw [ck_pos (by omega), ep]
      split <;> rfl
    simp (disch := omega) only [ck_pos (p := r4 (i : Int) ∧ r4 (z : Int)), if_pos (c := (i : Int) < (z : Int)), ck_pos (p := ix_ _ _)]
    rw [e1, e2, e3]
    simp only [Option.bind_some]
    by_cases h1 : li < max 0 ((udS sl li sg i).1 + (sg i - 2) - sl)
    · rw [if_pos (Or.inl h1)] at us ss
      rw [us, ss]
      simp only [if_pos h1]
      simp (disch := omega) only [ck_pos, if_neg, Option.bind_some, up_at]
      simp [ck]
    · by_cases h2 : li < max 0 ((udS sl li sg i).2 - (sg i - 2) - sl)
      · rw [if_pos (Or.inr h2)] at us ss
        rw [us, ss]
        simp only [if_neg h1, if_pos h2]
        simp (disch := omega) only [ck_pos, if_neg, Option.bind_some, up_at]
        simp [ck]
      · rw [if_neg (by omega)] at us ss
        rw [us, ss]
        simp only [if_neg h1, if_neg h2]
        simp (disch := omega) only [ck_pos, if_pos, Option.bind_some, up_at]
        simp [ck]
  · unfold F_X12_goThrough_L9
    simp only [h17]
    simp (disch := omega) only [ck_pos, if_neg]
