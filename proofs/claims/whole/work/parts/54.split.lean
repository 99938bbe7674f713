/-! machines: where signs lead, classes of pasts -/
theorem p_fill {n : Nat} (hn : 1000 ≤ n) {N : Nat} (hN : N ≤ 400) (f : Nat → Int) (x : Int) : F_J7_fill_53178 n N f x = some (ov (fun _ => x) f N) := by
  unfold F_J7_fill_53178
  refine (bd_of (lp_for (fun i => ((i : Int), ov (fun _ => x) f i)) N (r := ov (fun _ => x) f N) (by omega) (fun i hi => ?_) ?_)).trans rfl
  · unfold F_J7_fill_53178_L5
    simp (disch := omega) only [ck_pos, if_pos]
    have ti : ((i : Int)).toNat = i := by omega
    have ei : ((i + 1 : Nat) : Int) = (i : Int) + 1 := by omega
    rw [ti, ei, ← ov_up]
  · unfold F_J7_fill_53178_L5
    simp (disch := omega) only [ck_pos, if_neg]
/-- where a sign leads behind a past: the past then, -5 for an alarm -/
def ldS (k : Nat) (le of_ se : Nat → Int) (p g : Nat) : Int := if mtS le of_ se p g k = 0 then nxS of_ se p g k else -5
theorem ldS_b {k : Nat} {le of_ se : Nat → Int} (h : okR k le of_ se) (p g : Nat) : ldS k le of_ se p g = -5 ∨ (0 ≤ ldS k le of_ se p g ∧ ldS k le of_ se p g < 2 ^ (wd_ of_ k).toNat ∧ ldS k le of_ se p g < 64) := by
  have r2 := h.wd k (Nat.le_refl k)
  have p1 := p2_6 (k := (wd_ of_ k).toNat) (by omega)
  have n1 := nxS_b h p g k (Nat.le_refl k)
  unfold ldS
  split <;> omega
theorem p_lead {n : Nat} (hn : 1000 ≤ n) {k : Nat} {le of_ se : Nat → Int} (h : okR k le of_ se) {N : Nat} (hN : N ≤ 64) (f : Nat → Int) : F_X1_lead n N k of_ se le f = some (ov (fun j => ldS k le of_ se (j / 5) (j % 5)) f (5 * N)) := by
  unfold F_X1_lead
  refine (bd_of (lp_for (fun i => ((i : Int), ov (fun j => ldS k le of_ se (j / 5) (j % 5)) f (5 * i))) N (r := ov (fun j => ldS k le of_ se (j / 5) (j % 5)) f (5 * N)) (by omega) (fun i hi => ?_) ?_)).trans rfl
  · unfold F_X1_lead_L2
    simp (disch := omega) only [ck_pos, if_pos]
    refine (bd_of (lp_for (fun g => ((g : Int), ov (fun j => ldS k le of_ se (j / 5) (j % 5)) f (5 * i + g))) 5 (r := ov (fun j => ldS k le of_ se (j / 5) (j % 5)) f (5 * (i + 1))) (by omega) (fun g hg => ?_) ?_)).trans (by simp)
    · have hp := p_pass hn h (mem := i) (sg := g) (by omega) (by omega)
      have m1 := mtS_b h i g k (Nat.le_refl k)
      have n1 := nxS_b h i g k (Nat.le_refl k)
      have r2 := h.wd k (Nat.le_refl k)
      have p1 := p2_6 (k := (wd_ of_ k).toNat) (by omega)
      unfold F_X1_lead_L12
      rw [hp]
      have ti : ((i : Int) * 5 + (g : Int)).toNat = 5 * i + g := by omega
      have ei : ((g + 1 : Nat) : Int) = (g : Int) + 1 := by omega
      have e1 : (5 * i + g) / 5 = i := by omega
      have e2 : (5 * i + g) % 5 = g := by omega
      have e3 : ldS k le of_ se i g = if mtS le of_ se i g k = 0 then nxS of_ se i g k else -5 := rfl
      show _ = some (Sum.inl (((g + 1 : Nat) : Int), ov _ f (5 * i + g + 1)))
      rw [← ov_up, e1, e2, ei, e3]
      by_cases hz : mtS le of_ se i g k = 0
      · have a1 := an_7 (x := 8 * nxS of_ se i g k) (by omega)
        have a2 := sr_3 (8 * nxS of_ se i g k)
        have a3 : sr_ (8 * nxS of_ se i g k) 3 = nxS of_ se i g k := by omega
        simp (disch := omega) only [ck_pos, if_pos, Option.bind_some, ti, a3]
        rfl
      · have a1 := an_7 (x := mtS le of_ se i g k) (by omega)
        simp (disch := omega) only [ck_pos, if_neg, if_pos (c := (g : Int) < 5), Option.bind_some, ti]
    · unfold F_X1_lead_L12
      simp (disch := omega) only [ck_pos, if_neg]
      rfl
  · unfold F_X1_lead_L2
    simp (disch := omega) only [ck_pos, if_neg]
/-- no more things than places, if each has its own -/
theorem pigeon : ∀ (m n : Nat) (f : Nat → Nat), (∀ i, i < n → f i < m) → (∀ i j, i < n → j < n → f i = f j → i = j) → n ≤ m := by
  intro m
  induction m with
  | zero =>
    intro n f h1 h2
    cases n with
    | zero => exact Nat.le_refl 0
    | succ n => exact absurd (h1 0 (by omega)) (by omega)
  | succ m ih =>
    intro n f h1 h2
    cases n with
    | zero => omega
    | succ n =>
      have := ih n (fun j => if f j = m then f n else f j) (fun i hi => by
        show (if f i = m then f n else f i) < m
        have a1 := h1 i (by omega)
        have a2 := h1 n (by omega)
        split
        · rename_i hm
          have : f n ≠ m := fun q => by have := h2 i n (by omega) (by omega) (by omega); omega
          omega
        · omega) (fun i j hi hj q => by
        have q : (if f i = m then f n else f i) = (if f j = m then f n else f j) := q
        have b1 : ¬ f i = f n := fun e => by have := h2 i n (by omega) (by omega) e; omega
        have b2 : ¬ f j = f n := fun e => by have := h2 j n (by omega) (by omega) e; omega
        refine h2 i j (by omega) (by omega) ?_
        split at q <;> split at q <;> omega)
      omega
/-- how many classes a relation has among the first i -/
noncomputable def cnF (R : Nat → Nat → Prop) : Nat → Nat
  | 0 => 0
  | i + 1 => cnF R i + @ite Nat (∃ q, q < i ∧ R i q) (Classical.propDecidable _) 0 1
theorem cnF_old {R : Nat → Nat → Prop} {i q : Nat} (h : q < i) (hr : R i q) : cnF R (i + 1) = cnF R i := by
  show cnF R i + _ = _
  rw [if_pos ⟨q, h, hr⟩]; rfl
theorem cnF_new {R : Nat → Nat → Prop} {i : Nat} (h : ∀ q, q < i → ¬ R i q) : cnF R (i + 1) = cnF R i + 1 := by
  show cnF R i + _ = _
  rw [if_neg (fun ⟨q, a, b⟩ => h q a b)]
theorem cnF_le (R : Nat → Nat → Prop) (i : Nat) : cnF R i ≤ i := by
  induction i with
  | zero => exact Nat.le_refl 0
  | succ i ih =>
    by_cases h : ∃ q, q < i ∧ R i q
    · obtain ⟨q, a, b⟩ := h
      rw [cnF_old a b]; omega
    · rw [cnF_new (fun q a b => h ⟨q, a, b⟩)]; omega
theorem cnF_pos (R : Nat → Nat → Prop) (i : Nat) : 1 ≤ cnF R (i + 1) := by
  induction i with
  | zero => rw [cnF_new (fun q a => by omega)]; exact Nat.le_refl 1
  | succ i ih =>
    by_cases h : ∃ q, q < i + 1 ∧ R (i + 1) q
    · obtain ⟨q, a, b⟩ := h
      rw [cnF_old a b]; omega
    · rw [cnF_new (fun q a b => h ⟨q, a, b⟩)]; omega
theorem cnF_congr {R S : Nat → Nat → Prop} {N : Nat} (h : ∀ p q, p < N → q < N → (R p q ↔ S p q)) : ∀ i, i ≤ N → cnF R i = cnF S i := by
  intro i
  induction i with
  | zero => intro _; rfl
  | succ i ih =>
    intro hi
    have e := ih (by omega)
    by_cases g : ∃ q, q < i ∧ R i q
    · obtain ⟨q, a, b⟩ := g
      rw [cnF_old a b, cnF_old a ((h i q (by omega) (by omega)).mp b), e]
    · rw [cnF_new (fun q a b => g ⟨q, a, b⟩), cnF_new (fun q a b => g ⟨q, a, (h i q (by omega) (by omega)).mpr b⟩), e]
/-- a finer relation has no fewer classes; as many: it is the same one -/
theorem cnF_mono {R S : Nat → Nat → Prop} {N : Nat} (h : ∀ p q, p < N → q < N → S p q → R p q) : ∀ i, i ≤ N → cnF R i ≤ cnF S i ∧ (cnF R i = cnF S i → ∀ p, p < i → (∃ q, q < p ∧ R p q) → ∃ q, q < p ∧ S p q) := by
  intro i
  induction i with
  | zero => intro _; exact ⟨Nat.le_refl 0, fun _ p hp => by omega⟩
  | succ i ih =>
    intro hi
    obtain ⟨e1, e2⟩ := ih (by omega)
    by_cases g : ∃ q, q < i ∧ S i q
    · obtain ⟨q, a, b⟩ := g
      rw [cnF_old a b, cnF_old a (h i q (by omega) (by omega) b)]
      refine ⟨e1, fun c p hp hq => ?_⟩
      by_cases hpi : p = i
      · subst hpi; exact ⟨q, a, b⟩
      · exact e2 c p (by omega) hq
    · rw [cnF_new (R := S) (fun q a b => g ⟨q, a, b⟩)]
      by_cases g2 : ∃ q, q < i ∧ R i q
      · obtain ⟨q, a, b⟩ := g2
        rw [cnF_old a b]
        exact ⟨by omega, fun c => by omega⟩
      · rw [cnF_new (R := R) (fun q a b => g2 ⟨q, a, b⟩)]
        refine ⟨by omega, fun c p hp hq => ?_⟩
        by_cases hpi : p = i
        · subst hpi; exact absurd hq g2
        · exact e2 (by omega) p (by omega) hq
theorem fst_of {R : Nat → Nat → Prop} (rf : ∀ p, R p p) (tr : ∀ p q r, R p q → R q r → R p r) : ∀ p, ∃ q, q ≤ p ∧ R p q ∧ ∀ r, r < q → ¬ R q r := by
  intro p
  induction p using Nat.strongRecOn with
  | ind p ih =>
    by_cases h : ∃ q, q < p ∧ R p q
    · obtain ⟨q, a, b⟩ := h
      obtain ⟨r, c, d, e⟩ := ih q a
      exact ⟨r, by omega, tr p q r b d, e⟩
    · exact ⟨p, Nat.le_refl p, rf p, fun r a b => h ⟨r, a, b⟩⟩
theorem cnF_same {R S : Nat → Nat → Prop} {N : Nat} (rfS : ∀ p, S p p) (trS : ∀ p q r, S p q → S q r → S p r) (syS : ∀ p q, S p q → S q p) (trR : ∀ p q r, R p q → R q r → R p r) (syR : ∀ p q, R p q → R q p) (h : ∀ p q, p < N → q < N → S p q → R p q) (e : cnF R N = cnF S N) : ∀ p q, p < N → q < N → R p q → S p q := by
  intro p q hp hq hr
  obtain ⟨p', a1, a2, a3⟩ := fst_of rfS trS p
  obtain ⟨q', b1, b2, b3⟩ := fst_of rfS trS q
  have f := (cnF_mono h N (Nat.le_refl N)).2 e
  have g1 := h p p' hp (by omega) a2
  have g2 := h q q' hq (by omega) b2
  have g3 : R p' q' := trR _ _ _ (syR _ _ g1) (trR _ _ _ hr g2)
  have : p' = q' := by
    rcases Nat.lt_trichotomy p' q' with c | c | c
    · obtain ⟨r, d1, d2⟩ := f q' (by omega) ⟨p', c, syR _ _ g3⟩
      exact absurd d2 (b3 r d1)
    · exact c
    · obtain ⟨r, d1, d2⟩ := f p' (by omega) ⟨q', c, g3⟩
      exact absurd d2 (a3 r d1)
  subst this
  exact trS _ _ _ a2 (syS _ _ b2)
/-- alike for k signs -/
def eqK (d : Nat → Nat → Int) : Nat → Nat → Nat → Prop
  | 0, _, _ => True
  | k + 1, p, q => ∀ g, g < 5 → (d p g = -5 ↔ d q g = -5) ∧ (d p g ≠ -5 → eqK d k (d p g).toNat (d q g).toNat)
theorem eqK_rf (d : Nat → Nat → Int) : ∀ k p, eqK d k p p := by
  intro k
  induction k with
  | zero => intro p; trivial
  | succ k ih => intro p g _; exact ⟨Iff.rfl, fun _ => ih _⟩
theorem eqK_sy (d : Nat → Nat → Int) : ∀ k p q, eqK d k p q → eqK d k q p := by
  intro k
  induction k with
  | zero => intro p q _; trivial
  | succ k ih => intro p q h g hg; exact ⟨(h g hg).1.symm, fun c => ih _ _ ((h g hg).2 (fun e => c ((h g hg).1.mp e)))⟩
theorem eqK_tr (d : Nat → Nat → Int) : ∀ k p q r, eqK d k p q → eqK d k q r → eqK d k p r := by
  intro k
  induction k with
  | zero => intro p q r _ _; trivial
  | succ k ih => intro p q r h1 h2 g hg; exact ⟨(h1 g hg).1.trans (h2 g hg).1, fun c => ih _ _ _ ((h1 g hg).2 c) ((h2 g hg).2 (fun e => c ((h1 g hg).1.mpr e)))⟩
theorem eqK_dn (d : Nat → Nat → Int) : ∀ k p q, eqK d (k + 1) p q → eqK d k p q := by
  intro k
  induction k with
  | zero => intro p q _; trivial
  | succ k ih => intro p q h g hg; exact ⟨(h g hg).1, fun c => ih _ _ ((h g hg).2 c)⟩
theorem eqK_all {d : Nat → Nat → Int} {N k : Nat} (hd : ∀ p g, p < N → g < 5 → d p g ≠ -5 → (d p g).toNat < N) (h : ∀ p q, p < N → q < N → eqK d k p q → eqK d (k + 1) p q) : ∀ j p q, p < N → q < N → eqK d k p q → eqK d j p q := by
  have up : ∀ j, ∀ p q, p < N → q < N → eqK d (k + j) p q → eqK d (k + j + 1) p q := by
    intro j
    induction j with
    | zero => exact h
    | succ j ih =>
      intro p q hp hq e g hg
      have e1 : eqK d (k + j + 1) p q := e
      exact ⟨(e1 g hg).1, fun c => ih _ _ (hd p g hp hg c) (hd q g hq hg (fun x => c ((e1 g hg).1.mpr x))) ((e1 g hg).2 c)⟩
  have all : ∀ j p q, p < N → q < N → eqK d k p q → eqK d (k + j) p q := by
    intro j
    induction j with
    | zero => intro p q _ _ e; exact e
    | succ j ih => intro p q hp hq e; exact up j p q hp hq (ih p q hp hq e)
  have dn : ∀ m j p q, eqK d (j + m) p q → eqK d j p q := by
    intro m
    induction m with
    | zero => intro j p q e; exact e
    | succ m ih => intro j p q e; exact ih j p q (eqK_dn d (j + m) p q e)
  intro j p q hp hq e
  have := all j p q hp hq e
  rw [Nat.add_comm] at this
  exact dn k j p q this
/-- numbers of classes -/
def nbr (R : Nat → Nat → Prop) (N : Nat) (c : Nat → Int) (z : Int) : Prop := z = cnF R N ∧ (∀ p, p < N → 0 ≤ c p ∧ c p < z) ∧ ∀ p q, p < N → q < N → (c p = c q ↔ R p q)
/-- the digits of a key -/
def kyS (L c : Nat → Int) (p : Nat) : Nat → Int
  | 0 => 0
  | g + 1 => kyS L c p g * 65 + if L (5 * p + g) = -5 then 64 else c (L (5 * p + g)).toNat
theorem p_keyOf {n : Nat} (hn : 1000 ≤ n) {N : Nat} (hN : N ≤ 64) {L c : Nat → Int} (hL : ∀ p g, p < N → g < 5 → L (5 * p + g) = -5 ∨ 0 ≤ L (5 * p + g) ∧ L (5 * p + g) < N) {p : Nat} (hp : p < N) : F_X1_keyOf n L c p = some (kyS L c p 5) := by
  unfold F_X1_keyOf
  refine (bd_of (lp_for (fun g => (kyS L c p g, (g : Int))) 5 (r := kyS L c p 5) (by omega) (fun g hg => ?_) ?_)).trans rfl
  · have h1 := hL p g hp hg
    have ti : ((p : Int) * 5 + (g : Int)).toNat = 5 * p + g := by omega
    have ei : ((g + 1 : Nat) : Int) = (g : Int) + 1 := by omega
    unfold F_X1_keyOf_L4
    have e3 : kyS L c p (g + 1) = kyS L c p g * 65 + if L (5 * p + g) = -5 then 64 else c (L (5 * p + g)).toNat := rfl
    rw [ti, ei, e3]
    by_cases hz : L (5 * p + g) = -5
    · exact (ck_pos (by omega)).trans ((if_pos (by omega)).trans ((ck_pos (by omega)).trans ((bd_of (p_past0 (by omega) (by omega))).trans ((bd_of (a := 64) ((ck_pos (by omega)).trans (if_pos rfl))).trans (by rw [if_pos hz])))))
    · exact (ck_pos (by omega)).trans ((if_pos (by omega)).trans ((ck_pos (by omega)).trans ((bd_of (p_past1 (by omega))).trans ((bd_of (a := c (L (5 * p + g)).toNat) ((ck_pos (by omega)).trans ((if_neg (by omega)).trans (ck_pos (by omega))))).trans (by rw [if_neg hz])))))
  · unfold F_X1_keyOf_L4
    simp (disch := omega) only [ck_pos, if_neg]
theorem kyS_b {N : Nat} {L c : Nat → Int} (hL : ∀ p g, p < N → g < 5 → L (5 * p + g) = -5 ∨ 0 ≤ L (5 * p + g) ∧ L (5 * p + g) < N) (hc : ∀ p, p < N → 0 ≤ c p ∧ c p < 64) {p g : Nat} (hp : p < N) (hg : g < 5) : 0 ≤ (if L (5 * p + g) = -5 then 64 else c (L (5 * p + g)).toNat) ∧ (if L (5 * p + g) = -5 then 64 else c (L (5 * p + g)).toNat) ≤ 64 := by
  have h1 := hL p g hp hg
  split
  · omega
  · have := hc (L (5 * p + g)).toNat (by omega)
    omega
theorem kyS_iff {N : Nat} {L c : Nat → Int} (hL : ∀ p g, p < N → g < 5 → L (5 * p + g) = -5 ∨ 0 ≤ L (5 * p + g) ∧ L (5 * p + g) < N) (hc : ∀ p, p < N → 0 ≤ c p ∧ c p < 64) {p q : Nat} (hp : p < N) (hq : q < N) : r4 (kyS L c p 5) ∧ (kyS L c p 5 = kyS L c q 5 ↔ ∀ g, g < 5 → (L (5 * p + g) = -5 ↔ L (5 * q + g) = -5) ∧ (L (5 * p + g) ≠ -5 → c (L (5 * p + g)).toNat = c (L (5 * q + g)).toNat)) := by
  have b1 := fun g hg => kyS_b hL hc hp (g := g) hg
  have b2 := fun g hg => kyS_b hL hc hq (g := g) hg
  have u : ∀ p g, kyS L c p (g + 1) = kyS L c p g * 65 + if L (5 * p + g) = -5 then 64 else c (L (5 * p + g)).toNat := fun _ _ => rfl
  have w : ∀ p, p < N → ∀ g, g < 5 → L (5 * p + g) ≠ -5 → c (L (5 * p + g)).toNat < 64 := fun p hp g hg h => (hc _ (by have := hL p g hp hg; omega)).2
  have key : ∀ g, g < 5 → (((if L (5 * p + g) = -5 then 64 else c (L (5 * p + g)).toNat) = if L (5 * q + g) = -5 then 64 else c (L (5 * q + g)).toNat) ↔ (L (5 * p + g) = -5 ↔ L (5 * q + g) = -5) ∧ (L (5 * p + g) ≠ -5 → c (L (5 * p + g)).toNat = c (L (5 * q + g)).toNat)) := by
    intro g hg
    have w1 := w p hp g hg
    have w2 := w q hq g hg
    by_cases h1 : L (5 * p + g) = -5 <;> by_cases h2 : L (5 * q + g) = -5
    · simp only [if_pos h1, if_pos h2, h1, h2]; simp
    · have := w2 h2
      simp only [if_pos h1, if_neg h2]
      constructor
      · intro e; omega
      · intro e; exact absurd (e.1.mp h1) h2
    · have := w1 h1
      simp only [if_neg h1, if_pos h2]
      constructor
      · intro e; omega
      · intro e; exact absurd (e.1.mpr h2) h1
    · simp only [if_neg h1, if_neg h2]
      exact ⟨fun e => ⟨by simp [h1, h2], fun _ => e⟩, fun e => e.2 h1⟩
  have k0 := key 0 (by omega)
  have k1 := key 1 (by omega)
  have k2 := key 2 (by omega)
  have k3 := key 3 (by omega)
  have k4 := key 4 (by omega)
  have s : (∀ g, g < 5 → (L (5 * p + g) = -5 ↔ L (5 * q + g) = -5) ∧ (L (5 * p + g) ≠ -5 → c (L (5 * p + g)).toNat = c (L (5 * q + g)).toNat)) ↔ ∀ g, g < 5 → ((if L (5 * p + g) = -5 then 64 else c (L (5 * p + g)).toNat) = if L (5 * q + g) = -5 then 64 else c (L (5 * q + g)).toNat) := ⟨fun h g hg => (key g hg).mpr (h g hg), fun h g hg => (key g hg).mp (h g hg)⟩
  rw [s]
  clear s k0 k1 k2 k3 k4 key w
  have u0 := u p 0
  have u1 := u p 1
  have u2 := u p 2
  have u3 := u p 3
  have u4 := u p 4
  have v0 := u q 0
  have v1 := u q 1
  have v2 := u q 2
  have v3 := u q 3
  have v4 := u q 4
  simp only [Nat.reduceAdd] at u0 u1 u2 u3 u4 v0 v1 v2 v3 v4
  have z1 : kyS L c p 0 = 0 := rfl
  have z2 : kyS L c q 0 = 0 := rfl
  generalize hA : (fun g => if L (5 * p + g) = -5 then 64 else c (L (5 * p + g)).toNat) = A at *
  generalize hB : (fun g => if L (5 * q + g) = -5 then 64 else c (L (5 * q + g)).toNat) = B at *
  have a : ∀ g, (if L (5 * p + g) = -5 then 64 else c (L (5 * p + g)).toNat) = A g := fun g => by rw [← hA]
  have b : ∀ g, (if L (5 * q + g) = -5 then 64 else c (L (5 * q + g)).toNat) = B g := fun g => by rw [← hB]
  simp only [a, b] at *
  clear hA hB a b u
  have c0 := b1 0 (by omega)
  have c1 := b1 1 (by omega)
  have c2 := b1 2 (by omega)
  have c3 := b1 3 (by omega)
  have c4 := b1 4 (by omega)
  have d0 := b2 0 (by omega)
  have d1 := b2 1 (by omega)
  have d2 := b2 2 (by omega)
  have d3 := b2 3 (by omega)
  have d4 := b2 4 (by omega)
  refine ⟨by omega, fun e => ?_, fun e => ?_⟩
  · have f4 : kyS L c p 4 = kyS L c q 4 ∧ A 4 = B 4 := by omega
    have f3 : kyS L c p 3 = kyS L c q 3 ∧ A 3 = B 3 := by omega
    have f2 : kyS L c p 2 = kyS L c q 2 ∧ A 2 = B 2 := by omega
    have f1 : kyS L c p 1 = kyS L c q 1 ∧ A 1 = B 1 := by omega
    have f0 : A 0 = B 0 := by omega
    intro g hg
    rcases (show g = 0 ∨ g = 1 ∨ g = 2 ∨ g = 3 ∨ g = 4 by omega) with rfl | rfl | rfl | rfl | rfl
    · exact f0
    · exact f1.2
    · exact f2.2
    · exact f3.2
    · exact f4.2
  · have e0 := e 0 (by omega)
    have e1 := e 1 (by omega)
    have e2 := e 2 (by omega)
    have e3 := e 3 (by omega)
    have e4 := e 4 (by omega)
    omega
