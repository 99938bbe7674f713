/-- one number for each state -/
def BS (M : Nat → Nat → Int) (S : Nat) (x : Nat → Int) (t : Int) : Prop := ∀ s, s < S → cg (dt_ (M s) x S + 10 * t) 0
def one_ (M : Nat → Nat → Int) (S : Nat) (v : Nat → Int) : Prop := (∀ s, s < S → 0 ≤ v s ∧ v s < 1000003) ∧ BS M S v (-1) ∧ ∀ x, BS M S x 0 → ∀ s, s < S → cg (x s) 0
def none_ (M : Nat → Nat → Int) (S : Nat) : Prop := ∃ x, BS M S x 0 ∧ ∃ s, s < S ∧ ¬ cg (x s) 0
theorem BS_sub {M : Nat → Nat → Int} {S : Nat} {x y : Nat → Int} {t u : Int} (h : BS M S x t) (g : BS M S y u) : BS M S (fun s => x s - y s) (t - u) := by
  intro s hs
  have e : dt_ (M s) (fun s => x s - y s) S = dt_ (M s) x S - dt_ (M s) y S := by
    unfold dt_
    have : ∀ i, sm_ (fun c => M s c * (x c - y c)) i = sm_ (fun c => M s c * x c) i - sm_ (fun c => M s c * y c) i := by
      intro i
      induction i with
      | zero => rfl
      | succ i ih => show sm_ (fun c => M s c * (x c - y c)) i + M s i * (x i - y i) = (sm_ (fun c => M s c * x c) i + M s i * x i) - (sm_ (fun c => M s c * y c) i + M s i * y i); rw [ih, Int.mul_sub]; omega
    exact this S
  obtain ⟨k, hk⟩ := h s hs
  obtain ⟨j, hj⟩ := g s hs
  exact ⟨k - j, by rw [e]; omega⟩
theorem one_one {M : Nat → Nat → Int} {S : Nat} {v w : Nat → Int} (h : one_ M S v) (g : one_ M S w) : ∀ s, s < S → v s = w s := by
  intro s hs
  have d := BS_sub h.2.1 g.2.1
  have e := h.2.2 (fun s => v s - w s) d s hs
  refine cg_eq ?_ (h.1 s hs) (g.1 s hs)
  obtain ⟨k, hk⟩ := e
  exact ⟨k, by omega⟩
theorem one_none {M : Nat → Nat → Int} {S : Nat} {v : Nat → Int} (h : one_ M S v) (g : none_ M S) : False := by
  obtain ⟨x, a, s, hs, b⟩ := g
  exact b (h.2.2 x a s hs)
/-- the columns below c are cleared -/
def clI (S : Nat) (tb : Nat → Int) (c : Nat) : Prop := (∀ s k, s < S → k < 65 → 0 ≤ tb (65 * s + k) ∧ tb (65 * s + k) < 1000003) ∧ ∀ s k, s < S → k < c → tb (65 * s + k) = if s = k then 1 else 0
theorem p_findRow {n : Nat} (hn : 1000 ≤ n) {S : Nat} (hS : S ≤ 64) {tb : Nat → Int} {c : Nat} (h : clI S tb c) (hc : c < S) : ∃ p : Nat, lp_ (fun (q : Int) => F_X12_solve_L12 n S c tb q) n (c : Int) = some (p : Int) ∧ c ≤ p ∧ p ≤ S ∧ (∀ s, c ≤ s → s < p → tb (65 * s + c) = 0) ∧ (p < S → tb (65 * p + c) ≠ 0) := by
  obtain ⟨r, h1, p, h2, h3⟩ := lp_rule (f := fun (q : Int) => F_X12_solve_L12 n S c tb q) (fun i q => q = ((c + i : Nat) : Int) ∧ c + i ≤ S ∧ ∀ s, c ≤ s → s < c + i → tb (65 * s + c) = 0)
    (fun r => ∃ p : Nat, r = (p : Int) ∧ c ≤ p ∧ p ≤ S ∧ (∀ s, c ≤ s → s < p → tb (65 * s + c) = 0) ∧ (p < S → tb (65 * p + c) ≠ 0)) (N := S) (n := n) (s := (c : Int)) (by omega) ⟨rfl, by omega, fun s a b => by omega⟩ (fun i q hI hi => by
    obtain ⟨rfl, c1, c2⟩ := hI
    by_cases hlt : c + i < S
    · have t1 : (65 * ((c + i : Nat) : Int) + (c : Int)).toNat = 65 * (c + i) + c := by omega
      have b := h.1 (c + i) c hlt (by omega)
      by_cases e : tb (65 * (c + i) + c) = 0
      · left
        refine ⟨((c + i : Nat) : Int) + 1, ?_, ⟨by omega, by omega, fun s x y => ?_⟩, by omega⟩
        · refine (ck_pos (by omega)).trans ((if_pos (by omega)).trans ((ck_pos (by omega)).trans ?_))
          rw [t1]
          exact (ck_pos (by omega)).trans (if_pos e)
        · by_cases e2 : s = c + i
          · rw [e2]; exact e
          · exact c2 s x (by omega)
      · right
        refine ⟨((c + i : Nat) : Int), ?_, c + i, rfl, by omega, by omega, c2, fun _ => e⟩
        refine (ck_pos (by omega)).trans ((if_pos (by omega)).trans ((ck_pos (by omega)).trans ?_))
        rw [t1]
        exact (ck_pos (by omega)).trans (if_neg e)
    · right
      exact ⟨_, (ck_pos (by omega)).trans (if_neg (by omega)), c + i, rfl, by omega, by omega, c2, fun x => absurd x hlt⟩)
  exact ⟨p, by rw [h1, h2], h3⟩
theorem p_column {n : Nat} (hn : 1000 ≤ n) {S : Nat} (hS : S ≤ 64) {tb : Nat → Int} {c p : Nat} (h : clI S tb c) (hc : c < S) (hp : c ≤ p ∧ p < S) (hz : tb (65 * p + c) ≠ 0) : ∃ o8 o10 o11 o16, F_X12_change n tb p c = some o8 ∧ F_X12_inverse n (o8 (66 * c)) = some o10 ∧ lp_ (fun (q : Int × (Nat → Int)) => F_X12_solve_L74 n c o10 q.1 q.2) n (0, o8) = some o11 ∧ lp_ (fun (q : Int × (Nat → Int)) => F_X12_solve_L120 n S c q.1 q.2) n (0, o11) = some o16 ∧ clI S o16 (c + 1) ∧ (∀ k, k < 64 → (∀ s, s < S → tb (65 * s + k) = 0) → ∀ s, s < S → o16 (65 * s + k) = 0) ∧ ∀ y, HS (fun s k => o16 (65 * s + k)) S 65 y ↔ HS (fun s k => tb (65 * s + k)) S 65 y := by
  obtain ⟨o8, a1, a2⟩ := p_change hn tb (p := p) (c := c) (by omega) (by omega)
  have e66 : o8 (66 * c) = tb (65 * p + c) := by
    rw [show 66 * c = 65 * c + c by omega, a2 c c (by omega)]
    by_cases e : c = p
    · rw [if_pos e, ← e]
    · rw [if_neg e, if_pos rfl]
  have b8 : ∀ s k, s < S → k < 65 → 0 ≤ o8 (65 * s + k) ∧ o8 (65 * s + k) < 1000003 := fun s k hs hk => by
    rw [a2 s k hk]
    split
    · exact h.1 c k hc hk
    · split
      · exact h.1 p k hp.2 hk
      · exact h.1 s k hs hk
  have bp := h.1 p c hp.2 (by omega)
  obtain ⟨r, i1, i2, i3⟩ := p_inverse hn (a := tb (65 * p + c)) (by omega)
  obtain ⟨o11, s1, s2⟩ := p_scaleM hn hS b8 hc i2
  have b11 : ∀ s k, s < S → k < 65 → 0 ≤ o11 (65 * s + k) ∧ o11 (65 * s + k) < 1000003 := fun s k hs hk => by
    rw [s2 s k hk]
    split
    · exact md_b _
    · exact b8 s k hs hk
  -- below c
  have l8 : ∀ s k, s < S → k < c → o8 (65 * s + k) = if s = k then 1 else 0 := fun s k hs hk => by
    rw [a2 s k (by omega)]
    by_cases e1 : s = p
    · rw [if_pos e1, h.2 c k hc hk, if_neg (by omega), if_neg (by omega)]
    · rw [if_neg e1]
      by_cases e2 : s = c
      · rw [if_pos e2, h.2 p k hp.2 hk, if_neg (by omega), if_neg (by omega)]
      · rw [if_neg e2, h.2 s k hs hk]
  have l11 : ∀ s k, s < S → k < c → o11 (65 * s + k) = if s = k then 1 else 0 := fun s k hs hk => by
    rw [s2 s k (by omega)]
    by_cases e : s = c
    · rw [if_pos e, l8 c k hc hk, if_neg (by omega), if_neg (by omega), Int.zero_mul]
      rfl
    · rw [if_neg e, l8 s k hs hk]
  have cc : o11 (65 * c + c) = 1 := by
    have x := s2 c c (by omega)
    rw [if_pos rfl, show 65 * c + c = 66 * c by omega, e66] at x
    rw [show 65 * c + c = 66 * c by omega]
    refine cg_eq ?_ (by rw [x]; exact md_b _) (by omega)
    rw [x]
    refine cg_tr (cg_mod _) ?_
    rw [Int.mul_comm]
    exact i3
  obtain ⟨o16, h1, h2⟩ := lp_rule (f := fun (q : Int × (Nat → Int)) => F_X12_solve_L120 n S c q.1 q.2) (fun i q => ∃ T : Nat → Int, q = ((i : Int), T) ∧ i ≤ S ∧ ∀ s k, k < 65 → T (65 * s + k) = if s < i ∧ s ≠ c ∧ o11 (65 * s + c) ≠ 0 then (o11 (65 * s + k) + (1000003 - o11 (65 * s + c)) * o11 (65 * c + k)) % 1000003 else o11 (65 * s + k))
    (fun T => ∀ s k, s < S → k < 65 → T (65 * s + k) = if s ≠ c ∧ o11 (65 * s + c) ≠ 0 then (o11 (65 * s + k) + (1000003 - o11 (65 * s + c)) * o11 (65 * c + k)) % 1000003 else o11 (65 * s + k)) (N := S) (n := n) (s := (0, o11)) (by omega) ⟨o11, rfl, by omega, fun s k hk => by rw [if_neg (fun x => by omega)]⟩ (fun i q hI hi => by
    obtain ⟨T, rfl, c0, c1⟩ := hI
    dsimp only
    by_cases hlt : i < S
    · left
      have t1 : (65 * (i : Int) + (c : Int)).toNat = 65 * i + c := by omega
      have bT : ∀ s k, s < S → k < 65 → 0 ≤ T (65 * s + k) ∧ T (65 * s + k) < 1000003 := fun s k hs hk => by
        rw [c1 s k hk]
        split
        · exact md_b _
        · exact b11 s k hs hk
      have Ti : ∀ k, k < 65 → T (65 * i + k) = o11 (65 * i + k) := fun k hk => by rw [c1 i k hk, if_neg (fun x => by omega)]
      have Tc : ∀ k, k < 65 → T (65 * c + k) = o11 (65 * c + k) := fun k hk => by rw [c1 c k hk, if_neg (fun x => x.2.1 rfl)]
      by_cases ec : i = c
      · have st0 : F_X12_solve_L156 n 0 (i : Int) (c : Int) 0 T = some (.inr T) := (ck_pos (by omega)).trans ((if_pos (by omega)).trans ((ck_pos (by omega)).trans (if_pos rfl)))
        have lp0 : lp_ (fun (q : Int × (Nat → Int)) => F_X12_solve_L156 n 0 i c q.1 q.2) n (0, T) = some T := by
          obtain ⟨m, rfl⟩ : ∃ k, n = k + 1 := ⟨n - 1, by omega⟩
          exact lp_end st0
        refine ⟨((i : Int) + 1, T), ?_, ⟨T, rfl, by omega, fun s k hk => ?_⟩, hlt⟩
        · exact (ck_pos (by omega)).trans ((if_pos (by omega)).trans ((bd_of (a := (0 : Int)) ((ck_pos (by omega)).trans (if_pos (by omega)))).trans ((bd_of lp0).trans rfl)))
        · rw [c1 s k hk]
          by_cases x : s < i ∧ s ≠ c ∧ o11 (65 * s + c) ≠ 0
          · rw [if_pos x, if_pos ⟨by omega, x.2⟩]
          · rw [if_neg x, if_neg (fun y => x ⟨by omega, y.2⟩)]
      · have bi := b11 i c hlt (by omega)
        obtain ⟨T2, u1, u2⟩ := p_subM hn hS bT hc hlt ec (f := o11 (65 * i + c)) bi
        refine ⟨((i : Int) + 1, T2), ?_, ⟨T2, rfl, by omega, fun s k hk => ?_⟩, hlt⟩
        · refine (ck_pos (by omega)).trans ((if_pos (by omega)).trans ((bd_of (a := o11 (65 * i + c)) ?_).trans ((bd_of u1).trans rfl)))
          refine (ck_pos (by omega)).trans ((if_neg (by omega)).trans ((ck_pos (by omega)).trans ?_))
          rw [t1, Ti c (by omega)]
        · rw [u2 s k hk]
          by_cases es : s = i
          · subst es
            rw [Ti k hk, Tc k hk]
            by_cases z : o11 (65 * s + c) ≠ 0
            · rw [if_pos ⟨rfl, z⟩, if_pos ⟨by omega, ec, z⟩]
            · rw [if_neg (fun x => z x.2), if_neg (fun x => z x.2.2)]
          · rw [if_neg (fun x => es x.1), c1 s k hk]
            by_cases x : s < i ∧ s ≠ c ∧ o11 (65 * s + c) ≠ 0
            · rw [if_pos x, if_pos ⟨by omega, x.2⟩]
            · rw [if_neg x, if_neg (fun y => x ⟨by omega, y.2⟩)]
    · right
      have : i = S := by omega
      subst this
      refine ⟨T, (ck_pos (by omega)).trans (if_neg (by omega)), fun s k hs hk => ?_⟩
      rw [c1 s k hk]
      by_cases x : s ≠ c ∧ o11 (65 * s + c) ≠ 0
      · rw [if_pos x, if_pos ⟨hs, x⟩]
      · rw [if_neg x, if_neg (fun y => x y.2)])
  refine ⟨o8, r, o11, o16, a1, by rw [e66]; exact i1, s1, h1, ⟨fun s k hs hk => ?_, fun s k hs hk => ?_⟩, fun k hk z s hs => ?_, fun y => ?_⟩
  · rw [h2 s k hs hk]
    split
    · exact md_b _
    · exact b11 s k hs hk
  · rw [h2 s k hs (by omega)]
    by_cases ek : k = c
    · subst ek
      by_cases x : s ≠ k ∧ o11 (65 * s + k) ≠ 0
      · rw [if_pos x, cc, if_neg x.1]
        omega
      · rw [if_neg x]
        by_cases e : s = k
        · rw [if_pos e, e]; exact cc
        · rw [if_neg e]
          exact Classical.byContradiction (fun z => x ⟨e, z⟩)
    · have kc : k < c := by omega
      by_cases x : s ≠ c ∧ o11 (65 * s + c) ≠ 0
      · rw [if_pos x, l11 s k hs kc, l11 c k hc kc, if_neg (show ¬ c = k by omega), Int.mul_zero]
        split <;> rfl
      · rw [if_neg x, l11 s k hs kc]
  · have z8 : ∀ s, s < S → o8 (65 * s + k) = 0 := fun s hs => by
      rw [a2 s k (by omega)]
      split
      · exact z c hc
      · split
        · exact z p hp.2
        · exact z s hs
    have z11 : ∀ s, s < S → o11 (65 * s + k) = 0 := fun s hs => by
      rw [s2 s k (by omega)]
      split
      · rw [z8 c hc, Int.zero_mul]; rfl
      · exact z8 s hs
    rw [h2 s k hs (by omega)]
    split
    · rw [z11 s hs, z11 c hc, Int.mul_zero]; rfl
    · exact z11 s hs
  · have q1 := HS_sub (R := fun s k => o11 (65 * s + k)) (R' := fun s k => o16 (65 * s + k)) (S := S) (K := 65) (p := c) hc (fun k hk => by
      rw [h2 c k hc hk, if_neg (fun x => x.1 rfl)]) (fun s hs hsc => by
      by_cases z : o11 (65 * s + c) ≠ 0
      · refine ⟨1000003 - o11 (65 * s + c), fun k hk => ?_⟩
        rw [h2 s k hs hk, if_pos ⟨hsc, z⟩]
        exact cg_mod _
      · refine ⟨0, fun k hk => ?_⟩
        rw [h2 s k hs hk, if_neg (fun x => z x.2), Int.zero_mul, Int.add_zero]
        exact cg_rf _) y
    have q2 := HS_scale (R := fun s k => o8 (65 * s + k)) (R' := fun s k => o11 (65 * s + k)) (S := S) (K := 65) (p := c) (r := r) (a := tb (65 * p + c)) (fun s hs hsc k hk => by
      rw [s2 s k hk, if_neg hsc]) (fun k hk => by
      rw [s2 c k hk, if_pos rfl]
      exact cg_mod _) i3 y
    have q3 := HS_swap (R := fun s k => tb (65 * s + k)) (R' := fun s k => o8 (65 * s + k)) (S := S) (K := 65) (p := p) (q := c) hp.2 hc (fun s hs k hk => a2 s k hk) y
    exact q1.trans (q2.trans q3)
