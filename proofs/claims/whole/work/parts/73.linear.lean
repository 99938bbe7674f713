/-! lines by the prime -/
def dt_ (r y : Nat → Int) (K : Nat) : Int := sm_ (fun c => r c * y c) K
def HS (R : Nat → Nat → Int) (S K : Nat) (y : Nat → Int) : Prop := ∀ s, s < S → cg (dt_ (R s) y K) 0
theorem sm_cg {f g : Nat → Int} {N : Nat} (h : ∀ i, i < N → cg (f i) (g i)) : ∀ i, i ≤ N → cg (sm_ f i) (sm_ g i) := by
  intro i
  induction i with
  | zero => intro _; exact cg_rf 0
  | succ i ih => intro hi; exact cg_add (ih (by omega)) (h i (by omega))
theorem dt_cg {r r' y : Nat → Int} {K : Nat} (h : ∀ c, c < K → cg (r c) (r' c)) : cg (dt_ r y K) (dt_ r' y K) := sm_cg (N := K) (fun c hc => cg_mul (h c hc) (y c)) K (Nat.le_refl K)
theorem dt_mul (r y : Nat → Int) (x : Int) (K : Nat) : dt_ (fun c => r c * x) y K = dt_ r y K * x := by
  unfold dt_
  rw [← sm_mul]
  refine sm_congr (N := K) (fun c hc => ?_) K (Nat.le_refl K)
  rw [Int.mul_assoc, Int.mul_assoc, Int.mul_comm x]
theorem dt_add (r q y : Nat → Int) (f : Int) (K : Nat) : dt_ (fun c => r c + f * q c) y K = dt_ r y K + f * dt_ q y K := by
  unfold dt_
  rw [Int.mul_comm f, ← sm_mul, ← sm_add]
  refine sm_congr (N := K) (fun c hc => ?_) K (Nat.le_refl K)
  rw [Int.add_mul, Int.mul_comm f (q c), Int.mul_assoc, Int.mul_assoc, Int.mul_comm f]
theorem HS_scale {R R' : Nat → Nat → Int} {S K p : Nat} {r a : Int} (h : ∀ s, s < S → s ≠ p → ∀ c, c < K → R' s c = R s c) (hp : ∀ c, c < K → cg (R' p c) (R p c * r)) (ha : cg (r * a) 1) (y : Nat → Int) : HS R' S K y ↔ HS R S K y := by
  have e : ∀ s, s < S → s ≠ p → dt_ (R' s) y K = dt_ (R s) y K := fun s hs hsp => sm_congr (N := K) (fun c hc => by rw [h s hs hsp c hc]) K (Nat.le_refl K)
  have f : cg (dt_ (R' p) y K) (dt_ (R p) y K * r) := by rw [← dt_mul]; exact dt_cg hp
  constructor
  · intro g s hs
    by_cases c : s = p
    · subst c
      have g1 := cg_tr (cg_sy f) (g s hs)
      have g2 := cg_mul g1 a
      rw [Int.mul_assoc, Int.zero_mul] at g2
      have g3 := cg_mul' ha (dt_ (R s) y K)
      rw [Int.mul_one] at g3
      exact cg_tr (cg_sy g3) g2
    · rw [← e s hs c]; exact g s hs
  · intro g s hs
    by_cases c : s = p
    · subst c
      have g2 := cg_mul (g s hs) r
      rw [Int.zero_mul] at g2
      exact cg_tr f g2
    · rw [e s hs c]; exact g s hs
theorem HS_sub {R R' : Nat → Nat → Int} {S K p : Nat} (hpS : p < S) (hp : ∀ c, c < K → R' p c = R p c) (h : ∀ s, s < S → s ≠ p → ∃ f : Int, ∀ c, c < K → cg (R' s c) (R s c + f * R p c)) (y : Nat → Int) : HS R' S K y ↔ HS R S K y := by
  have ep : dt_ (R' p) y K = dt_ (R p) y K := sm_congr (N := K) (fun c hc => by rw [hp c hc]) K (Nat.le_refl K)
  have e : ∀ s, s < S → s ≠ p → ∃ f : Int, cg (dt_ (R' s) y K) (dt_ (R s) y K + f * dt_ (R p) y K) := fun s hs hsp => by
    obtain ⟨f, hf⟩ := h s hs hsp
    exact ⟨f, by rw [← dt_add]; exact dt_cg hf⟩
  constructor
  · intro g s hs
    by_cases c : s = p
    · subst c; rw [← ep]; exact g s hs
    · obtain ⟨f, hf⟩ := e s hs c
      have g0 := g p hpS
      rw [ep] at g0
      have g1 := cg_mul' g0 f
      rw [Int.mul_zero] at g1
      have g2 := cg_tr (cg_sy (g s hs)) hf
      have g3 := cg_add (cg_rf (dt_ (R s) y K)) g1
      rw [Int.add_zero] at g3
      exact cg_sy (cg_tr g2 g3)
  · intro g s hs
    by_cases c : s = p
    · subst c; rw [ep]; exact g s hs
    · obtain ⟨f, hf⟩ := e s hs c
      have g1 := cg_mul' (g p hpS) f
      rw [Int.mul_zero] at g1
      have g3 := cg_add (g s hs) g1
      exact cg_tr hf g3
theorem HS_swap {R R' : Nat → Nat → Int} {S K p q : Nat} (hp : p < S) (hq : q < S) (h : ∀ s, s < S → ∀ c, c < K → R' s c = if s = p then R q c else if s = q then R p c else R s c) (y : Nat → Int) : HS R' S K y ↔ HS R S K y := by
  have e : ∀ s, s < S → dt_ (R' s) y K = dt_ (if s = p then R q else if s = q then R p else R s) y K := fun s hs => sm_congr (N := K) (fun c hc => by
    show R' s c * y c = _
    rw [h s hs c hc]
    by_cases e1 : s = p
    · rw [if_pos e1, if_pos e1]
    · rw [if_neg e1, if_neg e1]
      by_cases e2 : s = q
      · rw [if_pos e2, if_pos e2]
      · rw [if_neg e2, if_neg e2]) K (Nat.le_refl K)
  constructor
  · intro g s hs
    by_cases c1 : s = p
    · have := g q hq
      rw [e q hq] at this
      by_cases c2 : q = p
      · rw [if_pos c2] at this; rw [c1, ← c2]; exact this
      · rw [if_neg c2, if_pos rfl] at this; rw [c1]; exact this
    · by_cases c2 : s = q
      · have := g p hp
        rw [e p hp, if_pos rfl] at this
        rw [c2]; exact this
      · have := g s hs
        rw [e s hs, if_neg c1, if_neg c2] at this
        exact this
  · intro g s hs
    rw [e s hs]
    split
    · exact g q hq
    · split
      · exact g p hp
      · exact g s hs
theorem HS_id {R R' : Nat → Nat → Int} {S K : Nat} (h : ∀ s, s < S → ∀ c, c < K → R' s c = R s c) (y : Nat → Int) : HS R' S K y ↔ HS R S K y := by
  have e : ∀ s, s < S → dt_ (R' s) y K = dt_ (R s) y K := fun s hs => sm_congr (N := K) (fun c hc => by rw [h s hs c hc]) K (Nat.le_refl K)
  exact ⟨fun g s hs => by rw [← e s hs]; exact g s hs, fun g s hs => by rw [e s hs]; exact g s hs⟩
/-! the model's table -/
theorem up65 {T : Nat → Int} {s k s' k' : Nat} {x : Int} (hk : k < 65) (hk' : k' < 65) : up_ T (65 * s + k) x (65 * s' + k') = if s' = s ∧ k' = k then x else T (65 * s' + k') := by
  by_cases e : s' = s ∧ k' = k
  · rw [if_pos e, e.1, e.2, up_at]
  · rw [if_neg e, up_off (by omega)]
theorem p_change {n : Nat} (hn : 1000 ≤ n) (tb : Nat → Int) {p c : Nat} (hp : p < 64) (hc : c < 64) : ∃ tb', F_X12_change n tb p c = some tb' ∧ ∀ s k, k < 65 → tb' (65 * s + k) = if s = p then tb (65 * c + k) else if s = c then tb (65 * p + k) else tb (65 * s + k) := by
  by_cases e : p = c
  · subst e
    refine ⟨tb, ?_, fun s k hk => ?_⟩
    · have st : F_X12_change_L2 n (p : Int) (p : Int) 0 tb = some (.inr tb) := (ck_pos (by omega)).trans ((if_pos (by omega)).trans ((ck_pos (by omega)).trans (if_pos rfl)))
      have h : lp_ (fun (q : Int × (Nat → Int)) => F_X12_change_L2 n (p : Int) (p : Int) q.1 q.2) n (0, tb) = some tb := by
        obtain ⟨m, rfl⟩ : ∃ k, n = k + 1 := ⟨n - 1, by omega⟩
        exact lp_end st
      exact (bd_of h).trans rfl
    · by_cases e : s = p
      · rw [if_pos e, e]
      · rw [if_neg e, if_neg e]
  · obtain ⟨r, h1, h2⟩ := lp_rule (f := fun (q : Int × (Nat → Int)) => F_X12_change_L2 n (p : Int) (c : Int) q.1 q.2) (fun i q => ∃ T : Nat → Int, q = ((i : Int), T) ∧ ∀ s k, k < 65 → T (65 * s + k) = if k < i then (if s = p then tb (65 * c + k) else if s = c then tb (65 * p + k) else tb (65 * s + k)) else tb (65 * s + k))
      (fun T => ∀ s k, k < 65 → T (65 * s + k) = if s = p then tb (65 * c + k) else if s = c then tb (65 * p + k) else tb (65 * s + k)) (N := 65) (n := n) (s := (0, tb)) (by omega) ⟨tb, rfl, fun s k hk => by rw [if_neg (by omega)]⟩ (fun i q hI hi => by
      obtain ⟨T, rfl, c1⟩ := hI
      dsimp only
      by_cases hlt : i < 65
      · left
        have t1 : (65 * (p : Int) + (i : Int)).toNat = 65 * p + i := by omega
        have t2 : (65 * (c : Int) + (i : Int)).toNat = 65 * c + i := by omega
        refine ⟨((i : Int) + 1, up_ (up_ T (65 * p + i) (T (65 * c + i))) (65 * c + i) (T (65 * p + i))), ?_, ⟨_, rfl, fun s k hk => ?_⟩, hlt⟩
        · refine (ck_pos (by omega)).trans ((if_pos (by omega)).trans ((ck_pos (by omega)).trans ((if_neg (by omega)).trans ((ck_pos (by omega)).trans ((ck_pos (by omega)).trans ((ck_pos (by omega)).trans ((ck_pos (by omega)).trans ?_)))))))
          rw [t1, t2]
        · have d1 := c1 c i hlt
          have d2 := c1 p i hlt
          rw [if_neg (show ¬ i < i by omega)] at d1 d2
          rw [up65 hlt hk, up65 hlt hk, d1, d2, c1 s k hk]
          by_cases ek : k = i
          · subst ek
            rw [if_pos (show k < k + 1 by omega), if_neg (show ¬ k < k by omega)]
            by_cases e1 : s = p
            · subst e1
              rw [if_neg (show ¬ (s = c ∧ k = k) from fun x => e x.1), if_pos ⟨rfl, rfl⟩, if_pos rfl]
            · by_cases e2 : s = c
              · subst e2
                rw [if_pos ⟨rfl, rfl⟩, if_neg e1, if_pos rfl]
              · rw [if_neg (fun x => e2 x.1), if_neg (fun x => e1 x.1), if_neg e1, if_neg e2]
          · rw [if_neg (fun x => ek x.2), if_neg (fun x => ek x.2)]
            by_cases e3 : k < i
            · rw [if_pos e3, if_pos (show k < i + 1 by omega)]
            · rw [if_neg e3, if_neg (show ¬ k < i + 1 by omega)]
      · right
        have : i = 65 := by omega
        subst this
        exact ⟨T, (ck_pos (by omega)).trans (if_neg (by omega)), fun s k hk => by rw [c1 s k hk, if_pos hk]⟩)
    exact ⟨r, (bd_of h1).trans rfl, h2⟩
theorem p_scaleM {n : Nat} (hn : 1000 ≤ n) {S : Nat} (hS : S ≤ 64) {tb : Nat → Int} (hb : ∀ s k, s < S → k < 65 → 0 ≤ tb (65 * s + k) ∧ tb (65 * s + k) < 1000003) {c : Nat} (hc : c < S) {r : Int} (hr : 0 ≤ r ∧ r < 1000003) : ∃ tb', lp_ (fun (q : Int × (Nat → Int)) => F_X12_solve_L74 n c r q.1 q.2) n (0, tb) = some tb' ∧ ∀ s k, k < 65 → tb' (65 * s + k) = if s = c then (tb (65 * c + k) * r) % 1000003 else tb (65 * s + k) := by
  obtain ⟨o, h1, h2⟩ := lp_rule (f := fun (q : Int × (Nat → Int)) => F_X12_solve_L74 n c r q.1 q.2) (fun i q => ∃ T : Nat → Int, q = ((i : Int), T) ∧ ∀ s k, k < 65 → T (65 * s + k) = if s = c ∧ k < i then (tb (65 * c + k) * r) % 1000003 else tb (65 * s + k))
    (fun T => ∀ s k, k < 65 → T (65 * s + k) = if s = c then (tb (65 * c + k) * r) % 1000003 else tb (65 * s + k)) (N := 65) (n := n) (s := (0, tb)) (by omega) ⟨tb, rfl, fun s k hk => by rw [if_neg (by omega)]⟩ (fun i q hI hi => by
    obtain ⟨T, rfl, c1⟩ := hI
    dsimp only
    by_cases hlt : i < 65
    · left
      have t1 : (65 * (c : Int) + (i : Int)).toNat = 65 * c + i := by omega
      have d1 := c1 c i hlt
      rw [if_neg (show ¬ (c = c ∧ i < i) from fun x => by omega)] at d1
      have b := ml_b (hb c i hc hlt) (show 0 ≤ r ∧ r ≤ 1000003 by omega)
      refine ⟨((i : Int) + 1, up_ T (65 * c + i) ((tb (65 * c + i) * r) % 1000003)), ?_, ⟨_, rfl, fun s k hk => ?_⟩, hlt⟩
      · refine (ck_pos (by omega)).trans ((if_pos (by omega)).trans ((ck_pos (by omega)).trans ?_))
        rw [t1, d1]
        exact (ck_pos (by omega)).trans (ck_pos (by omega))
      · rw [up65 hlt hk, c1 s k hk]
        by_cases e : s = c ∧ k = i
        · rw [if_pos e, if_pos ⟨e.1, by omega⟩, e.2]
        · rw [if_neg e]
          by_cases e2 : s = c ∧ k < i
          · rw [if_pos e2, if_pos ⟨e2.1, by omega⟩]
          · rw [if_neg e2, if_neg (fun x => by omega)]
    · right
      have : i = 65 := by omega
      subst this
      refine ⟨T, (ck_pos (by omega)).trans (if_neg (by omega)), fun s k hk => ?_⟩
      rw [c1 s k hk]
      by_cases e : s = c
      · rw [if_pos ⟨e, hk⟩, if_pos e]
      · rw [if_neg (fun x => e x.1), if_neg e])
  exact ⟨o, h1, h2⟩
theorem p_subM {n : Nat} (hn : 1000 ≤ n) {S : Nat} (hS : S ≤ 64) {tb : Nat → Int} (hb : ∀ s k, s < S → k < 65 → 0 ≤ tb (65 * s + k) ∧ tb (65 * s + k) < 1000003) {c t : Nat} (hc : c < S) (ht : t < S) (hct : t ≠ c) {f : Int} (hf : 0 ≤ f ∧ f < 1000003) : ∃ tb', lp_ (fun (q : Int × (Nat → Int)) => F_X12_solve_L156 n f t c q.1 q.2) n (0, tb) = some tb' ∧ ∀ s k, k < 65 → tb' (65 * s + k) = if s = t ∧ f ≠ 0 then (tb (65 * t + k) + (1000003 - f) * tb (65 * c + k)) % 1000003 else tb (65 * s + k) := by
  by_cases f0 : f = 0
  · refine ⟨tb, ?_, fun s k hk => by rw [if_neg (fun x => x.2 f0)]⟩
    have st : F_X12_solve_L156 n f (t : Int) (c : Int) 0 tb = some (.inr tb) := (ck_pos (by omega)).trans ((if_pos (by omega)).trans ((ck_pos (by omega)).trans (if_pos f0)))
    obtain ⟨m, rfl⟩ : ∃ k, n = k + 1 := ⟨n - 1, by omega⟩
    exact lp_end st
  · obtain ⟨o, h1, h2⟩ := lp_rule (f := fun (q : Int × (Nat → Int)) => F_X12_solve_L156 n f t c q.1 q.2) (fun i q => ∃ T : Nat → Int, q = ((i : Int), T) ∧ ∀ s k, k < 65 → T (65 * s + k) = if s = t ∧ k < i then (tb (65 * t + k) + (1000003 - f) * tb (65 * c + k)) % 1000003 else tb (65 * s + k))
      (fun T => ∀ s k, k < 65 → T (65 * s + k) = if s = t ∧ f ≠ 0 then (tb (65 * t + k) + (1000003 - f) * tb (65 * c + k)) % 1000003 else tb (65 * s + k)) (N := 65) (n := n) (s := (0, tb)) (by omega) ⟨tb, rfl, fun s k hk => by rw [if_neg (by omega)]⟩ (fun i q hI hi => by
      obtain ⟨T, rfl, c1⟩ := hI
      dsimp only
      by_cases hlt : i < 65
      · left
        have t1 : (65 * (t : Int) + (i : Int)).toNat = 65 * t + i := by omega
        have t2 : (65 * (c : Int) + (i : Int)).toNat = 65 * c + i := by omega
        have d1 := c1 t i hlt
        rw [if_neg (show ¬ (t = t ∧ i < i) from fun x => by omega)] at d1
        have d2 := c1 c i hlt
        rw [if_neg (show ¬ (c = t ∧ i < i) from fun x => by omega)] at d2
        have b1 := hb t i ht hlt
        have b := ml_b (hb c i hc hlt) (show 0 ≤ 1000003 - f ∧ 1000003 - f ≤ 1000003 by omega)
        rw [Int.mul_comm] at b
        refine ⟨((i : Int) + 1, up_ T (65 * t + i) ((tb (65 * t + i) + (1000003 - f) * tb (65 * c + i)) % 1000003)), ?_, ⟨_, rfl, fun s k hk => ?_⟩, hlt⟩
        · refine (ck_pos (by omega)).trans ((if_pos (by omega)).trans ((ck_pos (by omega)).trans ((if_neg f0).trans ((ck_pos (by omega)).trans ((ck_pos (by omega)).trans ?_)))))
          rw [t1, t2, d1, d2]
          exact (ck_pos (by omega)).trans (ck_pos (by omega))
        · rw [up65 hlt hk, c1 s k hk]
          by_cases e : s = t ∧ k = i
          · rw [if_pos e, if_pos ⟨e.1, by omega⟩, e.2]
          · rw [if_neg e]
            by_cases e2 : s = t ∧ k < i
            · rw [if_pos e2, if_pos ⟨e2.1, by omega⟩]
            · rw [if_neg e2, if_neg (fun x => by omega)]
      · right
        have : i = 65 := by omega
        subst this
        refine ⟨T, (ck_pos (by omega)).trans (if_neg (by omega)), fun s k hk => ?_⟩
        rw [c1 s k hk]
        by_cases e : s = t
        · rw [if_pos ⟨e, hk⟩, if_pos ⟨e, f0⟩]
        · rw [if_neg (fun x => e x.1), if_neg (fun x => e x.1)])
    exact ⟨o, h1, h2⟩
