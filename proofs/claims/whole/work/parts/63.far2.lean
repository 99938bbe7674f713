theorem p_measure {n : Nat} (hn : 1000 ≤ n) {S : Nat} (hS : S ≤ 64) {T : Nat → Int} (hT : clT S T) (a : Nat → Int) : ∃ a', F_X1_measure n S a T = some a' ∧ dsI S T (-9) a' := by
  have fin : ∀ f a', awI S T f 0 a' → f ≤ 64 → (∀ t, t < S → (∃ j, lvS T j t) → lvS T f t) → dsI S T (-9) a' := by
    intro f a' h hf hs t ht
    have := h t ht
    rw [if_neg (show ¬ t < 0 by omega)] at this
    rcases this with ⟨b1, b2⟩ | ⟨j, b1, b2, b3, b4⟩
    · exact Or.inl ⟨b1, fun j x => b2 (hs t ht ⟨j, x⟩)⟩
    · exact Or.inr ⟨j, b1, by omega, b3, b4⟩
  obtain ⟨r, h1, h2⟩ := lp_rule (f := fun (q : Int × Int × (Nat → Int)) => F_X1_measure_L13 n S T q.1 q.2.1 q.2.2) (fun f q => ∃ (c : Int) (a' : Nat → Int), q = (c, ((f + 1 : Nat) : Int), a') ∧ f ≤ 64 ∧ awI S T f 0 a' ∧ (c = 0 ∨ c = 1) ∧ (c = 0 → 1 ≤ f ∧ ∀ t, t < S → lvS T f t → lvS T (f - 1) t))
    (fun a' => dsI S T (-9) a') (N := 64) (n := n) (s := (1, 1, ov (fun _ => -9) a 64)) (by omega) ⟨1, _, rfl, by omega, fun t ht => Or.inl ⟨ov_in (by omega), fun x => by rw [if_neg (show ¬ t < 0 by omega)] at x; exact x⟩, Or.inr rfl, fun hc => absurd hc (by decide)⟩ (fun f q hI hf => by
    obtain ⟨c, a', rfl, c1, c2, c3, c4⟩ := hI
    dsimp only
    by_cases e : f = 64
    · right
      subst e
      refine ⟨a', (ck_pos (by omega)).trans (if_pos (by omega)), fin 64 a' c2 (by omega) (fun t ht ⟨j, hj⟩ => ?_)⟩
      obtain ⟨i, i1, i2⟩ := fs_of hj
      have := fs_S hT ht i2
      exact lvS_le (by omega) i2.1
    · by_cases hc : c = 0
      · right
        refine ⟨a', (ck_pos (by omega)).trans ((if_neg (by omega)).trans ((ck_pos (by omega)).trans (if_pos hc))), fin f a' c2 (by omega) (fun t ht ⟨j, hj⟩ => ?_)⟩
        have st : ∀ t, t < S → ¬ fs_ T f t := fun t ht x => x.2 ((c4 hc).2 t ht x.1)
        have nx : ∀ d t, t < S → ¬ fs_ T (f + d) t := by
          intro d
          induction d with
          | zero => exact st
          | succ d ih =>
            intro t ht x
            obtain ⟨g, _, _, u, v⟩ := fs_dn (j := f + d) hT ht (by have := (c4 hc).1; omega) x
            exact ih _ u v
        obtain ⟨i, i1, i2⟩ := fs_of hj
        rcases Nat.lt_or_ge i f with k | k
        · exact lvS_le (by omega) i2.1
        · have := nx (i - f) t ht
          rw [show f + (i - f) = i by omega] at this
          exact absurd i2 this
      · left
        obtain ⟨c', a2, l1, l2, l3, l4⟩ := p_level hn hS hT (show f < 64 by omega) c2
        refine ⟨(c', ((f + 1 : Nat) : Int) + 1, a2), (ck_pos (by omega)).trans ((if_neg (by omega)).trans ((ck_pos (by omega)).trans ((if_neg hc).trans ((bd_of l1).trans rfl)))), ⟨c', a2, rfl, by omega, l2, l3, fun hc => ⟨by omega, l4 hc⟩⟩, by omega⟩)
  refine ⟨r, ?_, h2⟩
  unfold F_X1_measure
  rw [p_fill hn (by omega), Option.bind_some]
  exact (bd_of h1).trans rfl
/-- round by round -/
def faI (S : Nat) (T : Nat → Int) (r s : Nat) (a : Nat → Int) : Prop := ∀ t, t < S → 1 ≤ a t ∧ a t ≤ 100 ∧ (a t = 100 ∨ lvS T (a t).toNat t) ∧ ∀ j, j ≤ (if t < s then r + 1 else r) → lvS T j t → a t ≤ (j : Int)
theorem p_farBehind {n S : Nat} (hS : S ≤ 64) {T a : Nat → Int} (hT : clT S T) {s g : Nat} (hs : s < S) (hg : g < 5) : F_X12_farBehind n T a s g = some (lfS T a s g) := by
  have tj : (5 * (s : Int) + (g : Int)).toNat = 5 * s + g := by omega
  have c := hT s g hs hg
  unfold F_X12_farBehind lfS
  rw [tj]
  by_cases e : T (5 * s + g) = -5
  · simp (disch := omega) only [ck_pos, if_pos, Option.bind_some]
  · simp (disch := omega) only [ck_pos, if_neg, Option.bind_some]
theorem p_relax {n : Nat} (hn : 1000 ≤ n) {S : Nat} (hS : S ≤ 64) {T : Nat → Int} (hT : clT S T) {r s : Nat} (hs : s < S) {a : Nat → Int} (h : faI S T r s a) : ∃ a', lp_ (fun (q : Int × (Nat → Int)) => F_X12_findFar_L46 n T s q.1 q.2) n (0, a) = some a' ∧ faI S T r (s + 1) a' := by
  obtain ⟨o, h1, h2⟩ := lp_rule (f := fun (q : Int × (Nat → Int)) => F_X12_findFar_L46 n T s q.1 q.2) (fun g q => ∃ a', q = ((g : Int), a') ∧ faI S T r s a' ∧ ∀ g', g' < g → (T (5 * s + g') = -5 → a' s ≤ 1) ∧ (T (5 * s + g') ≠ -5 → ∀ j, j ≤ r → lvS T j (T (5 * s + g')).toNat → a' s ≤ (j : Int) + 1))
    (fun a' => faI S T r (s + 1) a') (N := 5) (n := n) (s := (0, a)) (by omega) ⟨a, rfl, h, fun g' hg' => (by omega)⟩ (fun g q hI hg => by
    obtain ⟨a', rfl, c1, c2⟩ := hI
    dsimp only
    have ms := c1 s hs
    by_cases hlt : g < 5
    · left
      have ts : ((s : Int)).toNat = s := by omega
      have c := hT s g hs hlt
      have lb : 0 ≤ lfS T a' s g ∧ lfS T a' s g ≤ 100 := by
        unfold lfS
        split
        · omega
        · have := c1 (T (5 * s + g)).toNat (by omega)
          omega
      -- the number that is put
      have e0 : ∃ v : Int, (ck (r4 (lfS T a' s g + 1) ∧ r4 (a' s)) (if lfS T a' s g + 1 < a' s then some (lfS T a' s g + 1) else ck (ix_ (s : Int) 64) (some (a' s)))) = some v ∧ v ≤ a' s ∧ v ≤ lfS T a' s g + 1 ∧ (v = a' s ∨ v = lfS T a' s g + 1 ∧ lfS T a' s g + 1 < a' s) := by
        rw [ck_pos (by omega)]
        by_cases e : lfS T a' s g + 1 < a' s
        · exact ⟨_, if_pos e, by omega, by omega, Or.inr ⟨rfl, e⟩⟩
        · exact ⟨_, (if_neg e).trans (ck_pos (by omega)), by omega, by omega, Or.inl rfl⟩
      obtain ⟨v, v1, v2, v3, v4⟩ := e0
      refine ⟨((g : Int) + 1, up_ a' s v), ?_, ⟨_, rfl, fun t ht => ?_, fun g' hg' => ?_⟩, hlt⟩
      · refine (ck_pos (by omega)).trans ((if_pos (by omega)).trans ((bd_of (p_farBehind hS hT hs hlt)).trans ((ck_pos (by omega)).trans ?_)))
        rw [ts]
        exact (bd_of v1).trans (ck_pos (by omega))
      · by_cases e : t = s
        · subst e
          rw [up_at]
          refine ⟨by omega, by omega, ?_, fun j hj hl => by have := ms.2.2.2 j hj hl; omega⟩
          rcases v4 with v4 | ⟨v4, v5⟩
          · rw [v4]; exact ms.2.2.1
          · right
            rw [v4, show (lfS T a' t g + 1).toNat = (lfS T a' t g).toNat + 1 by omega]
            refine Or.inr ⟨g, hlt, ?_⟩
            by_cases e5 : T (5 * t + g) = -5
            · exact Or.inl e5
            · right
              refine ⟨e5, ?_⟩
              have lf : lfS T a' t g = a' (T (5 * t + g)).toNat := if_neg e5
              have := c1 (T (5 * t + g)).toNat (by omega)
              rw [lf] at v5 ⊢
              exact this.2.2.1.resolve_left (by omega)
        · rw [up_off e]
          exact c1 t ht
      · rw [up_at]
        by_cases e : g' = g
        · subst e
          constructor
          · intro e5
            have lf : lfS T a' s g' = 0 := if_pos e5
            omega
          · intro e5 j hj hl
            have lf : lfS T a' s g' = a' (T (5 * s + g')).toNat := if_neg e5
            have m := (c1 (T (5 * s + g')).toNat (by omega)).2.2.2 j (by split <;> omega) hl
            omega
        · have m := c2 g' (by omega)
          exact ⟨fun e5 => by have := m.1 e5; omega, fun e5 j hj hl => by have := m.2 e5 j hj hl; omega⟩
    · right
      have : g = 5 := by omega
      subst this
      refine ⟨a', (ck_pos (by omega)).trans (if_neg (by omega)), fun t ht => ?_⟩
      have m := c1 t ht
      refine ⟨m.1, m.2.1, m.2.2.1, fun j hj hl => ?_⟩
      by_cases e : t = s
      · subst e
        rw [if_neg (show ¬ t < t by omega)] at m
        rw [if_pos (show t < t + 1 by omega)] at hj
        cases j with
        | zero => exact absurd hl id
        | succ j =>
          rcases hl with hl | ⟨g, hg, hl | ⟨e5, hl⟩⟩
          · have := m.2.2.2 j (by omega) hl
            omega
          · have := (c2 g hg).1 hl
            omega
          · have := (c2 g hg).2 e5 j (by omega) hl
            omega
      · refine m.2.2.2 j ?_ hl
        by_cases e2 : t < s
        · rw [if_pos e2]
          rw [if_pos (show t < s + 1 by omega)] at hj
          exact hj
        · rw [if_neg e2]
          rw [if_neg (show ¬ t < s + 1 by omega)] at hj
          exact hj)
  exact ⟨o, h1, h2⟩
theorem p_farRound {n : Nat} (hn : 1000 ≤ n) {S : Nat} (hS : S ≤ 64) {T : Nat → Int} (hT : clT S T) {r : Nat} {a : Nat → Int} (h : faI S T r 0 a) : ∃ a', lp_ (fun (q : Int × (Nat → Int)) => F_X12_findFar_L36 n S T q.1 q.2) n (0, a) = some a' ∧ faI S T (r + 1) 0 a' := by
  obtain ⟨o, h1, h2⟩ := lp_rule (f := fun (q : Int × (Nat → Int)) => F_X12_findFar_L36 n S T q.1 q.2) (fun s q => ∃ a', q = ((s : Int), a') ∧ s ≤ S ∧ faI S T r s a') (fun a' => faI S T (r + 1) 0 a') (N := S) (n := n) (s := (0, a)) (by omega) ⟨a, rfl, by omega, h⟩ (fun s q hI hs => by
    obtain ⟨a', rfl, c1, c2⟩ := hI
    dsimp only
    by_cases hlt : s < S
    · left
      obtain ⟨a2, d1, d2⟩ := p_relax hn hS hT hlt c2
      exact ⟨((s : Int) + 1, a2), (ck_pos (by omega)).trans ((if_pos (by omega)).trans ((bd_of d1).trans rfl)), ⟨a2, rfl, by omega, d2⟩, hlt⟩
    · right
      refine ⟨a', (ck_pos (by omega)).trans (if_neg (by omega)), fun t ht => ?_⟩
      have m := c2 t ht
      rw [if_pos (show t < s by omega)] at m
      rw [if_neg (show ¬ t < 0 by omega)]
      exact m)
  exact ⟨o, h1, h2⟩
theorem p_findFar {n : Nat} (hn : 1000 ≤ n) {S : Nat} (hS : S ≤ 64) {T : Nat → Int} (hT : clT S T) (a : Nat → Int) : ∃ a', F_X12_findFar n S a T = some a' ∧ dsI S T 100 a' := by
  have f1 : lp_ (fun (q : Int × (Nat → Int)) => F_X12_findFar_L2 n S q.1 q.2) n (0, a) = some (ov (fun _ => 100) a S) := by
    refine lp_for (fun i => ((i : Int), ov (fun _ => 100) a i)) S (by omega) (fun i hi => ?_) ?_
    · unfold F_X12_findFar_L2
      have ti : ((i : Int)).toNat = i := by omega
      have ei : ((i + 1 : Nat) : Int) = (i : Int) + 1 := by omega
      simp (disch := omega) only [ck_pos, if_pos]
      rw [ti, ei, ← ov_up]
    · unfold F_X12_findFar_L2
      simp (disch := omega) only [ck_pos, if_neg]
  obtain ⟨o, h1, h2⟩ := lp_rule (f := fun (q : Int × (Nat → Int)) => F_X12_findFar_L26 n S T q.1 q.2) (fun r q => ∃ a', q = ((r : Int), a') ∧ r ≤ S ∧ faI S T r 0 a') (fun a' => faI S T S 0 a') (N := S) (n := n) (s := (0, ov (fun _ => 100) a S)) (by omega) ⟨_, rfl, by omega, fun t ht => by
      rw [ov_in ht]
      refine ⟨by omega, by omega, Or.inl rfl, fun j hj hl => ?_⟩
      rw [if_neg (show ¬ t < 0 by omega)] at hj
      rw [show j = 0 by omega] at hl
      exact absurd hl id⟩ (fun r q hI hr => by
    obtain ⟨a', rfl, c1, c2⟩ := hI
    dsimp only
    by_cases hlt : r < S
    · left
      obtain ⟨a2, d1, d2⟩ := p_farRound hn hS hT c2
      exact ⟨((r : Int) + 1, a2), (ck_pos (by omega)).trans ((if_pos (by omega)).trans ((bd_of d1).trans rfl)), ⟨a2, rfl, by omega, d2⟩, hlt⟩
    · right
      have : r = S := by omega
      subst this
      exact ⟨a', (ck_pos (by omega)).trans (if_neg (by omega)), c2⟩)
  refine ⟨o, ?_, fun s hs => ?_⟩
  · unfold F_X12_findFar
    rw [f1, Option.bind_some]
    exact (bd_of h1).trans rfl
  · have m := h2 s hs
    rw [if_neg (show ¬ s < 0 by omega)] at m
    have fs : ∀ j, fs_ T j s → o s ≤ (j : Int) := fun j hj => m.2.2.2 j (fs_S hT hs hj) hj.1
    by_cases e : o s = 100
    · left
      refine ⟨e, fun j hj => ?_⟩
      obtain ⟨i, i1, i2⟩ := fs_of hj
      have := fs i i2
      have := fs_S hT hs i2
      omega
    · right
      have l := m.2.2.1.resolve_left e
      obtain ⟨i, i1, i2⟩ := fs_of l
      have k1 := fs i i2
      have k2 := fs_S hT hs i2
      have k3 := fs_pos i2
      exact ⟨i, k3, by omega, by omega, i2⟩
