/-! pure rows: loops -/
theorem lp_for {σ ρ : Type} {f : σ → Option (σ ⊕ ρ)} (st : Nat → σ) (m : Nat) {r : ρ} {n : Nat} (hn : m < n) (hs : ∀ i, i < m → f (st i) = some (.inl (st (i + 1)))) (he : f (st m) = some (.inr r)) : lp_ f n (st 0) = some r := by
  have key : ∀ (d i k : Nat), i + d = m → d < k → lp_ f k (st i) = some r := by
    intro d
    induction d with
    | zero =>
      intro i k h1 h2
      obtain ⟨k, rfl⟩ : ∃ j, k = j + 1 := ⟨k - 1, by omega⟩
      have : i = m := by omega
      subst this
      exact lp_end he
    | succ d ih =>
      intro i k h1 h2
      obtain ⟨k, rfl⟩ : ∃ j, k = j + 1 := ⟨k - 1, by omega⟩
      rw [lp_go (hs i (by omega))]
      exact ih (i + 1) k (by omega) (by omega)
  exact key m 0 n (by omega) hn
theorem lp_rule {σ ρ : Type} {f : σ → Option (σ ⊕ ρ)} (I : Nat → σ → Prop) (P : ρ → Prop) {N n : Nat} {s : σ} (hN : N < n) (h0 : I 0 s) (hs : ∀ k s, I k s → k ≤ N → (∃ t, f s = some (.inl t) ∧ I (k + 1) t ∧ k < N) ∨ ∃ r, f s = some (.inr r) ∧ P r) : ∃ r, lp_ f n s = some r ∧ P r := by
  have key : ∀ (d k : Nat) (s : σ) (j : Nat), k + d = N → d < j → I k s → ∃ r, lp_ f j s = some r ∧ P r := by
    intro d
    induction d with
    | zero =>
      intro k s j h1 h2 h3
      obtain ⟨j, rfl⟩ : ∃ i, j = i + 1 := ⟨j - 1, by omega⟩
      rcases hs k s h3 (by omega) with ⟨t, g1, g2, g3⟩ | ⟨r, g1, g2⟩
      · omega
      · exact ⟨r, lp_end g1, g2⟩
    | succ d ih =>
      intro k s j h1 h2 h3
      obtain ⟨j, rfl⟩ : ∃ i, j = i + 1 := ⟨j - 1, by omega⟩
      rcases hs k s h3 (by omega) with ⟨t, g1, g2, g3⟩ | ⟨r, g1, g2⟩
      · rw [lp_go g1]
        exact ih (k + 1) t j (by omega) (by omega) g2
      · exact ⟨r, lp_end g1, g2⟩
  exact key N 0 s n (by omega) hN h0
theorem bd_of {α β : Type} {x : Option α} {a : α} {g : α → Option β} (h : x = some a) : x.bind g = g a := by rw [h]; rfl
/-- how wide the pasts of the first i rules are -/
def wd_ (of_ : Nat → Int) : Nat → Int
  | 0 => 0
  | i + 1 => wd_ of_ i + (of_ i - 1)
theorem p_pastWidth {n : Nat} (hn : 1000 ≤ n) {k : Nat} (hk : k ≤ 3) (of_ : Nat → Int) : F_X4_pastWidth n (k : Int) of_ = some (wd_ of_ k) := by
  unfold F_X4_pastWidth
  refine (bd_of (lp_for (fun i => (wd_ of_ i, (i : Int))) k (r := wd_ of_ k) (by omega) (fun i hi => ?_) ?_)).trans rfl
  · unfold F_X4_pastWidth_L4
    simp (disch := omega) only [ck_pos, if_pos]
    simp [wd_]
  · unfold F_X4_pastWidth_L4
    simp (disch := omega) only [ck_pos, if_neg]
