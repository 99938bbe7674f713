/-! machines of the model: kinds -/
def kbS (c np : Nat → Int) (p g : Nat) : Int := if np (5 * p + g) = -5 then -5 else c (np (5 * p + g)).toNat
theorem p_kindBehind {n N : Nat} (hN : N ≤ 64) {c np : Nat → Int} (hL : ∀ p g, p < N → g < 5 → np (5 * p + g) = -5 ∨ 0 ≤ np (5 * p + g) ∧ np (5 * p + g) < N) {p g : Nat} (hp : p < N) (hg : g < 5) : F_X12_kindBehind n np c p g = some (kbS c np p g) := by
  have tj : (5 * (p : Int) + (g : Int)).toNat = 5 * p + g := by omega
  have h1 := hL p g hp hg
  unfold F_X12_kindBehind kbS
  rw [tj]
  by_cases hz : np (5 * p + g) = -5
  · simp (disch := omega) only [ck_pos, if_pos, Option.bind_some]
  · simp (disch := omega) only [ck_pos, if_neg, Option.bind_some]
theorem p_areLike {n : Nat} (hn : 1000 ≤ n) {N : Nat} (hN : N ≤ 64) {c np : Nat → Int} (hL : ∀ p g, p < N → g < 5 → np (5 * p + g) = -5 ∨ 0 ≤ np (5 * p + g) ∧ np (5 * p + g) < N) (hc : ∀ p, p < N → 0 ≤ c p ∧ c p < 64) {p q : Nat} (hp : p < N) (hq : q < N) : ∃ b : Int, F_X12_areLike n c np p q = some b ∧ (b = 0 ∨ b = 1) ∧ (b = 1 ↔ c p = c q ∧ ∀ g, g < 5 → kbS c np p g = kbS c np q g) := by
  have tp : ((p : Int)).toNat = p := by omega
  have tq : ((q : Int)).toNat = q := by omega
  have c1 := hc p hp
  have c2 := hc q hq
  have kr : ∀ p g, p < N → g < 5 → r4 (kbS c np p g) := fun p g hp hg => by
    have h1 := hL p g hp hg
    unfold kbS
    split
    · omega
    · have := hc (np (5 * p + g)).toNat (by omega)
      omega
  have e0 : ∃ b0 : Int, (ck (r4 (c p) ∧ r4 (c q)) (if c p = c q then some 1 else some 0)) = some b0 ∧ (b0 = 0 ∨ b0 = 1) ∧ (b0 = 1 ↔ c p = c q) := by
    rw [ck_pos (by omega)]
    by_cases e : c p = c q
    · exact ⟨1, by rw [if_pos e], by omega, by simp [e]⟩
    · exact ⟨0, by rw [if_neg e], by omega, by simp [e]⟩
  obtain ⟨b0, e1, e2, e3⟩ := e0
  obtain ⟨b, h1, h2, h3⟩ := lp_rule (f := fun (s : Int × Int) => F_X12_areLike_L24 n np c p q s.1 s.2) (fun g s => ∃ b : Int, s = (b, (g : Int)) ∧ (b = 0 ∨ b = 1) ∧ (b = 1 ↔ c p = c q ∧ ∀ g', g' < g → kbS c np p g' = kbS c np q g'))
    (fun b => (b = 0 ∨ b = 1) ∧ (b = 1 ↔ c p = c q ∧ ∀ g, g < 5 → kbS c np p g = kbS c np q g)) (N := 5) (n := n) (s := (b0, 0)) (by omega) ⟨b0, rfl, e2, by rw [e3]; exact ⟨fun h => ⟨h, fun g' h => by omega⟩, fun h => h.1⟩⟩ (fun g s hI hg => by
    obtain ⟨b, rfl, a1, a2⟩ := hI
    dsimp only
    unfold F_X12_areLike_L24
    by_cases hlt : g < 5
    · by_cases hb : b = 0
      · right
        refine ⟨b, ?_, a1, ?_⟩
        · simp (disch := omega) only [ck_pos, if_pos]
        · constructor
          · intro x; omega
          · intro x
            exact a2.mpr ⟨x.1, fun g' hg' => x.2 g' (by omega)⟩
      · left
        have hb1 : b = 1 := by omega
        have a3 := a2.mp hb1
        rw [p_kindBehind hN hL hp hlt, p_kindBehind hN hL hq hlt]
        have k1 := kr p g hp hlt
        have k2 := kr q g hq hlt
        by_cases e : kbS c np p g = kbS c np q g
        · refine ⟨(1, (g : Int) + 1), ?_, ⟨1, rfl, by omega, ⟨fun _ => ⟨a3.1, fun g' hg' => ?_⟩, fun _ => rfl⟩⟩, hlt⟩
          · simp (disch := omega) only [ck_pos, if_neg (c := b = 0), if_pos (c := (g : Int) < 5), Option.bind_some, if_pos e]
          · by_cases e' : g' = g
            · subst e'; exact e
            · exact a3.2 g' (by omega)
        · refine ⟨(0, (g : Int) + 1), ?_, ⟨0, rfl, by omega, ⟨fun x => by omega, fun x => absurd (x.2 g (by omega)) e⟩⟩, hlt⟩
          simp (disch := omega) only [ck_pos, if_neg (c := b = 0), if_pos (c := (g : Int) < 5), Option.bind_some, if_neg e]
    · right
      have : g = 5 := by omega
      subst this
      exact ⟨b, by simp (disch := omega) only [ck_pos, if_neg], a1, a2⟩)
  refine ⟨b, ?_, h2, h3⟩
  unfold F_X12_areLike
  rw [tp, tq, ck_pos (by omega), ck_pos (by omega), e1, Option.bind_some, h1, Option.bind_some, ck_pos h2]
theorem eqK_like {N : Nat} {c np : Nat → Int} (hL : ∀ p g, p < N → g < 5 → np (5 * p + g) = -5 ∨ 0 ≤ np (5 * p + g) ∧ np (5 * p + g) < N) {j : Nat} {z : Int} (hc : nbr (eqK (fun p g => np (5 * p + g)) j) N c z) {p q : Nat} (hp : p < N) (hq : q < N) : (c p = c q ∧ ∀ g, g < 5 → kbS c np p g = kbS c np q g) ↔ eqK (fun p g => np (5 * p + g)) (j + 1) p q := by
  obtain ⟨h1, h2, h3⟩ := hc
  have key : ∀ g, g < 5 → (kbS c np p g = kbS c np q g ↔ (np (5 * p + g) = -5 ↔ np (5 * q + g) = -5) ∧ (np (5 * p + g) ≠ -5 → eqK (fun p g => np (5 * p + g)) j (np (5 * p + g)).toNat (np (5 * q + g)).toNat)) := by
    intro g hg
    have l1 := hL p g hp hg
    have l2 := hL q g hq hg
    unfold kbS
    by_cases a1 : np (5 * p + g) = -5 <;> by_cases a2 : np (5 * q + g) = -5
    · simp only [if_pos a1, if_pos a2, a1, a2]; simp
    · have := h2 (np (5 * q + g)).toNat (by omega)
      simp only [if_pos a1, if_neg a2]
      exact ⟨fun e => by omega, fun e => absurd (e.1.mp a1) a2⟩
    · have := h2 (np (5 * p + g)).toNat (by omega)
      simp only [if_neg a1, if_pos a2]
      exact ⟨fun e => by omega, fun e => absurd (e.1.mpr a2) a1⟩
    · simp only [if_neg a1, if_neg a2]
      have := h3 (np (5 * p + g)).toNat (np (5 * q + g)).toNat (by omega) (by omega)
      exact ⟨fun e => ⟨by simp [a1, a2], fun _ => this.mp e⟩, fun e => this.mpr (e.2 a1)⟩
  constructor
  · intro e g hg
    exact (key g hg).mp (e.2 g hg)
  · intro e
    exact ⟨(h3 p q hp hq).mpr (eqK_dn _ j p q e), fun g hg => (key g hg).mpr (e g hg)⟩
theorem p_likeOf {n : Nat} (hn : 1000 ≤ n) {N : Nat} (hN : N ≤ 64) {c np : Nat → Int} {R : Nat → Nat → Prop} (hA : ∀ p q, p < N → q < N → ∃ b : Int, F_X12_areLike n c np p q = some b ∧ (b = 0 ∨ b = 1) ∧ (b = 1 ↔ R p q)) {p : Nat} (hp : p < N) : ∃ l : Nat, lp_ (fun (q : Int × Int) => F_X12_findKinds_L65 n c np p q.1 q.2) n ((p : Int), (p : Int) - 1) = some (l : Int) ∧ (l = p ∧ (∀ q, q < p → ¬ R p q) ∨ l < p ∧ R p l) := by
  obtain ⟨r, h1, l, h2, h3⟩ := lp_rule (f := fun (q : Int × Int) => F_X12_findKinds_L65 n c np p q.1 q.2) (fun k s => ∃ l : Nat, s = ((l : Int), (p : Int) - 1 - (k : Int)) ∧ k ≤ p ∧ (l = p ∧ (∀ q, p - k ≤ q → q < p → ¬ R p q) ∨ l < p ∧ R p l))
    (fun r => ∃ l : Nat, r = (l : Int) ∧ (l = p ∧ (∀ q, q < p → ¬ R p q) ∨ l < p ∧ R p l)) (N := p) (n := n) (s := ((p : Int), (p : Int) - 1)) (by omega) ⟨p, by simp, by omega, Or.inl ⟨rfl, fun q a b => by omega⟩⟩ (fun k s hI hk => by
    obtain ⟨l, rfl, a1, a2⟩ := hI
    dsimp only
    unfold F_X12_findKinds_L65
    by_cases hlt : k < p
    · left
      obtain ⟨q, hq⟩ : ∃ q : Nat, (p : Int) - 1 - (k : Int) = (q : Int) := ⟨p - 1 - k, by omega⟩
      have hq2 : q = p - 1 - k := by omega
      rw [hq]
      obtain ⟨b, b1, b2, b3⟩ := hA p q hp (by omega)
      rw [b1]
      by_cases hb : b = 0
      · refine ⟨((l : Int), (q : Int) + (-1)), ?_, ⟨l, ?_, by omega, ?_⟩, hlt⟩
        · simp (disch := omega) only [ck_pos, if_neg (c := (q : Int) < 0), Option.bind_some, if_pos hb]
        · congr 1
          omega
        · rcases a2 with a2 | a2
          · refine Or.inl ⟨a2.1, fun q' c1 c2 => ?_⟩
            by_cases e : q' = q
            · subst e
              intro x
              have := b3.mpr x
              omega
            · exact a2.2 q' (by omega) c2
          · exact Or.inr a2
      · refine ⟨((q : Int), (q : Int) + (-1)), ?_, ⟨q, ?_, by omega, Or.inr ⟨by omega, b3.mp (by omega)⟩⟩, hlt⟩
        · simp (disch := omega) only [ck_pos, if_neg (c := (q : Int) < 0), Option.bind_some, if_neg hb]
        · congr 1
          omega
    · right
      refine ⟨(l : Int), ?_, l, rfl, ?_⟩
      · simp (disch := omega) only [ck_pos, if_pos]
      · rcases a2 with a2 | a2
        · exact Or.inl ⟨a2.1, fun q' c2 => a2.2 q' (by omega) c2⟩
        · exact Or.inr a2)
  exact ⟨l, by rw [h1, h2], h3⟩
theorem p_kindStep {n N : Nat} {c np nk : Nat → Int} {i z l : Int} (h : lp_ (fun (q : Int × Int) => F_X12_findKinds_L65 n c np i q.1 q.2) n (i, i - 1) = some l) (hi : 0 ≤ i ∧ i < N) (hN : N ≤ 64) (hl : 0 ≤ l ∧ l < 64) : F_X12_findKinds_L50 n N c np i z nk = if l = i then some (.inl (i + 1, z + 1, up_ nk i.toNat z)) else some (.inl (i + 1, z + 0, up_ nk i.toNat (nk l.toNat))) := by
  refine (ck_pos (show r4 i ∧ r4 (N : Int) by omega)).trans ((if_pos hi.2).trans ((bd_of h).trans ?_))
  by_cases e : l = i
  · refine Eq.trans ?_ (if_pos e).symm
    refine (bd_of (a := z) ((ck_pos (show r4 l ∧ r4 i by omega)).trans (if_pos e))).trans ?_
    refine (ck_pos (show ix_ i 64 by omega)).trans ?_
    exact (bd_of (a := (1 : Int)) ((ck_pos (show r4 l ∧ r4 i by omega)).trans (if_pos e)))
  · refine Eq.trans ?_ (if_neg e).symm
    refine (bd_of (a := nk l.toNat) ((ck_pos (show r4 l ∧ r4 i by omega)).trans ((if_neg e).trans (ck_pos (show ix_ l 64 by omega))))).trans ?_
    refine (ck_pos (show ix_ i 64 by omega)).trans ?_
    exact (bd_of (a := (0 : Int)) ((ck_pos (show r4 l ∧ r4 i by omega)).trans (if_neg e)))
theorem p_newKinds {n : Nat} (hn : 1000 ≤ n) {N : Nat} (hN : N ≤ 64) {c np : Nat → Int} {R : Nat → Nat → Prop} (rf : ∀ p, R p p) (sy : ∀ p q, R p q → R q p) (tr : ∀ p q r, R p q → R q r → R p r) (hA : ∀ p q, p < N → q < N → ∃ b : Int, F_X12_areLike n c np p q = some b ∧ (b = 0 ∨ b = 1) ∧ (b = 1 ↔ R p q)) (nk : Nat → Int) : ∃ nk', lp_ (fun (q : Int × Int × (Nat → Int)) => F_X12_findKinds_L50 n N c np q.1 q.2.1 q.2.2) n (0, 0, nk) = some (((cnF R N : Nat) : Int), nk') ∧ nbr R N nk' (cnF R N : Nat) := by
  obtain ⟨r, h1, nk', h2, h3⟩ := lp_rule (f := fun (q : Int × Int × (Nat → Int)) => F_X12_findKinds_L50 n N c np q.1 q.2.1 q.2.2) (fun i s => ∃ nk' : Nat → Int, s = ((i : Int), ((cnF R i : Nat) : Int), nk') ∧ i ≤ N ∧ (∀ p, p < i → 0 ≤ nk' p ∧ nk' p < (cnF R i : Nat)) ∧ ∀ p q, p < i → q < i → (nk' p = nk' q ↔ R p q))
    (fun r => ∃ nk' : Nat → Int, r = (((cnF R N : Nat) : Int), nk') ∧ nbr R N nk' (cnF R N : Nat)) (N := N) (n := n) (s := (0, 0, nk)) (by omega) ⟨nk, rfl, by omega, fun p hp => (by omega), fun p q hp => (by omega)⟩ (fun i s hI hi => by
    obtain ⟨nk', rfl, a1, a2, a3⟩ := hI
    dsimp only
    have cl := cnF_le R i
    by_cases hlt : i < N
    · left
      obtain ⟨l, l1, l2⟩ := p_likeOf hn hN hA hlt
      have ti : ((i : Int)).toNat = i := by omega
      have tl : ((l : Int)).toNat = l := by omega
      rcases l2 with ⟨l2, l3⟩ | ⟨l2, l3⟩
      · subst l2
        have nw := cnF_new l3
        refine ⟨((l : Int) + 1, ((cnF R l : Nat) : Int) + 1, up_ nk' l ((cnF R l : Nat) : Int)), ?_, ⟨_, by rw [nw]; rfl, by omega, fun p hp => ?_, fun p q hp hq => ?_⟩, hlt⟩
        · have e := p_kindStep (z := ((cnF R l : Nat) : Int)) (nk := nk') l1 (by omega) hN (by omega)
          rw [if_pos rfl, ti] at e
          exact e
        · by_cases e : p = l
          · subst e
            rw [up_at]; omega
          · have := a2 p (by omega)
            rw [up_off e]; omega
        · by_cases e1 : p = l <;> by_cases e2 : q = l
          · rw [e1, e2]; exact ⟨fun _ => rf l, fun _ => rfl⟩
          · have := a2 q (by omega)
            rw [e1, up_at, up_off e2]
            exact ⟨fun x => by omega, fun x => absurd x (l3 q (by omega))⟩
          · have := a2 p (by omega)
            rw [e2, up_at, up_off e1]
            exact ⟨fun x => by omega, fun x => absurd (sy _ _ x) (l3 p (by omega))⟩
          · rw [up_off e1, up_off e2]
            exact a3 p q (by omega) (by omega)
      · have od := cnF_old l2 l3
        have b1 := a2 l l2
        refine ⟨((i : Int) + 1, ((cnF R i : Nat) : Int) + 0, up_ nk' i (nk' l)), ?_, ⟨_, by rw [od, Int.add_zero]; rfl, by omega, fun p hp => ?_, fun p q hp hq => ?_⟩, hlt⟩
        · have e := p_kindStep (z := ((cnF R i : Nat) : Int)) (nk := nk') l1 (by omega) hN (by omega)
          rw [if_neg (by omega), ti, tl] at e
          exact e
        · rw [od]
          by_cases e : p = i
          · subst e
            rw [up_at]; omega
          · have := a2 p (by omega)
            rw [up_off e]; omega
        · by_cases e1 : p = i <;> by_cases e2 : q = i
          · rw [e1, e2]; exact ⟨fun _ => rf i, fun _ => rfl⟩
          · rw [e1, up_at, up_off e2]
            exact (a3 l q l2 (by omega)).trans ⟨fun x => tr _ _ _ l3 x, fun x => tr _ _ _ (sy _ _ l3) x⟩
          · rw [e2, up_at, up_off e1]
            exact (a3 p l (by omega) l2).trans ⟨fun x => tr _ _ _ x (sy _ _ l3), fun x => tr _ _ _ x l3⟩
          · rw [up_off e1, up_off e2]
            exact a3 p q (by omega) (by omega)
    · right
      have : i = N := by omega
      subst this
      refine ⟨_, ?_, nk', rfl, rfl, a2, a3⟩
      unfold F_X12_findKinds_L50
      simp (disch := omega) only [ck_pos, if_neg])
  exact ⟨nk', by rw [h1, h2], h3⟩
