/-! both machines number their states alike -/
theorem lp_two {σ ρ τ κ : Type} {f : σ → Option (σ ⊕ ρ)} {g : τ → Option (τ ⊕ κ)} (I : Nat → σ → τ → Prop) (P : ρ → κ → Prop) {N n : Nat} {s : σ} {t : τ} (hN : N < n) (h0 : I 0 s t) (hs : ∀ k s t, I k s t → k ≤ N → (∃ s' t', f s = some (.inl s') ∧ g t = some (.inl t') ∧ I (k + 1) s' t' ∧ k < N) ∨ ∃ r q, f s = some (.inr r) ∧ g t = some (.inr q) ∧ P r q) : ∃ r q, lp_ f n s = some r ∧ lp_ g n t = some q ∧ P r q := by
  have key : ∀ (d k : Nat) (s : σ) (t : τ) (j : Nat), k + d = N → d < j → I k s t → ∃ r q, lp_ f j s = some r ∧ lp_ g j t = some q ∧ P r q := by
    intro d
    induction d with
    | zero =>
      intro k s t j h1 h2 h3
      obtain ⟨j, rfl⟩ : ∃ i, j = i + 1 := ⟨j - 1, by omega⟩
      rcases hs k s t h3 (by omega) with ⟨s', t', g1, g2, g3, g4⟩ | ⟨r, q, g1, g2, g3⟩
      · omega
      · exact ⟨r, q, lp_end g1, lp_end g2, g3⟩
    | succ d ih =>
      intro k s t j h1 h2 h3
      obtain ⟨j, rfl⟩ : ∃ i, j = i + 1 := ⟨j - 1, by omega⟩
      rcases hs k s t h3 (by omega) with ⟨s', t', g1, g2, g3, g4⟩ | ⟨r, q, g1, g2, g3⟩
      · rw [lp_go g1, lp_go g2]
        exact ih (k + 1) s' t' j (by omega) (by omega) g3
      · exact ⟨r, q, lp_end g1, lp_end g2, g3⟩
  exact key N 0 s t n (by omega) hN h0
/-- places stand for their memories -/
theorem eqK_me {d : Nat → Nat → Int} {z : Nat} {me np : Nat → Int} (h : npI d z me np (5 * z)) (hme : ∀ j, j < z → 0 ≤ me j) : ∀ j a b, a < z → b < z → (eqK (fun p g => np (5 * p + g)) j a b ↔ eqK d j (me a).toNat (me b).toNat) := by
  have at_ : ∀ a g, a < z → g < 5 → (np (5 * a + g) = -5 ↔ d (me a).toNat g = -5) ∧ (np (5 * a + g) ≠ -5 → (np (5 * a + g)).toNat < z ∧ (d (me a).toNat g).toNat = (me (np (5 * a + g)).toNat).toNat) := by
    intro a g ha hg
    have := h (5 * a + g) (by omega)
    rw [show (5 * a + g) / 5 = a by omega, show (5 * a + g) % 5 = g by omega] at this
    rcases this.2 with c | c
    · exact ⟨⟨fun _ => c.2, fun _ => c.1⟩, fun x => absurd c.1 x⟩
    · have m := hme (np (5 * a + g)).toNat (by omega)
      exact ⟨⟨fun x => by omega, fun x => by omega⟩, fun _ => ⟨by omega, by rw [c.2.2]⟩⟩
  intro j
  induction j with
  | zero => intro a b _ _; exact Iff.rfl
  | succ j ih =>
    intro a b ha hb
    have key : ∀ g, g < 5 → (((np (5 * a + g) = -5 ↔ np (5 * b + g) = -5) ∧ (np (5 * a + g) ≠ -5 → eqK (fun p g => np (5 * p + g)) j (np (5 * a + g)).toNat (np (5 * b + g)).toNat)) ↔ ((d (me a).toNat g = -5 ↔ d (me b).toNat g = -5) ∧ (d (me a).toNat g ≠ -5 → eqK d j (d (me a).toNat g).toNat (d (me b).toNat g).toNat))) := by
      intro g hg
      have p1 := at_ a g ha hg
      have p2 := at_ b g hb hg
      rw [← p1.1, ← p2.1]
      constructor
      · intro e
        refine ⟨e.1, fun c0 => ?_⟩
        have c : np (5 * a + g) ≠ -5 := fun x => c0 (p1.1.mp x)
        have c2 : np (5 * b + g) ≠ -5 := fun x => c (e.1.mpr x)
        rw [(p1.2 c).2, (p2.2 c2).2]
        exact (ih _ _ (p1.2 c).1 (p2.2 c2).1).mp (e.2 c)
      · intro e
        refine ⟨e.1, fun c => ?_⟩
        have c2 : np (5 * b + g) ≠ -5 := fun x => c (e.1.mpr x)
        have := e.2 (fun x => c (p1.1.mpr x))
        rw [(p1.2 c).2, (p2.2 c2).2] at this
        exact (ih _ _ (p1.2 c).1 (p2.2 c2).1).mpr this
    exact ⟨fun e g hg => (key g hg).mp (e g hg), fun e g hg => (key g hg).mpr (e g hg)⟩
def SR (z : Nat) (pt me ko : Nat → Int) (S : Nat) (sp ps sk sa : Nat → Int) : Prop := S ≤ 64 ∧ (∀ t, t < S → 0 ≤ sa t ∧ sa t < z ∧ ps t = me (sa t).toNat ∧ sk (ko (sa t).toNat).toNat = (t : Int)) ∧ ∀ i, i < z → sp (pt (me i).toNat).toNat = -1 ∧ sk (ko i).toNat = -9 ∨ 0 ≤ sp (pt (me i).toNat).toNat ∧ sp (pt (me i).toNat).toNat < S ∧ sk (ko i).toNat = sp (pt (me i).toNat).toNat ∧ ko (sa (sk (ko i).toNat).toNat).toNat = ko i
theorem p_stateOf {n z : Nat} {pt me ko : Nat → Int} (hm : ∀ i, i < z → 0 ≤ me i ∧ me i < 64 ∧ 0 ≤ pt (me i).toNat ∧ pt (me i).toNat < 64 ∧ 0 ≤ ko i ∧ ko i < 64) (hz : z ≤ 64) (hk : ∀ i j, i < z → j < z → (pt (me i).toNat = pt (me j).toNat ↔ ko i = ko j)) {S : Nat} {sp ps sk sa : Nat → Int} (h : SR z pt me ko S sp ps sk sa) {i : Nat} (hi : i < z) :
    ∃ (S' : Nat) (sp' ps' sk' sa' : Nat → Int) (t : Nat), F_X1_stateOf n S pt sp ps (me i) = some ((t : Int), (S' : Int), sp', ps') ∧ F_X12_stateFor n S ko sk sa i = some ((t : Int), (S' : Int), sk', sa') ∧ SR z pt me ko S' sp' ps' sk' sa' ∧ t < S' ∧ sk' (ko i).toNat = (t : Int) ∧ S ≤ S' ∧ (∀ u, u < S → ps' u = ps u ∧ sa' u = sa u) ∧ (∀ j, j < z → sk (ko j).toNat ≠ -9 → sk' (ko j).toNat = sk (ko j).toNat) ∧ (S = 0 → t = 0 ∧ S' = 1 ∧ sa' 0 = i) := by
  have h0 := h
  obtain ⟨h1, h2, h3⟩ := h
  have mi := hm i hi
  have ti : ((i : Int)).toNat = i := by omega
  have tS : ((S : Int)).toNat = S := by omega
  rcases h3 i hi with ⟨a1, a2⟩ | ⟨a1, a2, a3, a4⟩
  · have room : S < 64 := by
      have := pigeon 64 (S + 1) (fun t => if t < S then (ko (sa t).toNat).toNat else (ko i).toNat) (fun t ht => by
        show (if t < S then (ko (sa t).toNat).toNat else (ko i).toNat) < 64
        split
        · rename_i c
          have b1 := h2 t c
          have b2 := hm (sa t).toNat (by omega)
          omega
        · omega) (fun t u ht hu e => by
        have e : (if t < S then (ko (sa t).toNat).toNat else (ko i).toNat) = (if u < S then (ko (sa u).toNat).toNat else (ko i).toNat) := e
        split at e <;> split at e
        · rename_i c1 c2
          have b1 := (h2 t c1).2.2.2
          have b2 := (h2 u c2).2.2.2
          rw [e, b2] at b1
          omega
        · rename_i c1 c2
          have b1 := (h2 t c1).2.2.2
          rw [e, a2] at b1
          omega
        · rename_i c1 c2
          have b1 := (h2 u c2).2.2.2
          rw [← e, a2] at b1
          omega
        · omega)
      omega
    refine ⟨S + 1, up_ sp (pt (me i).toNat).toNat S, up_ ps S (me i), up_ sk (ko i).toNat S, up_ sa S i, S, ?_, ?_, ⟨by omega, ?_, ?_⟩, by omega, up_at _ _ _, by omega, fun u hu => ⟨up_off (by omega), up_off (by omega)⟩, fun j hj c => ?_, fun c => ⟨c, by omega, by rw [c]; exact up_at _ _ _⟩⟩
    · rw [e_stateOf (x := me i) (pt := pt) (by omega) (by omega)]
      rw [tS]
      simp (disch := omega) only [ck_pos, if_pos, Option.bind_some, up_at]
      rfl
    · unfold F_X12_stateFor
      rw [ti, tS]
      simp (disch := omega) only [ck_pos, if_pos, Option.bind_some, up_at]
      rfl
    · intro t ht
      by_cases e : t = S
      · subst e
        rw [up_at, up_at, ti, up_at]
        exact ⟨by omega, by omega, rfl, rfl⟩
      · have b := h2 t (by omega)
        rw [up_off e, up_off e]
        refine ⟨b.1, b.2.1, b.2.2.1, ?_⟩
        rw [up_off (fun x => by rw [x] at b; omega)]
        exact b.2.2.2
    · intro j hj
      have mj := hm j hj
      have kk := hk j i hj hi
      by_cases e : ko j = ko i
      · right
        have e2 := kk.mpr e
        rw [e, e2, up_at, up_at, tS, up_at, ti]
        exact ⟨by omega, by omega, rfl, rfl⟩
      · have e2 : ¬ pt (me j).toNat = pt (me i).toNat := fun x => e (kk.mp x)
        rw [up_off (show ¬ (ko j).toNat = (ko i).toNat by omega), up_off (show ¬ (pt (me j).toNat).toNat = (pt (me i).toNat).toNat by omega)]
        rcases h3 j hj with c | c
        · exact Or.inl c
        · right
          refine ⟨c.1, by omega, c.2.2.1, ?_⟩
          rw [up_off (by omega)]
          exact c.2.2.2
    · exact up_off (fun x => c (by rw [x]; exact a2))
  · refine ⟨S, sp, ps, sk, sa, (sp (pt (me i).toNat).toNat).toNat, ?_, ?_, h0, by omega, by omega, by omega, fun u hu => ⟨rfl, rfl⟩, fun j hj c => rfl, fun c => by omega⟩
    · rw [e_stateOf (x := me i) (pt := pt) (by omega) (by omega)]
      have e : (((sp (pt (me i).toNat).toNat).toNat : Nat) : Int) = sp (pt (me i).toNat).toNat := by omega
      rw [e]
      simp (disch := omega) only [ck_pos, if_neg, Option.bind_some]
    · unfold F_X12_stateFor
      have e : (((sp (pt (me i).toNat).toNat).toNat : Nat) : Int) = sk (ko i).toNat := by omega
      rw [ti, e]
      simp (disch := omega) only [ck_pos, if_neg, Option.bind_some]
