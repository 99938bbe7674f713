/-! machines of the component: parts -/
theorem p_find {n : Nat} (hn : 1000 ≤ n) {z : Nat} (hz : z ≤ 64) {keys : Nat → Int} (hk : ∀ j, j < z → r4 (keys j)) {x : Int} (hx : r4 x) : ∃ j : Nat, lp_ (fun (q : Int) => F_X1_split_L21 n z keys x q) n 0 = some (j : Int) ∧ j ≤ z ∧ (∀ i, i < j → keys i ≠ x) ∧ (j < z → keys j = x) := by
  obtain ⟨r, h1, j, h2, h3⟩ := lp_rule (f := fun (q : Int) => F_X1_split_L21 n z keys x q) (fun k s => s = (k : Int) ∧ ∀ i, i < k → keys i ≠ x) (fun r => ∃ j : Nat, r = (j : Int) ∧ j ≤ z ∧ (∀ i, i < j → keys i ≠ x) ∧ (j < z → keys j = x)) (N := z) (n := n) (s := 0) (by omega) ⟨rfl, fun i hi => by omega⟩ (fun k s hI hk2 => by
    obtain ⟨rfl, hI⟩ := hI
    unfold F_X1_split_L21
    by_cases hlt : k < z
    · have r1 := hk k hlt
      have ti : ((k : Int)).toNat = k := by omega
      by_cases he : keys k = x
      · right
        refine ⟨(k : Int), ?_, k, rfl, by omega, hI, fun _ => he⟩
        simp (disch := omega) only [ck_pos, if_pos, ti]
      · left
        refine ⟨(k : Int) + 1, ?_, ⟨by omega, fun i hi => ?_⟩, hlt⟩
        · simp (disch := omega) only [ck_pos, if_neg, if_pos (c := (k : Int) < (z : Int)), ti]
        · by_cases hik : i = k
          · subst hik; exact he
          · exact hI i (by omega)
    · right
      refine ⟨(k : Int), ?_, k, rfl, by omega, hI, fun h => absurd h hlt⟩
      simp (disch := omega) only [ck_pos, if_neg])
  exact ⟨j, by rw [h1, h2], h3⟩
theorem p_split {n : Nat} (hn : 1000 ≤ n) {N : Nat} (hN : N ≤ 64) {L c K : Nat → Int} (hK : ∀ p, p < N → F_X1_keyOf n L c p = some (K p)) (hr : ∀ p, p < N → r4 (K p)) (keys finer : Nat → Int) : ∃ part' keys' finer', F_X1_split n N L c keys finer = some (((cnF (fun p q => K p = K q) N : Nat) : Int), part', keys', finer') ∧ nbr (fun p q => K p = K q) N part' (cnF (fun p q => K p = K q) N : Nat) := by
  generalize hR : (fun p q => K p = K q) = R
  have eR : ∀ p q, R p q ↔ K p = K q := fun p q => by rw [← hR]
  obtain ⟨r, h1, h2⟩ := lp_rule (f := fun (q : Int × Int × (Nat → Int) × (Nat → Int)) => F_X1_split_L4 n N L c q.1 q.2.1 q.2.2.1 q.2.2.2) (fun i s => s.1 = (cnF R i : Nat) ∧ s.2.1 = (i : Int) ∧ i ≤ N ∧ (∀ j j', j < cnF R i → j' < cnF R i → s.2.2.1 j = s.2.2.1 j' → j = j') ∧ (∀ j, j < cnF R i → ∃ q, q < i ∧ s.2.2.1 j = K q) ∧ ∀ q, q < i → 0 ≤ s.2.2.2 q ∧ s.2.2.2 q < (cnF R i : Nat) ∧ s.2.2.1 (s.2.2.2 q).toNat = K q)
    (fun r => r.1 = (cnF R N : Nat) ∧ (∀ j j', j < cnF R N → j' < cnF R N → r.2.1 j = r.2.1 j' → j = j') ∧ ∀ q, q < N → 0 ≤ r.2.2 q ∧ r.2.2 q < (cnF R N : Nat) ∧ r.2.1 (r.2.2 q).toNat = K q) (N := N) (n := n) (s := (0, 0, keys, finer)) (by omega) ⟨rfl, rfl, by omega, fun j j' h => (by cases h), fun j h => (by cases h), fun q h => (by omega)⟩ (fun i s hI hi => by
    obtain ⟨z, i', ks, fs⟩ := s
    obtain ⟨a1, a2, a3, a4, a5, a6⟩ := hI
    dsimp only at a1 a2 a4 a5 a6
    subst a1 a2
    have zl := cnF_le R i
    unfold F_X1_split_L4
    dsimp only
    by_cases hlt : i < N
    · left
      have rk : ∀ j, j < cnF R i → r4 (ks j) := fun j hj => by
        obtain ⟨q, q1, q2⟩ := a5 j hj
        rw [q2]; exact hr q (by omega)
      obtain ⟨j, f1, f2, f3, f4⟩ := p_find hn (z := cnF R i) (by omega) rk (hr i hlt)
      have ti : ((i : Int)).toNat = i := by omega
      have tz : ((cnF R i : Nat) : Int).toNat = cnF R i := by omega
      rw [hK i hlt, Option.bind_some, f1, Option.bind_some, ti, tz]
      by_cases hj : j = cnF R i
      · have nw : cnF R (i + 1) = cnF R i + 1 := cnF_new (fun q hq hRq => by
          rw [eR] at hRq
          have := a6 q hq
          exact f3 (fs q).toNat (by omega) (by rw [this.2.2, hRq]))
        refine ⟨(((cnF R i : Nat) : Int) + 1, (i : Int) + 1, up_ ks (cnF R i) (K i), up_ fs i (j : Int)), ?_, ⟨by dsimp only; omega, by dsimp only; omega, by omega, ?_, ?_, ?_⟩, hlt⟩
        · simp (disch := omega) only [ck_pos, if_pos, Option.bind_some]
        · intro a b ha hb e
          dsimp only at e
          have na : ∀ a, a < cnF R i → up_ ks (cnF R i) (K i) a = ks a := fun a h => up_off (by omega)
          by_cases ea : a = cnF R i <;> by_cases eb : b = cnF R i
          · omega
          · rw [ea, up_at, na b (by omega)] at e
            exact absurd e.symm (f3 b (by omega))
          · rw [eb, up_at, na a (by omega)] at e
            exact absurd e (f3 a (by omega))
          · rw [na a (by omega), na b (by omega)] at e
            exact a4 a b (by omega) (by omega) e
        · intro a ha
          dsimp only
          by_cases ea : a = cnF R i
          · exact ⟨i, by omega, by rw [ea, up_at]⟩
          · obtain ⟨q, q1, q2⟩ := a5 a (by omega)
            exact ⟨q, by omega, by rw [up_off ea, q2]⟩
        · intro q hq
          dsimp only
          by_cases eq : q = i
          · subst eq
            rw [up_at]
            refine ⟨by omega, by omega, ?_⟩
            rw [show ((j : Int)).toNat = cnF R q by omega, up_at]
          · have := a6 q (by omega)
            rw [up_off eq]
            refine ⟨by omega, by omega, ?_⟩
            rw [up_off (by omega), this.2.2]
      · obtain ⟨q, q1, q2⟩ := a5 j (by omega)
        have nw : cnF R (i + 1) = cnF R i := cnF_old q1 (by rw [eR, ← q2, f4 (by omega)])
        refine ⟨(((cnF R i : Nat) : Int), (i : Int) + 1, ks, up_ fs i (j : Int)), ?_, ⟨by dsimp only; omega, by dsimp only; omega, by omega, ?_, ?_, ?_⟩, hlt⟩
        · simp (disch := omega) only [ck_pos, if_neg, if_pos (c := (i : Int) < (N : Int)), Option.bind_some]
        · intro a b ha hb e
          exact a4 a b (by omega) (by omega) e
        · intro a ha
          obtain ⟨q, q1, q2⟩ := a5 a (by omega)
          exact ⟨q, by omega, q2⟩
        · intro q hq
          dsimp only
          by_cases eq : q = i
          · subst eq
            rw [up_at]
            refine ⟨by omega, by omega, ?_⟩
            rw [show ((j : Int)).toNat = j by omega, f4 (by omega)]
          · have := a6 q (by omega)
            rw [up_off eq]
            exact ⟨by omega, by omega, this.2.2⟩
    · right
      have : i = N := by omega
      subst this
      exact ⟨(((cnF R i : Nat) : Int), ks, fs), by simp (disch := omega) only [ck_pos, if_neg], rfl, a4, a6⟩)
  obtain ⟨z, ks, fs⟩ := r
  obtain ⟨b1, b2, b3⟩ := h2
  dsimp only at b1 b2 b3
  subst b1
  refine ⟨cp_ fs c 0 0 N, ks, fs, ?_, rfl, ?_, ?_⟩
  · unfold F_X1_split
    have e0 : (((cnF R N : Nat) : Int), cp_ fs c 0 0 N, ks, fs) = (((cnF R N : Nat) : Int), cp_ fs c 0 0 ((N : Int)).toNat, ks, fs) := by rw [Int.toNat_natCast]
    rw [h1, Option.bind_some, e0]
    exact ck_pos (by omega)
  · intro p hp
    have e : cp_ fs c 0 0 N p = fs p := by
      unfold cp_
      rw [if_pos (by omega)]
      congr 1
      omega
    rw [e]
    exact ⟨(b3 p hp).1, (b3 p hp).2.1⟩
  · intro p q hp hq
    have e : ∀ p, p < N → cp_ fs c 0 0 N p = fs p := fun p hp => by
      unfold cp_
      rw [if_pos (by omega)]
      congr 1
      omega
    rw [e p hp, e q hq, eR]
    have c1 := b3 p hp
    have c2 := b3 q hq
    constructor
    · intro h
      rw [← c1.2.2, ← c2.2.2, h]
    · intro h
      have := b2 (fs p).toNat (fs q).toNat (by omega) (by omega) (by rw [c1.2.2, c2.2.2, h])
      omega
