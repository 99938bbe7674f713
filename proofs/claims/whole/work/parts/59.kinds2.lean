theorem p_kindRound {n N : Nat} {np ko nk : Nat → Int} {be kn : Int} {o6 : Int × (Nat → Int)} {o19 : Nat → Int} (h6 : lp_ (fun (q : Int × Int × (Nat → Int)) => F_X12_findKinds_L50 n N ko np q.1 q.2.1 q.2.2) n (0, 0, nk) = some o6) (h19 : lp_ (fun (q : Int × (Nat → Int)) => F_X12_findKinds_L144 n N o6 q.1 q.2) n (0, ko) = some o19) (h1 : r4 kn) (h2 : r4 be) : F_X12_findKinds_L30 n N np be kn ko nk = if kn = be then some (.inr (kn, ko, nk)) else some (.inl (kn, o6.1, o19, o6.2)) := by
  refine (ck_pos ⟨h1, h2⟩).trans ?_
  by_cases e : kn = be
  · exact (if_pos e).trans (if_pos e).symm
  · exact (if_neg e).trans (((bd_of h6).trans (bd_of h19)).trans (if_neg e).symm)
theorem p_findKinds {n : Nat} (hn : 1000 ≤ n) {N : Nat} (hN : N ≤ 64) (hN1 : 1 ≤ N) {np : Nat → Int} (hL : ∀ p g, p < N → g < 5 → np (5 * p + g) = -5 ∨ 0 ≤ np (5 * p + g) ∧ np (5 * p + g) < N) (ko nk : Nat → Int) : ∃ (kn : Int) (ko' nk' : Nat → Int), F_X12_findKinds n N ko np nk = some (kn, ko', nk') ∧ (∀ p, p < N → 0 ≤ ko' p ∧ ko' p < 64) ∧ ∀ p q, p < N → q < N → (ko' p = ko' q ↔ ∀ j, eqK (fun p g => np (5 * p + g)) j p q) := by
  generalize hd : (fun p g => np (5 * p + g)) = d
  have ed : ∀ p g, d p g = np (5 * p + g) := fun p g => by rw [← hd]
  have f1 : lp_ (fun (q : Int × (Nat → Int)) => F_X12_findKinds_L2 n N q.1 q.2) n (0, ko) = some (ov (fun _ => 0) ko N) := by
    refine lp_for (fun i => ((i : Int), ov (fun _ => 0) ko i)) N (by omega) (fun i hi => ?_) ?_
    · unfold F_X12_findKinds_L2
      have ti : ((i : Int)).toNat = i := by omega
      have ei : ((i + 1 : Nat) : Int) = (i : Int) + 1 := by omega
      simp (disch := omega) only [ck_pos, if_pos]
      rw [ti, ei, ← ov_up]
    · unfold F_X12_findKinds_L2
      simp (disch := omega) only [ck_pos, if_neg]
  have f2 : ∀ (o6 : Int × (Nat → Int)) (ko : Nat → Int), lp_ (fun (q : Int × (Nat → Int)) => F_X12_findKinds_L144 n N o6 q.1 q.2) n (0, ko) = some (ov o6.2 ko N) := by
    intro o6 ko
    refine lp_for (fun i => ((i : Int), ov o6.2 ko i)) N (by omega) (fun i hi => ?_) ?_
    · unfold F_X12_findKinds_L144
      have ti : ((i : Int)).toNat = i := by omega
      have ei : ((i + 1 : Nat) : Int) = (i : Int) + 1 := by omega
      simp (disch := omega) only [ck_pos, if_pos]
      rw [ti, ei, ← ov_up]
    · unfold F_X12_findKinds_L144
      simp (disch := omega) only [ck_pos, if_neg]
  obtain ⟨r, h1, h2, h3⟩ := lp_rule (f := fun (q : Int × Int × (Nat → Int) × (Nat → Int)) => F_X12_findKinds_L30 n N np q.1 q.2.1 q.2.2.1 q.2.2.2) (fun i s => ∃ (be kn : Int) (ko nk : Nat → Int), s = (be, kn, ko, nk) ∧ nbr (eqK d i) N ko kn ∧ (i = 0 ∧ be = 0 ∨ ∃ j, i = j + 1 ∧ be = (cnF (eqK d j) N : Nat) ∧ j + 1 ≤ cnF (eqK d j) N))
    (fun r => (∀ p, p < N → 0 ≤ r.2.1 p ∧ r.2.1 p < 64) ∧ ∀ p q, p < N → q < N → (r.2.1 p = r.2.1 q ↔ ∀ j, eqK d j p q)) (N := 65) (n := n) (s := (0, 1, ov (fun _ => 0) ko N, nk)) (by omega) (by
      obtain ⟨N', rfl⟩ : ∃ j, N = j + 1 := ⟨N - 1, by omega⟩
      have e1 : cnF (eqK d 0) (N' + 1) = 1 := cnF_one (fun _ _ => trivial) N'
      refine ⟨0, 1, _, nk, rfl, ⟨by rw [e1]; rfl, ?_, ?_⟩, Or.inl ⟨rfl, rfl⟩⟩
      · intro p hp
        rw [ov_in hp]; omega
      · intro p q hp hq
        rw [ov_in hp, ov_in hq]
        exact ⟨fun _ => trivial, fun _ => rfl⟩) (fun i s hI hi => by
    obtain ⟨be, kn, ko, nk, rfl, a3, a4⟩ := hI
    dsimp only
    have zl := cnF_le (eqK d i) N
    have ez := a3.1
    have hA : ∀ p q, p < N → q < N → ∃ b : Int, F_X12_areLike n ko np p q = some b ∧ (b = 0 ∨ b = 1) ∧ (b = 1 ↔ eqK d (i + 1) p q) := fun p q hp hq => by
      obtain ⟨b, b1, b2, b3⟩ := p_areLike hn hN hL (c := ko) (fun p hp => by have := a3.2.1 p hp; omega) hp hq
      have b4 := eqK_like hL (c := ko) (z := kn) (j := i) (by rw [hd]; exact a3) hp hq
      rw [hd] at b4
      exact ⟨b, b1, b2, b3.trans b4⟩
    obtain ⟨nk', s1, s2⟩ := p_newKinds hn hN (eqK_rf d (i + 1)) (eqK_sy d (i + 1)) (eqK_tr d (i + 1)) hA nk
    have cm := cnF_mono (R := eqK d i) (S := eqK d (i + 1)) (N := N) (fun p q _ _ => eqK_dn d i p q) N (Nat.le_refl N)
    have zl2 := cnF_le (eqK d (i + 1)) N
    have bb : r4 be := by
      rcases a4 with a4 | ⟨j, b1, b2, b3⟩
      · omega
      · have := cnF_le (eqK d j) N
        omega
    have st1 := p_kindRound s1 (f2 _ ko) (by omega) bb (kn := kn)
    dsimp only at st1
    by_cases hz : kn = be
    · right
      rw [if_pos hz] at st1
      refine ⟨_, st1, fun p hp => by have := a3.2.1 p hp; dsimp only; omega, fun p q hp hq => ?_⟩
      rcases a4 with a4 | ⟨j, b1, b2, b3⟩
      · exfalso
        obtain ⟨N', rfl⟩ : ∃ j, N = j + 1 := ⟨N - 1, by omega⟩
        have := cnF_pos (eqK d i) N'
        omega
      · subst b1
        have st := eqK_all (d := d) (N := N) (k := j) (fun p g hp hg c => by
          rw [ed] at c ⊢
          have := hL p g hp hg
          omega) (cnF_same (eqK_rf d (j + 1)) (eqK_tr d (j + 1)) (eqK_sy d (j + 1)) (eqK_tr d j) (eqK_sy d j) (fun p q _ _ => eqK_dn d j p q) (by omega))
        exact (a3.2.2 p q hp hq).trans ⟨fun e m => st m p q hp hq (eqK_dn d j p q e), fun e => e (j + 1)⟩
    · left
      rw [if_neg hz] at st1
      have gr : i + 1 ≤ cnF (eqK d i) N := by
        rcases a4 with a4 | ⟨j, b1, b2, b3⟩
        · obtain ⟨N', rfl⟩ : ∃ j, N = j + 1 := ⟨N - 1, by omega⟩
          have := cnF_pos (eqK d i) N'
          omega
        · subst b1
          have := (cnF_mono (R := eqK d j) (S := eqK d (j + 1)) (N := N) (fun p q _ _ => eqK_dn d j p q) N (Nat.le_refl N)).1
          omega
      refine ⟨_, st1, ⟨kn, _, _, nk', rfl, ⟨rfl, ?_, ?_⟩, Or.inr ⟨i, rfl, ez, gr⟩⟩, by omega⟩
      · intro p hp
        rw [ov_in hp]
        exact s2.2.1 p hp
      · intro p q hp hq
        rw [ov_in hp, ov_in hq]
        exact s2.2.2 p q hp hq)
  obtain ⟨x1, x2, x3⟩ := r
  refine ⟨x1, x2, x3, ?_, h2, h3⟩
  unfold F_X12_findKinds
  rw [f1, Option.bind_some]
  exact (bd_of h1).trans rfl
