/-! machines of the component: rounds -/
theorem nbr_congr {R S : Nat → Nat → Prop} {N : Nat} {c : Nat → Int} {z : Int} (h : ∀ p q, p < N → q < N → (R p q ↔ S p q)) (g : nbr R N c z) : nbr S N c z := by
  obtain ⟨g1, g2, g3⟩ := g
  exact ⟨by rw [g1, cnF_congr h N (Nat.le_refl N)], g2, fun p q hp hq => (g3 p q hp hq).trans (h p q hp hq)⟩
theorem cnF_one {R : Nat → Nat → Prop} (h : ∀ p q, R p q) (i : Nat) : cnF R (i + 1) = 1 := by
  induction i with
  | zero => exact cnF_new (fun q hq => by omega)
  | succ i ih => rw [cnF_old (q := 0) (by omega) (h _ _), ih]
theorem eqK_key {N : Nat} {L c : Nat → Int} (hL : ∀ p g, p < N → g < 5 → L (5 * p + g) = -5 ∨ 0 ≤ L (5 * p + g) ∧ L (5 * p + g) < N) {j : Nat} {z : Int} (hz : z ≤ 64) (hc : nbr (eqK (fun p g => L (5 * p + g)) j) N c z) {p q : Nat} (hp : p < N) (hq : q < N) : r4 (kyS L c p 5) ∧ (kyS L c p 5 = kyS L c q 5 ↔ eqK (fun p g => L (5 * p + g)) (j + 1) p q) := by
  obtain ⟨h1, h2, h3⟩ := hc
  have k := kyS_iff hL (c := c) (fun p hp => by have := h2 p hp; omega) hp hq
  refine ⟨k.1, k.2.trans ?_⟩
  constructor
  · intro e g hg
    refine ⟨(e g hg).1, fun c1 => ?_⟩
    have c2 : L (5 * q + g) ≠ -5 := fun x => c1 ((e g hg).1.mpr x)
    have l1 := hL p g hp hg
    have l2 := hL q g hq hg
    exact (h3 (L (5 * p + g)).toNat (L (5 * q + g)).toNat (by omega) (by omega)).mp ((e g hg).2 c1)
  · intro e g hg
    have eg := e g hg
    dsimp only at eg
    refine ⟨eg.1, fun c1 => ?_⟩
    have c2 : L (5 * q + g) ≠ -5 := fun x => c1 (eg.1.mpr x)
    have l1 := hL p g hp hg
    have l2 := hL q g hq hg
    exact (h3 (L (5 * p + g)).toNat (L (5 * q + g)).toNat (by omega) (by omega)).mpr (eg.2 c1)
theorem p_round {n N : Nat} {w : Int} (hw : min 64 (sl_ 1 w) = (N : Int)) {L pt ks fs : Nat → Int} {z i : Int} {o : Int × (Nat → Int) × (Nat → Int) × (Nat → Int)} (h : F_X1_split n N L pt ks fs = some o) (hi : 0 ≤ i ∧ i < 64) (ho : r4 o.1) (hz : r4 z) : F_X1_build_L34 n w L z i pt ks fs = if o.1 = z then some (.inr (.inr (o.2.1, o.2.2.1, o.2.2.2))) else some (.inl (o.1, i + 1, o.2.1, o.2.2.1, o.2.2.2)) := by
  rw [← hw] at h
  refine (ck_pos (show r4 i by omega)).trans ((if_pos hi.2).trans ((bd_of h).trans (ck_pos ⟨ho, hz⟩)))
theorem p_rounds {n : Nat} (hn : 1000 ≤ n) {N : Nat} (hN : N ≤ 64) (hN1 : 1 ≤ N) {w : Int} (hw : min 64 (sl_ 1 w) = (N : Int)) {L : Nat → Int} (hL : ∀ p g, p < N → g < 5 → L (5 * p + g) = -5 ∨ 0 ≤ L (5 * p + g) ∧ L (5 * p + g) < N) (part keys finer : Nat → Int) (h0 : ∀ p, p < N → part p = 0) : ∃ part' keys' finer', lp_ (fun (q : Int × Int × (Nat → Int) × (Nat → Int) × (Nat → Int)) => F_X1_build_L34 n w L q.1 q.2.1 q.2.2.1 q.2.2.2.1 q.2.2.2.2) n (1, 0, part, keys, finer) = some (.inr (part', keys', finer')) ∧ (∀ p, p < N → 0 ≤ part' p ∧ part' p < 64) ∧ ∀ p q, p < N → q < N → (part' p = part' q ↔ ∀ j, eqK (fun p g => L (5 * p + g)) j p q) := by
  generalize hd : (fun p g => L (5 * p + g)) = d
  have ed : ∀ p g, d p g = L (5 * p + g) := fun p g => by rw [← hd]
  obtain ⟨r, h1, x, h2, h3⟩ := lp_rule (f := fun (q : Int × Int × (Nat → Int) × (Nat → Int) × (Nat → Int)) => F_X1_build_L34 n w L q.1 q.2.1 q.2.2.1 q.2.2.2.1 q.2.2.2.2) (fun i s => s.2.1 = (i : Int) ∧ nbr (eqK d i) N s.2.2.1 s.1 ∧ i + 1 ≤ cnF (eqK d i) N)
    (fun r => ∃ x : (Nat → Int) × (Nat → Int) × (Nat → Int), r = .inr x ∧ (∀ p, p < N → 0 ≤ x.1 p ∧ x.1 p < 64) ∧ ∀ p q, p < N → q < N → (x.1 p = x.1 q ↔ ∀ j, eqK d j p q)) (N := 64) (n := n) (s := (1, 0, part, keys, finer)) (by omega) (by
      obtain ⟨N', rfl⟩ : ∃ j, N = j + 1 := ⟨N - 1, by omega⟩
      have e1 : cnF (eqK d 0) (N' + 1) = 1 := cnF_one (fun _ _ => trivial) N'
      refine ⟨rfl, ⟨?_, ?_, ?_⟩, ?_⟩
      · rw [e1]; rfl
      · intro p hp
        show 0 ≤ part p ∧ part p < 1
        rw [h0 p hp]; omega
      · intro p q hp hq
        show part p = part q ↔ _
        rw [h0 p hp, h0 q hq]
        exact ⟨fun _ => trivial, fun _ => rfl⟩
      · omega) (fun i s hI hi => by
    obtain ⟨z, i', pt, ks, fs⟩ := s
    obtain ⟨a2, a3, a4⟩ := hI
    dsimp only at a2 a3 a4
    subst a2
    have zl := cnF_le (eqK d i) N
    have ez := a3.1
    have q1 := fun p q (hp : p < N) (hq : q < N) => eqK_key hL (c := pt) (z := z) (j := i) (by omega) (by rw [hd]; exact a3) hp hq
    rw [hd] at q1
    obtain ⟨pt', ks', fs', s1, s2⟩ := p_split hn hN (c := pt) (K := fun p => kyS L pt p 5) (fun p hp => p_keyOf hn hN hL hp) (fun p hp => (q1 p p hp hp).1) ks fs
    have s3 := nbr_congr (S := eqK d (i + 1)) (fun p q hp hq => (q1 p q hp hq).2) s2
    have ec := s3.1
    have zl2 := cnF_le (eqK d (i + 1)) N
    have cm := cnF_mono (R := eqK d i) (S := eqK d (i + 1)) (N := N) (fun p q _ _ => eqK_dn d i p q) N (Nat.le_refl N)
    rw [ec] at s1 s3
    have st1 := p_round (z := z) (i := (i : Int)) hw s1 (by omega) (by dsimp only; omega) (by omega)
    dsimp only at st1
    by_cases hz : ((cnF (eqK d (i + 1)) N : Nat) : Int) = z
    · right
      rw [if_pos hz] at st1
      refine ⟨_, st1, (pt', ks', fs'), rfl, fun p hp => by have := s3.2.1 p hp; dsimp only; omega, fun p q hp hq => ?_⟩
      have st := eqK_all (d := d) (N := N) (k := i) (fun p g hp hg c => by
        rw [ed] at c ⊢
        have := hL p g hp hg
        omega) (cnF_same (eqK_rf d (i + 1)) (eqK_tr d (i + 1)) (eqK_sy d (i + 1)) (eqK_tr d i) (eqK_sy d i) (fun p q _ _ => eqK_dn d i p q) (by omega))
      exact (s3.2.2 p q hp hq).trans ⟨fun e j => st j p q hp hq (eqK_dn d i p q e), fun e => e (i + 1)⟩
    · left
      rw [if_neg hz] at st1
      exact ⟨_, st1, ⟨by dsimp only; omega, s3, by omega⟩, by omega⟩)
  obtain ⟨x1, x2, x3⟩ := x
  exact ⟨x1, x2, x3, by rw [h1, h2], h3⟩
