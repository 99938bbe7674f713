theorem gcd_go (x y : Nat) : Nat.gcd x y = Nat.gcd y (x % y) := by
  rw [Nat.gcd_comm x y, Nat.gcd_rec y x, Nat.gcd_comm]
theorem p_gcdC {n : Nat} : ∀ (j x y m i : Nat), y < 2 ^ j → 2 * j + 1 ≤ m → i + 2 * j ≤ 60 → x < 2147483648 → y < 2147483648 → lp_ (fun (q : Int × Int × Int) => F_X3_commonDivisor_L7 n q.1 q.2.1 q.2.2) m ((x : Int), (y : Int), (i : Int)) = some ((Nat.gcd x y : Nat) : Int) := by
  have stop : ∀ x i m : Nat, i < 64 → 1 ≤ m → lp_ (fun (q : Int × Int × Int) => F_X3_commonDivisor_L7 n q.1 q.2.1 q.2.2) m ((x : Int), ((0 : Nat) : Int), (i : Int)) = some ((Nat.gcd x 0 : Nat) : Int) := by
    intro x i m hi hm
    obtain ⟨m, rfl⟩ : ∃ j, m = j + 1 := ⟨m - 1, by omega⟩
    rw [Nat.gcd_zero_right]
    have st : F_X3_commonDivisor_L7 n (x : Int) ((0 : Nat) : Int) (i : Int) = some (.inr (x : Int)) := (ck_pos (by omega)).trans ((if_pos (by omega)).trans ((ck_pos (by omega)).trans (if_pos rfl)))
    exact lp_end st
  have go : ∀ x y i m : Nat, i < 64 → 1 ≤ y → x < 2147483648 → y < 2147483648 → lp_ (fun (q : Int × Int × Int) => F_X3_commonDivisor_L7 n q.1 q.2.1 q.2.2) (m + 1) ((x : Int), (y : Int), (i : Int)) = lp_ (fun (q : Int × Int × Int) => F_X3_commonDivisor_L7 n q.1 q.2.1 q.2.2) m ((y : Int), ((x % y : Nat) : Int), ((i + 1 : Nat) : Int)) := by
    intro x y i m hi hy hx hy2
    have e : ((x % y : Nat) : Int) = (x : Int) % (y : Int) := by simp
    have e2 : ((i + 1 : Nat) : Int) = (i : Int) + 1 := by omega
    rw [e, e2]
    have st : F_X3_commonDivisor_L7 n (x : Int) (y : Int) (i : Int) = some (.inl ((y : Int), (x : Int) % (y : Int), (i : Int) + 1)) := (ck_pos (by omega)).trans ((if_pos (by omega)).trans ((ck_pos (by omega)).trans ((if_neg (by omega)).trans (ck_pos (by omega)))))
    exact lp_go st
  intro j
  induction j with
  | zero =>
    intro x y m i h1 h2 h3 h4 h5
    have : y = 0 := by simp at h1; exact h1
    subst this
    exact stop x i m (by omega) (by omega)
  | succ j ih =>
    intro x y m i h1 h2 h3 h4 h5
    by_cases hy : y = 0
    · subst hy
      exact stop x i m (by omega) (by omega)
    · obtain ⟨m, rfl⟩ : ∃ k, m = k + 1 + 1 := ⟨m - 2, by omega⟩
      have r1 : x % y < y := Nat.mod_lt _ (by omega)
      rw [go x y i (m + 1) (by omega) (by omega) h4 h5, gcd_go x y]
      by_cases hr : x % y = 0
      · rw [hr]
        exact stop y (i + 1) (m + 1) (by omega) (by omega)
      · have r2 : y % (x % y) < x % y := Nat.mod_lt _ (by omega)
        have r3 : y % (x % y) ≤ y - x % y := by
          rw [Nat.mod_eq_sub_mod (by omega)]
          exact Nat.mod_le _ _
        rw [go y (x % y) (i + 1) m (by omega) (by omega) h5 (by omega), gcd_go y (x % y)]
        exact ih (x % y) (y % (x % y)) m (i + 1 + 1) (by rw [Nat.pow_succ] at h1; omega) (by omega) (by omega) (by omega) (by omega)
theorem p_gcdM2 {n : Nat} : ∀ (j x y m : Nat), y < 2 ^ j → 2 * j + 1 ≤ m → x < 9223372036854775808 → y < 9223372036854775808 → lp_ (fun (q : Int × Int) => F_X12_common_L6 n q.1 q.2) m ((x : Int), (y : Int)) = some ((Nat.gcd x y : Nat) : Int) := by
  have stop : ∀ x m : Nat, 1 ≤ m → lp_ (fun (q : Int × Int) => F_X12_common_L6 n q.1 q.2) m ((x : Int), ((0 : Nat) : Int)) = some ((Nat.gcd x 0 : Nat) : Int) := by
    intro x m hm
    obtain ⟨m, rfl⟩ : ∃ j, m = j + 1 := ⟨m - 1, by omega⟩
    rw [Nat.gcd_zero_right]
    have st : F_X12_common_L6 n (x : Int) ((0 : Nat) : Int) = some (.inr (x : Int)) := (ck_pos (by omega)).trans (if_pos rfl)
    exact lp_end st
  have go : ∀ x y m : Nat, 1 ≤ y → x < 9223372036854775808 → y < 9223372036854775808 → lp_ (fun (q : Int × Int) => F_X12_common_L6 n q.1 q.2) (m + 1) ((x : Int), (y : Int)) = lp_ (fun (q : Int × Int) => F_X12_common_L6 n q.1 q.2) m ((y : Int), ((x % y : Nat) : Int)) := by
    intro x y m hy hx hy2
    have e : ((x % y : Nat) : Int) = (x : Int) % (y : Int) := by simp
    rw [e]
    have st : F_X12_common_L6 n (x : Int) (y : Int) = some (.inl ((y : Int), (x : Int) % (y : Int))) := (ck_pos (by omega)).trans ((if_neg (by omega)).trans (ck_pos (by omega)))
    exact lp_go st
  intro j
  induction j with
  | zero =>
    intro x y m h1 h2 h4 h5
    have : y = 0 := by simp at h1; exact h1
    subst this
    exact stop x m (by omega)
  | succ j ih =>
    intro x y m h1 h2 h4 h5
    by_cases hy : y = 0
    · subst hy
      exact stop x m (by omega)
    · obtain ⟨m, rfl⟩ : ∃ k, m = k + 1 + 1 := ⟨m - 2, by omega⟩
      have r1 : x % y < y := Nat.mod_lt _ (by omega)
      rw [go x y (m + 1) (by omega) h4 h5, gcd_go x y]
      by_cases hr : x % y = 0
      · rw [hr]
        exact stop y (m + 1) (by omega)
      · have r2 : y % (x % y) < x % y := Nat.mod_lt _ (by omega)
        have r3 : y % (x % y) ≤ y - x % y := by
          rw [Nat.mod_eq_sub_mod (by omega)]
          exact Nat.mod_le _ _
        rw [go y (x % y) m (by omega) h5 (by omega), gcd_go y (x % y)]
        exact ih (x % y) (y % (x % y)) m (by rw [Nat.pow_succ] at h1; omega) (by omega) (by omega) (by omega)
theorem p_reckon {n : Nat} (hn : 1000 ≤ n) {S : Nat} (hS : S ≤ 64) {T c : Nat → Int} (hT : clT S T) (hc : okC c) {s m : Nat} (hs : s < S) (hm : m ≤ 8) (aw an : Nat) (w nx : Nat → Int) : ∃ (a b : Nat) (w' nx' : Nat → Int), F_X3_reckon n aw w an nx S c T s m = some (wyS T c m s / (Nat.gcd (wyS T c m s).toNat (tp_ m).toNat : Nat), tp_ m / (Nat.gcd (wyS T c m s).toNat (tp_ m).toNat : Nat), a, w', b, nx') ∧ (a = aw ∧ b = an ∨ a = an ∧ b = aw) := by
  have ts : ((s : Int)).toNat = s := by omega
  have wm := wyS_b hT hc m s hs
  have tm := tp_b hm
  obtain ⟨r, h1, a, b, w', nx', h2, h3⟩ := lp_rule (f := fun (q : Int × Int × Int × Nat × (Nat → Int) × Nat × (Nat → Int)) => F_X3_reckon_L35 n m S c T q.1 q.2.1 q.2.2.1 q.2.2.2.1 q.2.2.2.2.1 q.2.2.2.2.2.1 q.2.2.2.2.2.2) (fun i q => ∃ (u : Int) (a b : Nat) (w' nx' : Nat → Int), q = ((i : Int), u, tp_ i, a, w', b, nx') ∧ i ≤ m ∧ (a = aw ∧ b = an ∨ a = an ∧ b = aw) ∧ (∀ t, t < S → 0 ≤ w' t) ∧ sm_ w' S ≤ tp_ i ∧ u * tp_ (m - i) + sm_ (fun t => w' t * wyS T c (m - i) t) S = wyS T c m s)
    (fun r => ∃ (a b : Nat) (w' nx' : Nat → Int), r = (wyS T c m s, tp_ m, a, w', b, nx') ∧ (a = aw ∧ b = an ∨ a = an ∧ b = aw)) (N := m) (n := n) (s := (0, 0, 1, aw, up_ (ov (fun _ => 0) w 64) s 1, an, nx)) (by omega) ⟨0, aw, an, _, nx, rfl, by omega, Or.inl ⟨rfl, rfl⟩, fun t ht => by
      by_cases e : t = s
      · rw [e, up_at]; omega
      · rw [up_off e, ov_in (by omega)]; omega, by
      have z : ∀ i, sm_ (fun _ => 0) i = 0 := by
        intro i
        induction i with
        | zero => rfl
        | succ i ih => show sm_ (fun _ => 0) i + 0 = 0; rw [ih]; rfl
      have e := sm_up (f := ov (fun _ => 0) w 64) (φ := fun _ => 1) (t := s) (x := 1) (N := S)
      rw [if_pos hs, sm_mul, sm_mul, sm_congr (f := ov (fun _ => 0) w 64) (g := fun _ => 0) (N := S) (fun i hi => ov_in (by omega)) S (Nat.le_refl S), z, ov_in (by omega)] at e
      show _ ≤ (1 : Int)
      omega, by
      have z : ∀ i, sm_ (fun _ => 0) i = 0 := by
        intro i
        induction i with
        | zero => rfl
        | succ i ih => show sm_ (fun _ => 0) i + 0 = 0; rw [ih]; rfl
      rw [sm_up, if_pos hs, sm_congr (f := fun t => ov (fun _ => 0) w 64 t * wyS T c (m - 0) t) (g := fun _ => 0) (N := S) (fun i hi => by rw [ov_in (by omega)]; omega) S (Nat.le_refl S), z, ov_in (by omega)]
      show 0 * tp_ m + (0 + (1 - 0) * wyS T c m s) = wyS T c m s
      omega⟩ (fun i q hI hi => by
    obtain ⟨u, a, b, w', nx', rfl, c0, c1, c2, c3, c4⟩ := hI
    dsimp only
    by_cases hlt : i < m
    · left
      have ti := tp_b (k := i) (by omega)
      have sw := sm_nn c2 S (Nat.le_refl S)
      obtain ⟨al, nx2, d1, d2, d3, d4⟩ := p_spread hn hS hT hc (w := w') (fun t ht => by have := c2 t ht; have := sw.2 t ht; omega) b a nx'
      refine ⟨((i : Int) + 1, u * 10 + al, tp_ i * 10, b, nx2, a, w'), (ck_pos (by omega)).trans ((if_pos (by omega)).trans ((ck_pos (by omega)).trans ((if_pos (by omega)).trans ((bd_of d1).trans rfl)))), ⟨_, b, a, nx2, w', rfl, by omega, by omega, d3, ?_, ?_⟩, hlt⟩
      · have e := d4 1 (fun _ => 1)
        rw [sm_mul] at e
        have e2 : sm_ (fun s => w' s * ogS T c 1 (fun _ => 1) s 5) S = sm_ w' S * 10 := by
          rw [← sm_mul]
          refine sm_congr (N := S) (fun i hi => ?_) S (Nat.le_refl S)
          rw [ogS_one, hc.sm]
        show sm_ nx2 S ≤ tp_ i * 10
        omega
      · rw [← c4]
        have e := d4 (tp_ (m - (i + 1))) (wyS T c (m - (i + 1)))
        have e1 : m - i = m - (i + 1) + 1 := by omega
        rw [e1]
        show (u * 10 + al) * tp_ (m - (i + 1)) + _ = u * (tp_ (m - (i + 1)) * 10) + sm_ (fun t => w' t * ogS T c (tp_ (m - (i + 1))) (wyS T c (m - (i + 1))) t 5) S
        rw [← e, Int.add_mul, Int.mul_comm (tp_ (m - (i + 1))) 10, ← Int.mul_assoc]
        omega
    · right
      have : i = m := by omega
      subst this
      have z : ∀ j, sm_ (fun t => w' t * wyS T c (i - i) t) j = 0 := by
        intro j
        rw [Nat.sub_self]
        induction j with
        | zero => rfl
        | succ j ih => show sm_ (fun t => w' t * wyS T c 0 t) j + w' j * 0 = 0; rw [ih]; omega
      rw [z, Nat.sub_self] at c4
      have eu : u = wyS T c i s := by
        have c5 : u * 1 + 0 = wyS T c i s := c4
        omega
      subst eu
      exact ⟨(wyS T c i s, tp_ i, a, w', b, nx'), (ck_pos (by omega)).trans (if_neg (by omega)), a, b, w', nx', rfl, c1⟩)
  subst h2
  obtain ⟨x, hx⟩ : ∃ x : Nat, wyS T c m s = (x : Int) := ⟨(wyS T c m s).toNat, by omega⟩
  obtain ⟨y, hy⟩ : ∃ y : Nat, tp_ m = (y : Int) := ⟨(tp_ m).toNat, by omega⟩
  have gp : 0 < Nat.gcd x y := Nat.gcd_pos_of_pos_right x (by omega)
  have gl : Nat.gcd x y ≤ y := Nat.gcd_le_right x (by omega)
  have g := p_gcdC (n := n) 27 x y n 0 (by omega) (by omega) (by omega) (by omega) (by omega)
  refine ⟨a, b, w', nx', ?_, h3⟩
  unfold F_X3_reckon
  refine (bd_of (p_fill hn (N := 64) (by omega) w 0)).trans ((bd_of (p_past1 (by omega))).trans ((bd_of (a := up_ (ov (fun _ => 0) w 64) s 1) ((ck_pos (by omega)).trans ((if_neg (by omega)).trans ((ck_pos (by omega)).trans (by rw [ts]))))).trans ?_))
  refine (bd_of h1).trans ?_
  rw [hx, hy, Int.toNat_natCast, Int.toNat_natCast]
  have g2 : F_X3_commonDivisor n (x : Int) (y : Int) = some ((Nat.gcd x y : Nat) : Int) := (bd_of g).trans rfl
  refine (bd_of g2).trans ?_
  refine (bd_of (a := ((x : Int) / (Nat.gcd x y : Nat), (y : Int) / (Nat.gcd x y : Nat))) ?_).trans rfl
  by_cases e : Nat.gcd x y = 1
  · rw [e]
    refine (ck_pos (by omega)).trans ((if_neg (by omega)).trans ?_)
    simp
  · exact (ck_pos (by omega)).trans ((if_pos (by omega)).trans ((ck_pos (show d4_ (x : Int) ((Nat.gcd x y : Nat) : Int) by omega)).trans (ck_pos (show d4_ (y : Int) ((Nat.gcd x y : Nat) : Int) by omega))))
theorem wyS_congr {S : Nat} {T U c : Nat → Int} (hT : clT S T) (h : ∀ j, j < 5 * S → T j = U j) : ∀ k s, s < S → wyS T c k s = wyS U c k s := by
  intro k
  induction k with
  | zero => intro s _; rfl
  | succ k ih =>
    intro s hs
    have key : ∀ g, g ≤ 5 → ogS T c (tp_ k) (wyS T c k) s g = ogS U c (tp_ k) (wyS U c k) s g := by
      intro g
      induction g with
      | zero => intro _; rfl
      | succ g ig =>
        intro hg
        have d := hT s g hs (by omega)
        show ogS T c (tp_ k) (wyS T c k) s g + c g * (if T (5 * s + g) = -5 then tp_ k else wyS T c k (T (5 * s + g)).toNat) = ogS U c (tp_ k) (wyS U c k) s g + c g * (if U (5 * s + g) = -5 then tp_ k else wyS U c k (U (5 * s + g)).toNat)
        rw [ig (by omega), ← h (5 * s + g) (by omega)]
        by_cases e : T (5 * s + g) = -5
        · rw [if_pos e, if_pos e]
        · rw [if_neg e, if_neg e, ih _ (by omega)]
    exact key 5 (by omega)
theorem ogS_at {T c φ ψ : Nat → Int} {A : Int} {S : Nat} (hT : clT S T) (h : ∀ s, s < S → φ s = ψ s) {s : Nat} (hs : s < S) : ∀ g, g ≤ 5 → ogS T c A φ s g = ogS T c A ψ s g := by
  intro g
  induction g with
  | zero => intro _; rfl
  | succ g ih =>
    intro hg
    have d := hT s g hs (by omega)
    show ogS T c A φ s g + c g * (if T (5 * s + g) = -5 then A else φ (T (5 * s + g)).toNat) = ogS T c A ψ s g + c g * (if T (5 * s + g) = -5 then A else ψ (T (5 * s + g)).toNat)
    rw [ih (by omega)]
    by_cases e : T (5 * s + g) = -5
    · rw [if_pos e, if_pos e]
    · rw [if_neg e, if_neg e, h _ (by omega)]
theorem p_ways {n : Nat} (hn : 1000 ≤ n) {S : Nat} (hS : S ≤ 64) (o5 : Int × Int × Int × Int × (Nat → Int) × (Nat → Int) × (Nat → Int) × (Nat → Int) × (Nat → Int) × (Nat → Int) × (Nat → Int) × (Nat → Int) × (Nat → Int) × (Nat → Int) × (Nat → Int) × (Nat → Int) × (Nat → Int)) (hT : clT S o5.2.2.2.2.2.2.2.2.2.2.2.2.2.2.2.2) (h4 : o5.2.2.2.1 = (S : Int)) {now : Nat → Int} (hc : ∀ g, g < 5 → r4 (now (10 + g))) {m : Nat} (hm : m ≤ 8) (wa nw : Nat → Int) : ∃ o6 wa' nw', lp_ (fun (q : Int × (Nat → Int)) => F_X12_odds_L32 n o5 q.1 q.2) n (0, wa) = some o6 ∧ lp_ (fun (q : Int × Int × (Nat → Int) × (Nat → Int)) => F_X12_odds_L58 n m o5 now q.1 q.2.1 q.2.2.1 q.2.2.2) n (1, 0, o6, nw) = some (tp_ m, wa', nw') ∧ ∀ s, s < S → wa' s = wyS o5.2.2.2.2.2.2.2.2.2.2.2.2.2.2.2.2 (fun g => now (10 + g)) m s := by
  generalize hU : o5.2.2.2.2.2.2.2.2.2.2.2.2.2.2.2.2 = U at hT ⊢
  have f1 : lp_ (fun (q : Int × (Nat → Int)) => F_X12_odds_L32 n o5 q.1 q.2) n (0, wa) = some (ov (fun _ => 0) wa S) := by
    refine lp_for (fun i => ((i : Int), ov (fun _ => 0) wa i)) S (by omega) (fun i hi => ?_) ?_
    · unfold F_X12_odds_L32
      have ti : ((i : Int)).toNat = i := by omega
      have ei : ((i + 1 : Nat) : Int) = (i : Int) + 1 := by omega
      simp only [h4]
      simp (disch := omega) only [ck_pos, if_pos]
      rw [ti, ei, ← ov_up]
    · unfold F_X12_odds_L32
      simp only [h4]
      simp (disch := omega) only [ck_pos, if_neg]
  have f2 : ∀ (o11 wa : Nat → Int), lp_ (fun (q : Int × (Nat → Int)) => F_X12_odds_L162 n o5 o11 q.1 q.2) n (0, wa) = some (ov o11 wa S) := by
    intro o11 wa
    refine lp_for (fun i => ((i : Int), ov o11 wa i)) S (by omega) (fun i hi => ?_) ?_
    · unfold F_X12_odds_L162
      have ti : ((i : Int)).toNat = i := by omega
      have ei : ((i + 1 : Nat) : Int) = (i : Int) + 1 := by omega
      simp only [h4]
      simp (disch := omega) only [ck_pos, if_pos]
      rw [ti, ei, ← ov_up]
    · unfold F_X12_odds_L162
      simp only [h4]
      simp (disch := omega) only [ck_pos, if_neg]
  have f3 : ∀ (all : Int) (wa : Nat → Int) (s : Nat), s < S → lp_ (fun (q : Int × Int) => F_X12_odds_L82 n s now o5 all wa q.1 q.2) n (0, 0) = some (ogS U (fun g => now (10 + g)) all wa s 5) := by
    intro all wa s hs
    refine lp_for (fun g => (ogS U (fun g => now (10 + g)) all wa s g, (g : Int))) 5 (by omega) (fun g hg => ?_) ((ck_pos (show r4 (5 : Int) by decide)).trans (if_neg (show ¬ (5 : Int) < 5 by decide)))
    have d := hT s g hs hg
    have cg := hc g hg
    have t1 : (5 * (s : Int) + (g : Int)).toNat = 5 * s + g := by omega
    have t2 : (10 + (g : Int)).toNat = 10 + g := by omega
    have e : ogS U (fun g => now (10 + g)) all wa s (g + 1) = ogS U (fun g => now (10 + g)) all wa s g + now (10 + g) * if U (5 * s + g) = -5 then all else wa (U (5 * s + g)).toNat := rfl
    show F_X12_odds_L82 n s now o5 all wa _ (g : Int) = some (.inl (_, ((g + 1 : Nat) : Int)))
    rw [e, show ((g + 1 : Nat) : Int) = (g : Int) + 1 by omega]
    refine (ck_pos (by omega)).trans ((if_pos (by omega)).trans ((ck_pos (by omega)).trans ((ck_pos (by omega)).trans ?_)))
    rw [t2]
    refine (ck_pos cg).trans ?_
    rw [hU, t1]
    refine (bd_of (a := if U (5 * s + g) = -5 then all else wa (U (5 * s + g)).toNat) ?_).trans rfl
    refine (ck_pos (by omega)).trans ?_
    by_cases e : U (5 * s + g) = -5
    · rw [if_pos e, if_pos e]
    · rw [if_neg e, if_neg e]
      exact ck_pos (by omega)
  have f4 : ∀ (all : Int) (wa nw : Nat → Int), lp_ (fun (q : Int × (Nat → Int)) => F_X12_odds_L67 n o5 now all wa q.1 q.2) n (0, nw) = some (ov (fun s => ogS U (fun g => now (10 + g)) all wa s 5) nw S) := by
    intro all wa nw
    refine lp_for (fun i => ((i : Int), ov (fun s => ogS U (fun g => now (10 + g)) all wa s 5) nw i)) S (by omega) (fun i hi => ?_) ?_
    · have ti : ((i : Int)).toNat = i := by omega
      have ei : ((i + 1 : Nat) : Int) = (i : Int) + 1 := by omega
      show F_X12_odds_L67 n o5 now all wa (i : Int) _ = some (.inl (((i + 1 : Nat) : Int), _))
      unfold F_X12_odds_L67
      rw [h4, ei, ← ov_up]
      refine (ck_pos (by omega)).trans ((if_pos (by omega)).trans ((bd_of (f3 all wa i hi)).trans ((ck_pos (by omega)).trans ?_)))
      rw [ti]
    · show F_X12_odds_L67 n o5 now all wa (S : Int) _ = _
      unfold F_X12_odds_L67
      rw [h4]
      exact (ck_pos (by omega)).trans (if_neg (by omega))
  obtain ⟨r, h1, wa', nw', rfl, h2⟩ := lp_rule (f := fun (q : Int × Int × (Nat → Int) × (Nat → Int)) => F_X12_odds_L58 n m o5 now q.1 q.2.1 q.2.2.1 q.2.2.2) (fun k q => ∃ wa' nw' : Nat → Int, q = (tp_ k, (k : Int), wa', nw') ∧ k ≤ m ∧ ∀ s, s < S → wa' s = wyS U (fun g => now (10 + g)) k s)
    (fun r => ∃ wa' nw' : Nat → Int, r = (tp_ m, wa', nw') ∧ ∀ s, s < S → wa' s = wyS U (fun g => now (10 + g)) m s) (N := m) (n := n) (s := (1, 0, ov (fun _ => 0) wa S, nw)) (by omega) ⟨_, nw, rfl, by omega, fun s hs => ov_in hs⟩ (fun k q hI hk => by
    obtain ⟨wa', nw', rfl, c1, c2⟩ := hI
    dsimp only
    by_cases hlt : k < m
    · left
      refine ⟨(tp_ k * 10, (k : Int) + 1, _, _), (ck_pos (by omega)).trans ((if_pos (by omega)).trans ((bd_of (f4 (tp_ k) wa' nw')).trans ((bd_of (f2 _ wa')).trans rfl))), ⟨_, _, rfl, by omega, fun s hs => ?_⟩, hlt⟩
      rw [ov_in hs, ov_in hs]
      exact ogS_at hT c2 hs 5 (by omega)
    · right
      have : k = m := by omega
      subst this
      exact ⟨(tp_ k, wa', nw'), (ck_pos (by omega)).trans (if_neg (by omega)), wa', nw', rfl, c2⟩)
  exact ⟨_, wa', nw', f1, h1, h2⟩
