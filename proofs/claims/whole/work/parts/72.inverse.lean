/-! by the prime -/
def cg (x y : Int) : Prop := (1000003 : Int) ∣ x - y
theorem cg_rf (x : Int) : cg x x := ⟨0, by omega⟩
theorem cg_sy {x y : Int} (h : cg x y) : cg y x := by
  obtain ⟨k, h⟩ := h
  exact ⟨-k, by omega⟩
theorem cg_tr {x y z : Int} (h : cg x y) (g : cg y z) : cg x z := by
  obtain ⟨k, h⟩ := h
  obtain ⟨j, g⟩ := g
  exact ⟨k + j, by omega⟩
theorem cg_add {x y u v : Int} (h : cg x y) (g : cg u v) : cg (x + u) (y + v) := by
  obtain ⟨k, h⟩ := h
  obtain ⟨j, g⟩ := g
  exact ⟨k + j, by omega⟩
theorem cg_mul {x y : Int} (h : cg x y) (z : Int) : cg (x * z) (y * z) := by
  unfold cg at h ⊢
  rw [← Int.sub_mul]
  exact Int.dvd_mul_of_dvd_left h
theorem cg_mul' {x y : Int} (h : cg x y) (z : Int) : cg (z * x) (z * y) := by
  rw [Int.mul_comm z x, Int.mul_comm z y]
  exact cg_mul h z
theorem cg_mm {x y u v : Int} (h : cg x y) (g : cg u v) : cg (x * u) (y * v) := cg_tr (cg_mul h u) (cg_mul' g y)
theorem cg_mod (x : Int) : cg (x % 1000003) x := ⟨-(x / 1000003), by omega⟩
theorem cg_pow {x y : Int} (h : cg x y) : ∀ k : Nat, cg (x ^ k) (y ^ k) := by
  intro k
  induction k with
  | zero => rw [Int.pow_zero, Int.pow_zero]; exact cg_rf 1
  | succ k ih => rw [Int.pow_succ, Int.pow_succ]; exact cg_mm ih h
theorem cg_eq {x y : Int} (h : cg x y) (hx : 0 ≤ x ∧ x < 1000003) (hy : 0 ≤ y ∧ y < 1000003) : x = y := by
  obtain ⟨k, h⟩ := h
  omega
theorem md_b (x : Int) : 0 ≤ x % 1000003 ∧ x % 1000003 < 1000003 := by omega
theorem ml_b {x y : Int} (hx : 0 ≤ x ∧ x < 1000003) (hy : 0 ≤ y ∧ y ≤ 1000003) : 0 ≤ x * y ∧ x * y ≤ 1000006000009 := by
  have h1 := Int.mul_nonneg hx.1 hy.1
  have h2 : x * y ≤ 1000003 * y := Int.mul_le_mul_of_nonneg_right (by omega) hy.1
  omega
theorem sq_pow (x : Int) : ∀ k : Nat, (x * x) ^ k = x ^ (2 * k) := by
  intro k
  induction k with
  | zero => rw [Nat.mul_zero, Int.pow_zero, Int.pow_zero]
  | succ k ih =>
    rw [Int.pow_succ, ih, show 2 * (k + 1) = 2 * k + 1 + 1 by omega, Int.pow_succ, Int.pow_succ, Int.mul_assoc]
theorem an_1 {x : Int} (h : 0 ≤ x) : an_ x 1 = x % 2 := by
  unfold an_
  have : (x.toNat &&& (1 : Int).toNat) = x.toNat % 2 ^ 1 := Nat.and_two_pow_sub_one_eq_mod x.toNat 1
  rw [this]
  omega
theorem sr_1 (x : Int) : sr_ x 1 = x / 2 := rfl
theorem p_invC {n : Nat} : ∀ (j e m : Nat) (v w : Int), e < 2 ^ j → j < m → e < 2147483648 → 0 ≤ v ∧ v < 1000003 → 0 ≤ w ∧ w < 1000003 → ∃ r, lp_ (fun (q : Int × Int × Int) => F_X2_inverseOf_L9 n q.1 q.2.1 q.2.2) m (v, w, (e : Int)) = some r ∧ (0 ≤ r ∧ r < 1000003) ∧ cg r (v * w ^ e) := by
  have stop : ∀ m v w, 0 < m → 0 ≤ v ∧ v < 1000003 → ∃ r, lp_ (fun (q : Int × Int × Int) => F_X2_inverseOf_L9 n q.1 q.2.1 q.2.2) m (v, w, ((0 : Nat) : Int)) = some r ∧ (0 ≤ r ∧ r < 1000003) ∧ cg r (v * w ^ 0) := by
    intro m v w hm hv
    obtain ⟨m, rfl⟩ : ∃ k, m = k + 1 := ⟨m - 1, by omega⟩
    have st : F_X2_inverseOf_L9 n v w ((0 : Nat) : Int) = some (.inr v) := (ck_pos (by omega)).trans (if_neg (by omega))
    refine ⟨v, lp_end st, hv, ?_⟩
    rw [Int.pow_zero, Int.mul_one]
    exact cg_rf v
  intro j
  induction j with
  | zero =>
    intro e m v w h1 h2 h3 hv hw
    have : e = 0 := by simp at h1; exact h1
    subst this
    exact stop m v w (by omega) hv
  | succ j ih =>
    intro e m v w h1 h2 h3 hv hw
    by_cases e0 : e = 0
    · subst e0
      exact stop m v w (by omega) hv
    · obtain ⟨m, rfl⟩ : ∃ k, m = k + 1 := ⟨m - 1, by omega⟩
      have b1 := ml_b hv (show 0 ≤ w ∧ w ≤ 1000003 by omega)
      have b2 := ml_b hw (show 0 ≤ w ∧ w ≤ 1000003 by omega)
      have a1 := an_1 (x := (e : Int)) (by omega)
      have a2 := sr_1 (e : Int)
      have ee : (e : Int) / 2 = ((e / 2 : Nat) : Int) := by omega
      have dw := md_b (w * w)
      by_cases par : e % 2 = 0
      · have st : F_X2_inverseOf_L9 n v w (e : Int) = some (.inl (v, (w * w) % 1000003, ((e / 2 : Nat) : Int))) := by
          refine (ck_pos (by omega)).trans ((if_pos (by omega)).trans ((ck_pos (by omega)).trans ((bd_of (a := v) ((ck_pos (by omega)).trans (if_pos (by omega)))).trans ((ck_pos (by omega)).trans ((ck_pos (by omega)).trans ?_)))))
          rw [a2, ee]
        obtain ⟨r, r1, r2, r3⟩ := ih (e / 2) m v ((w * w) % 1000003) (by rw [Nat.pow_succ] at h1; omega) (by omega) (by omega) hv dw
        refine ⟨r, Eq.trans (show lp_ (fun (q : Int × Int × Int) => F_X2_inverseOf_L9 n q.1 q.2.1 q.2.2) (m + 1) (v, w, (e : Int)) = lp_ (fun (q : Int × Int × Int) => F_X2_inverseOf_L9 n q.1 q.2.1 q.2.2) m (v, (w * w) % 1000003, ((e / 2 : Nat) : Int)) from lp_go st) r1, r2, cg_tr r3 ?_⟩
        have := cg_mul' (cg_pow (cg_mod (w * w)) (e / 2)) v
        rw [sq_pow, show 2 * (e / 2) = e by omega] at this
        exact this
      · have st : F_X2_inverseOf_L9 n v w (e : Int) = some (.inl ((v * w) % 1000003, (w * w) % 1000003, ((e / 2 : Nat) : Int))) := by
          refine (ck_pos (by omega)).trans ((if_pos (by omega)).trans ((ck_pos (by omega)).trans ((bd_of (a := (v * w) % 1000003) ((ck_pos (by omega)).trans ((if_neg (by omega)).trans (ck_pos (by omega))))).trans ((ck_pos (by omega)).trans ((ck_pos (by omega)).trans ?_)))))
          rw [a2, ee]
        have dv := md_b (v * w)
        obtain ⟨r, r1, r2, r3⟩ := ih (e / 2) m ((v * w) % 1000003) ((w * w) % 1000003) (by rw [Nat.pow_succ] at h1; omega) (by omega) (by omega) dv dw
        refine ⟨r, Eq.trans (show lp_ (fun (q : Int × Int × Int) => F_X2_inverseOf_L9 n q.1 q.2.1 q.2.2) (m + 1) (v, w, (e : Int)) = lp_ (fun (q : Int × Int × Int) => F_X2_inverseOf_L9 n q.1 q.2.1 q.2.2) m ((v * w) % 1000003, (w * w) % 1000003, ((e / 2 : Nat) : Int)) from lp_go st) r1, r2, cg_tr r3 ?_⟩
        have := cg_mm (cg_mod (v * w)) (cg_pow (cg_mod (w * w)) (e / 2))
        rw [sq_pow, Int.mul_assoc, Int.mul_comm w (w ^ (2 * (e / 2))), ← Int.pow_succ, show (2 * (e / 2)).succ = e by omega] at this
        exact this
theorem p_invM {n : Nat} : ∀ (j e m : Nat) (v w : Int), e < 2 ^ j → j < m → e < 2147483648 → 0 ≤ v ∧ v < 1000003 → 0 ≤ w ∧ w < 1000003 → ∃ r, lp_ (fun (q : Int × Int × Int) => F_X12_inverse_L9 n q.1 q.2.1 q.2.2) m (w, v, (e : Int)) = some r ∧ (0 ≤ r ∧ r < 1000003) ∧ cg r (v * w ^ e) := by
  have stop : ∀ m v w, 0 < m → 0 ≤ v ∧ v < 1000003 → ∃ r, lp_ (fun (q : Int × Int × Int) => F_X12_inverse_L9 n q.1 q.2.1 q.2.2) m (w, v, ((0 : Nat) : Int)) = some r ∧ (0 ≤ r ∧ r < 1000003) ∧ cg r (v * w ^ 0) := by
    intro m v w hm hv
    obtain ⟨m, rfl⟩ : ∃ k, m = k + 1 := ⟨m - 1, by omega⟩
    have st : F_X12_inverse_L9 n w v ((0 : Nat) : Int) = some (.inr v) := (ck_pos (by omega)).trans (if_neg (by omega))
    refine ⟨v, lp_end st, hv, ?_⟩
    rw [Int.pow_zero, Int.mul_one]
    exact cg_rf v
  intro j
  induction j with
  | zero =>
    intro e m v w h1 h2 h3 hv hw
    have : e = 0 := by simp at h1; exact h1
    subst this
    exact stop m v w (by omega) hv
  | succ j ih =>
    intro e m v w h1 h2 h3 hv hw
    by_cases e0 : e = 0
    · subst e0
      exact stop m v w (by omega) hv
    · obtain ⟨m, rfl⟩ : ∃ k, m = k + 1 := ⟨m - 1, by omega⟩
      have b1 := ml_b hv (show 0 ≤ w ∧ w ≤ 1000003 by omega)
      have b2 := ml_b hw (show 0 ≤ w ∧ w ≤ 1000003 by omega)
      have ee : (e : Int) / 2 = ((e / 2 : Nat) : Int) := by omega
      have dw := md_b (w * w)
      by_cases par : e % 2 = 0
      · have st : F_X12_inverse_L9 n w v (e : Int) = some (.inl ((w * w) % 1000003, v, ((e / 2 : Nat) : Int))) := by
          refine (ck_pos (by omega)).trans ((if_pos (by omega)).trans ((ck_pos (by omega)).trans ((bd_of (a := v) ((ck_pos (by omega)).trans (if_neg (by omega)))).trans ((ck_pos (by omega)).trans ((ck_pos (by omega)).trans ?_)))))
          rw [ee]
        obtain ⟨r, r1, r2, r3⟩ := ih (e / 2) m v ((w * w) % 1000003) (by rw [Nat.pow_succ] at h1; omega) (by omega) (by omega) hv dw
        refine ⟨r, Eq.trans (show lp_ (fun (q : Int × Int × Int) => F_X12_inverse_L9 n q.1 q.2.1 q.2.2) (m + 1) (w, v, (e : Int)) = lp_ (fun (q : Int × Int × Int) => F_X12_inverse_L9 n q.1 q.2.1 q.2.2) m ((w * w) % 1000003, v, ((e / 2 : Nat) : Int)) from lp_go st) r1, r2, cg_tr r3 ?_⟩
        have := cg_mul' (cg_pow (cg_mod (w * w)) (e / 2)) v
        rw [sq_pow, show 2 * (e / 2) = e by omega] at this
        exact this
      · have st : F_X12_inverse_L9 n w v (e : Int) = some (.inl ((w * w) % 1000003, (v * w) % 1000003, ((e / 2 : Nat) : Int))) := by
          refine (ck_pos (by omega)).trans ((if_pos (by omega)).trans ((ck_pos (by omega)).trans ((bd_of (a := (v * w) % 1000003) ((ck_pos (by omega)).trans ((if_pos (by omega)).trans (ck_pos (by omega))))).trans ((ck_pos (by omega)).trans ((ck_pos (by omega)).trans ?_)))))
          rw [ee]
        have dv := md_b (v * w)
        obtain ⟨r, r1, r2, r3⟩ := ih (e / 2) m ((v * w) % 1000003) ((w * w) % 1000003) (by rw [Nat.pow_succ] at h1; omega) (by omega) (by omega) dv dw
        refine ⟨r, Eq.trans (show lp_ (fun (q : Int × Int × Int) => F_X12_inverse_L9 n q.1 q.2.1 q.2.2) (m + 1) (w, v, (e : Int)) = lp_ (fun (q : Int × Int × Int) => F_X12_inverse_L9 n q.1 q.2.1 q.2.2) m ((w * w) % 1000003, (v * w) % 1000003, ((e / 2 : Nat) : Int)) from lp_go st) r1, r2, cg_tr r3 ?_⟩
        have := cg_mm (cg_mod (v * w)) (cg_pow (cg_mod (w * w)) (e / 2))
        rw [sq_pow, Int.mul_assoc, Int.mul_comm w (w ^ (2 * (e / 2))), ← Int.pow_succ, show (2 * (e / 2)).succ = e by omega] at this
        exact this
theorem inv_cg {e : Nat} (he : e = 1000001) {a r : Int} (ha : 0 < a ∧ a < 1000003) (h : cg r (1 * a ^ e)) : cg (r * a) 1 := by
  obtain ⟨b, rfl⟩ : ∃ b : Nat, a = (b : Int) := ⟨a.toNat, by omega⟩
  obtain ⟨p, hp⟩ : ∃ p : Nat, p = 1000003 := ⟨_, rfl⟩
  have hc : ∀ k, 0 < k → k < p → Nat.Coprime p k := by rw [hp]; exact Pq_co
  obtain ⟨f1, f2⟩ := inv_of (p := p) (e := e) (by omega) hc (a := b) (by omega)
  obtain ⟨k, hk⟩ := f1
  rw [Int.one_mul] at h
  refine cg_tr (cg_mul h (b : Int)) ⟨(k : Int), ?_⟩
  have e1 : ((b ^ e * b : Nat) : Int) = (b : Int) ^ e * (b : Int) := by simp
  rw [← e1]
  have e2 : b ^ e * b = p * k + 1 := by omega
  rw [e2, hp]
  omega
theorem p_inverseOf {n : Nat} (hn : 1000 ≤ n) {a : Int} (ha : 0 < a ∧ a < 1000003) : ∃ r, F_X2_inverseOf n a = some r ∧ (0 ≤ r ∧ r < 1000003) ∧ cg (r * a) 1 := by
  obtain ⟨e, he⟩ : ∃ e : Nat, e = 1000001 := ⟨_, rfl⟩
  obtain ⟨r, r1, r2, r3⟩ := p_invC (n := n) 20 e n 1 a (by omega) (by omega) (by omega) (by omega) (by omega)
  refine ⟨r, ?_, r2, inv_cg he ha r3⟩
  have ei : (e : Int) = 1000001 := by omega
  rw [ei] at r1
  exact (ck_pos (by omega)).trans ((bd_of r1).trans rfl)
theorem p_inverse {n : Nat} (hn : 1000 ≤ n) {a : Int} (ha : 0 < a ∧ a < 1000003) : ∃ r, F_X12_inverse n a = some r ∧ (0 ≤ r ∧ r < 1000003) ∧ cg (r * a) 1 := by
  obtain ⟨e, he⟩ : ∃ e : Nat, e = 1000001 := ⟨_, rfl⟩
  obtain ⟨r, r1, r2, r3⟩ := p_invM (n := n) 20 e n 1 a (by omega) (by omega) (by omega) (by omega) (by omega)
  refine ⟨r, ?_, r2, inv_cg he ha r3⟩
  have ei : (e : Int) = 1000001 := by omega
  rw [ei] at r1
  exact (bd_of r1).trans rfl
