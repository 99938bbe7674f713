/-! a prime number -/
def bi_ : Nat → Nat → Nat
  | _, 0 => 1
  | 0, _ + 1 => 0
  | n + 1, k + 1 => bi_ n k + bi_ n (k + 1)
theorem bi_0 (n : Nat) : bi_ n 0 = 1 := by cases n <;> rfl
theorem bi_s (n k : Nat) : bi_ (n + 1) (k + 1) = bi_ n k + bi_ n (k + 1) := rfl
theorem bi_big : ∀ n k, n < k → bi_ n k = 0 := by
  intro n
  induction n with
  | zero =>
    intro k h
    obtain ⟨k, rfl⟩ : ∃ j, k = j + 1 := ⟨k - 1, by omega⟩
    rfl
  | succ n ih =>
    intro k h
    obtain ⟨k, rfl⟩ : ∃ j, k = j + 1 := ⟨k - 1, by omega⟩
    rw [bi_s, ih k (by omega), ih (k + 1) (by omega)]
theorem bi_n : ∀ n, bi_ n n = 1 := by
  intro n
  induction n with
  | zero => rfl
  | succ n ih => rw [bi_s, ih, bi_big n (n + 1) (by omega)]
theorem bi_mul : ∀ n k, (k + 1) * bi_ (n + 1) (k + 1) = (n + 1) * bi_ n k := by
  intro n
  induction n with
  | zero =>
    intro k
    cases k with
    | zero => rfl
    | succ k => rw [bi_big 1 (k + 2) (by omega), bi_big 0 (k + 1) (by omega)]; simp
  | succ n ih =>
    intro k
    cases k with
    | zero =>
      have h := ih 0
      have a : bi_ (n + 1) (0 + 1) = bi_ n 0 + bi_ n (0 + 1) := rfl
      rw [bi_s, bi_0]
      rw [bi_0] at h
      omega
    | succ k =>
      have h1 := ih k
      have h2 := ih (k + 1)
      rw [bi_s (n + 1) (k + 1), Nat.mul_add, h2, show k + 1 + 1 = (k + 1) + 1 from rfl, Nat.add_mul, h1, bi_s n k]
      simp only [Nat.add_mul, Nat.mul_add, Nat.one_mul]
      omega
def sn_ (f : Nat → Nat) : Nat → Nat
  | 0 => 0
  | i + 1 => sn_ f i + f i
theorem sn_mul (f : Nat → Nat) (x : Nat) : ∀ i, sn_ f i * x = sn_ (fun k => f k * x) i := by
  intro i
  induction i with
  | zero => exact Nat.zero_mul x
  | succ i ih => show (sn_ f i + f i) * x = sn_ (fun k => f k * x) i + f i * x; rw [Nat.add_mul, ih]
theorem bi_sum (x : Nat) : ∀ n, (x + 1) ^ n = sn_ (fun k => bi_ n k * x ^ k) (n + 1) := by
  intro n
  induction n with
  | zero => rfl
  | succ n ih =>
    have key : ∀ i, sn_ (fun k => bi_ (n + 1) k * x ^ k) (i + 1) = sn_ (fun k => bi_ n k * x ^ k) (i + 1) + sn_ (fun k => bi_ n k * x ^ k * x) i := by
      intro i
      induction i with
      | zero =>
        show 0 + bi_ (n + 1) 0 * x ^ 0 = 0 + bi_ n 0 * x ^ 0 + 0
        rw [bi_0, bi_0, Nat.add_zero]
      | succ i ii =>
        show sn_ (fun k => bi_ (n + 1) k * x ^ k) (i + 1) + bi_ (n + 1) (i + 1) * x ^ (i + 1) = sn_ (fun k => bi_ n k * x ^ k) (i + 1) + bi_ n (i + 1) * x ^ (i + 1) + (sn_ (fun k => bi_ n k * x ^ k * x) i + bi_ n i * x ^ i * x)
        rw [ii, bi_s, Nat.add_mul, Nat.pow_succ, Nat.mul_assoc (bi_ n i)]
        omega
    rw [Nat.pow_succ, Nat.mul_add, Nat.mul_one, ih, sn_mul, key (n + 1)]
    have z : sn_ (fun k => bi_ n k * x ^ k) (n + 1 + 1) = sn_ (fun k => bi_ n k * x ^ k) (n + 1) := by
      show sn_ (fun k => bi_ n k * x ^ k) (n + 1) + bi_ n (n + 1) * x ^ (n + 1) = _
      rw [bi_big n (n + 1) (by omega)]
      omega
    rw [z]
    omega
theorem sn_first (f : Nat → Nat) : ∀ i, sn_ f (i + 1) = f 0 + sn_ (fun k => f (k + 1)) i := by
  intro i
  induction i with
  | zero => show 0 + f 0 = f 0 + 0; omega
  | succ i ih => show sn_ f (i + 1) + f (i + 1) = f 0 + (sn_ (fun k => f (k + 1)) i + f (i + 1)); omega
theorem sn_dvd {f : Nat → Nat} {p : Nat} : ∀ i, (∀ k, k < i → p ∣ f k) → p ∣ sn_ f i := by
  intro i
  induction i with
  | zero => intro _; exact Nat.dvd_zero p
  | succ i ih => intro h; exact Nat.dvd_add (ih (fun k hk => h k (by omega))) (h i (by omega))
theorem fermat {p : Nat} (hp : 2 ≤ p) (hc : ∀ k, 0 < k → k < p → Nat.Coprime p k) (x : Nat) : p ∣ x ^ p - x ∧ x ≤ x ^ p := by
  obtain ⟨m, rfl⟩ : ∃ m, p = m + 1 := ⟨p - 1, by omega⟩
  have le : ∀ x : Nat, x ≤ x ^ (m + 1) := by
    intro x
    cases x with
    | zero => omega
    | succ x =>
      rw [Nat.pow_succ]
      have : 1 ≤ (x + 1) ^ m := Nat.pow_pos (by omega)
      exact Nat.le_mul_of_pos_left (x + 1) this
  refine ⟨?_, le x⟩
  induction x with
  | zero => rw [Nat.zero_pow (by omega)]; exact Nat.dvd_zero _
  | succ x ih =>
    have s := bi_sum x (m + 1)
    have e1 : sn_ (fun k => bi_ (m + 1) k * x ^ k) (m + 1 + 1) = sn_ (fun k => bi_ (m + 1) k * x ^ k) (m + 1) + bi_ (m + 1) (m + 1) * x ^ (m + 1) := rfl
    have e2 := sn_first (fun k => bi_ (m + 1) k * x ^ k) m
    have e2' : sn_ (fun k => bi_ (m + 1) k * x ^ k) (m + 1) = 1 + sn_ (fun k => bi_ (m + 1) (k + 1) * x ^ (k + 1)) m := by
      rw [e2]
      show bi_ (m + 1) 0 * x ^ 0 + _ = _
      rw [bi_0, Nat.pow_zero, Nat.mul_one]
    have d : (m + 1) ∣ sn_ (fun k => bi_ (m + 1) (k + 1) * x ^ (k + 1)) m := by
      refine sn_dvd m (fun k hk => Nat.dvd_trans ?_ (Nat.dvd_mul_right _ _))
      have b := bi_mul m k
      have c := hc (k + 1) (by omega) (by omega)
      exact c.dvd_of_dvd_mul_left (by rw [b]; exact Nat.dvd_mul_right _ _)
    rw [bi_n, Nat.one_mul] at e1
    have l := le x
    have e3 : (x + 1) ^ (m + 1) - (x + 1) = sn_ (fun k => bi_ (m + 1) (k + 1) * x ^ (k + 1)) m + (x ^ (m + 1) - x) := by omega
    rw [e3]
    exact Nat.dvd_add d ih
theorem inv_of {p e : Nat} (he : p = e + 2) (hc : ∀ k, 0 < k → k < p → Nat.Coprime p k) {a : Nat} (ha : 0 < a ∧ a < p) : p ∣ a ^ e * a - 1 ∧ 1 ≤ a ^ e * a := by
  obtain ⟨f1, f2⟩ := fermat (p := p) (by omega) hc a
  have e1 : a ^ p = a ^ e * a * a := by rw [he, Nat.pow_succ, Nat.pow_succ]
  have pos : 1 ≤ a ^ e * a := Nat.mul_pos (Nat.pow_pos ha.1) ha.1
  refine ⟨?_, pos⟩
  rw [e1] at f1
  have e2 : a ^ e * a * a - a = (a ^ e * a - 1) * a := by rw [Nat.sub_mul, Nat.one_mul]
  rw [e2] at f1
  exact (hc a ha.1 ha.2).dvd_of_dvd_mul_right f1
def Pq : Nat := 1000003
theorem Pq_0 : ∀ d : Fin 50, 2 ≤ 0 + d.val → 1000003 % (0 + d.val) ≠ 0 := by decide
theorem Pq_1 : ∀ d : Fin 50, 2 ≤ 50 + d.val → 1000003 % (50 + d.val) ≠ 0 := by decide
theorem Pq_2 : ∀ d : Fin 50, 2 ≤ 100 + d.val → 1000003 % (100 + d.val) ≠ 0 := by decide
theorem Pq_3 : ∀ d : Fin 50, 2 ≤ 150 + d.val → 1000003 % (150 + d.val) ≠ 0 := by decide
theorem Pq_4 : ∀ d : Fin 50, 2 ≤ 200 + d.val → 1000003 % (200 + d.val) ≠ 0 := by decide
theorem Pq_5 : ∀ d : Fin 50, 2 ≤ 250 + d.val → 1000003 % (250 + d.val) ≠ 0 := by decide
theorem Pq_6 : ∀ d : Fin 50, 2 ≤ 300 + d.val → 1000003 % (300 + d.val) ≠ 0 := by decide
theorem Pq_7 : ∀ d : Fin 50, 2 ≤ 350 + d.val → 1000003 % (350 + d.val) ≠ 0 := by decide
theorem Pq_8 : ∀ d : Fin 50, 2 ≤ 400 + d.val → 1000003 % (400 + d.val) ≠ 0 := by decide
theorem Pq_9 : ∀ d : Fin 50, 2 ≤ 450 + d.val → 1000003 % (450 + d.val) ≠ 0 := by decide
theorem Pq_10 : ∀ d : Fin 50, 2 ≤ 500 + d.val → 1000003 % (500 + d.val) ≠ 0 := by decide
theorem Pq_11 : ∀ d : Fin 50, 2 ≤ 550 + d.val → 1000003 % (550 + d.val) ≠ 0 := by decide
theorem Pq_12 : ∀ d : Fin 50, 2 ≤ 600 + d.val → 1000003 % (600 + d.val) ≠ 0 := by decide
theorem Pq_13 : ∀ d : Fin 50, 2 ≤ 650 + d.val → 1000003 % (650 + d.val) ≠ 0 := by decide
theorem Pq_14 : ∀ d : Fin 50, 2 ≤ 700 + d.val → 1000003 % (700 + d.val) ≠ 0 := by decide
theorem Pq_15 : ∀ d : Fin 50, 2 ≤ 750 + d.val → 1000003 % (750 + d.val) ≠ 0 := by decide
theorem Pq_16 : ∀ d : Fin 50, 2 ≤ 800 + d.val → 1000003 % (800 + d.val) ≠ 0 := by decide
theorem Pq_17 : ∀ d : Fin 50, 2 ≤ 850 + d.val → 1000003 % (850 + d.val) ≠ 0 := by decide
theorem Pq_18 : ∀ d : Fin 50, 2 ≤ 900 + d.val → 1000003 % (900 + d.val) ≠ 0 := by decide
theorem Pq_19 : ∀ d : Fin 50, 2 ≤ 950 + d.val → 1000003 % (950 + d.val) ≠ 0 := by decide
theorem Pq_20 : ∀ d : Fin 50, 2 ≤ 1000 + d.val → 1000003 % (1000 + d.val) ≠ 0 := by decide
theorem Pq_co : ∀ k, 0 < k → k < 1000003 → Nat.Coprime 1000003 k := by
  have small : ∀ d, d < 1001 → 2 ≤ d → 1000003 % d ≠ 0 := by
    intro d h
    rcases (show (0 ≤ d ∧ d < 50) ∨ (50 ≤ d ∧ d < 100) ∨ (100 ≤ d ∧ d < 150) ∨ (150 ≤ d ∧ d < 200) ∨ (200 ≤ d ∧ d < 250) ∨ (250 ≤ d ∧ d < 300) ∨ (300 ≤ d ∧ d < 350) ∨ (350 ≤ d ∧ d < 400) ∨ (400 ≤ d ∧ d < 450) ∨ (450 ≤ d ∧ d < 500) ∨ (500 ≤ d ∧ d < 550) ∨ (550 ≤ d ∧ d < 600) ∨ (600 ≤ d ∧ d < 650) ∨ (650 ≤ d ∧ d < 700) ∨ (700 ≤ d ∧ d < 750) ∨ (750 ≤ d ∧ d < 800) ∨ (800 ≤ d ∧ d < 850) ∨ (850 ≤ d ∧ d < 900) ∨ (900 ≤ d ∧ d < 950) ∨ (950 ≤ d ∧ d < 1000) ∨ (1000 ≤ d ∧ d < 1050) by omega) with x | x | x | x | x | x | x | x | x | x | x | x | x | x | x | x | x | x | x | x | x
    · exact fun h2 => by have := Pq_0 ⟨d - 0, by omega⟩ (by show 2 ≤ 0 + (d - 0); omega); rw [show 0 + (d - 0) = d by omega] at this; exact this
    · exact fun h2 => by have := Pq_1 ⟨d - 50, by omega⟩ (by show 2 ≤ 50 + (d - 50); omega); rw [show 50 + (d - 50) = d by omega] at this; exact this
    · exact fun h2 => by have := Pq_2 ⟨d - 100, by omega⟩ (by show 2 ≤ 100 + (d - 100); omega); rw [show 100 + (d - 100) = d by omega] at this; exact this
    · exact fun h2 => by have := Pq_3 ⟨d - 150, by omega⟩ (by show 2 ≤ 150 + (d - 150); omega); rw [show 150 + (d - 150) = d by omega] at this; exact this
    · exact fun h2 => by have := Pq_4 ⟨d - 200, by omega⟩ (by show 2 ≤ 200 + (d - 200); omega); rw [show 200 + (d - 200) = d by omega] at this; exact this
    · exact fun h2 => by have := Pq_5 ⟨d - 250, by omega⟩ (by show 2 ≤ 250 + (d - 250); omega); rw [show 250 + (d - 250) = d by omega] at this; exact this
    · exact fun h2 => by have := Pq_6 ⟨d - 300, by omega⟩ (by show 2 ≤ 300 + (d - 300); omega); rw [show 300 + (d - 300) = d by omega] at this; exact this
    · exact fun h2 => by have := Pq_7 ⟨d - 350, by omega⟩ (by show 2 ≤ 350 + (d - 350); omega); rw [show 350 + (d - 350) = d by omega] at this; exact this
    · exact fun h2 => by have := Pq_8 ⟨d - 400, by omega⟩ (by show 2 ≤ 400 + (d - 400); omega); rw [show 400 + (d - 400) = d by omega] at this; exact this
    · exact fun h2 => by have := Pq_9 ⟨d - 450, by omega⟩ (by show 2 ≤ 450 + (d - 450); omega); rw [show 450 + (d - 450) = d by omega] at this; exact this
    · exact fun h2 => by have := Pq_10 ⟨d - 500, by omega⟩ (by show 2 ≤ 500 + (d - 500); omega); rw [show 500 + (d - 500) = d by omega] at this; exact this
    · exact fun h2 => by have := Pq_11 ⟨d - 550, by omega⟩ (by show 2 ≤ 550 + (d - 550); omega); rw [show 550 + (d - 550) = d by omega] at this; exact this
    · exact fun h2 => by have := Pq_12 ⟨d - 600, by omega⟩ (by show 2 ≤ 600 + (d - 600); omega); rw [show 600 + (d - 600) = d by omega] at this; exact this
    · exact fun h2 => by have := Pq_13 ⟨d - 650, by omega⟩ (by show 2 ≤ 650 + (d - 650); omega); rw [show 650 + (d - 650) = d by omega] at this; exact this
    · exact fun h2 => by have := Pq_14 ⟨d - 700, by omega⟩ (by show 2 ≤ 700 + (d - 700); omega); rw [show 700 + (d - 700) = d by omega] at this; exact this
    · exact fun h2 => by have := Pq_15 ⟨d - 750, by omega⟩ (by show 2 ≤ 750 + (d - 750); omega); rw [show 750 + (d - 750) = d by omega] at this; exact this
    · exact fun h2 => by have := Pq_16 ⟨d - 800, by omega⟩ (by show 2 ≤ 800 + (d - 800); omega); rw [show 800 + (d - 800) = d by omega] at this; exact this
    · exact fun h2 => by have := Pq_17 ⟨d - 850, by omega⟩ (by show 2 ≤ 850 + (d - 850); omega); rw [show 850 + (d - 850) = d by omega] at this; exact this
    · exact fun h2 => by have := Pq_18 ⟨d - 900, by omega⟩ (by show 2 ≤ 900 + (d - 900); omega); rw [show 900 + (d - 900) = d by omega] at this; exact this
    · exact fun h2 => by have := Pq_19 ⟨d - 950, by omega⟩ (by show 2 ≤ 950 + (d - 950); omega); rw [show 950 + (d - 950) = d by omega] at this; exact this
    · exact fun h2 => by have := Pq_20 ⟨d - 1000, by omega⟩ (by show 2 ≤ 1000 + (d - 1000); omega); rw [show 1000 + (d - 1000) = d by omega] at this; exact this
  intro k h1 h2
  have g1 : Nat.gcd 1000003 k ∣ 1000003 := Nat.gcd_dvd_left _ _
  have g2 : Nat.gcd 1000003 k ≤ k := Nat.gcd_le_right _ h1
  have g3 : 0 < Nat.gcd 1000003 k := Nat.gcd_pos_of_pos_right _ h1
  show Nat.gcd 1000003 k = 1
  generalize Nat.gcd 1000003 k = g at g1 g2 g3 ⊢
  obtain ⟨h, hh⟩ := g1
  by_cases e : g = 1
  · exact e
  · exfalso
    by_cases s : g < 1001
    · exact small g s (by omega) (by rw [hh]; exact Nat.mul_mod_right g h)
    · have hb : h < 1001 := by
        rcases Nat.lt_or_ge h 1001 with x | x
        · exact x
        · have := Nat.mul_le_mul (show 1001 ≤ g by omega) x
          omega
      have h2 : 2 ≤ h := by
        rcases (show h = 0 ∨ h = 1 ∨ 2 ≤ h by omega) with x | x | x
        · subst x; omega
        · subst x; omega
        · exact x
      exact small h hb h2 (by rw [hh]; exact Nat.mul_mod_left g h)
