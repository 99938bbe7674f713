/-! odds -/
def sm_ (f : Nat → Int) : Nat → Int
  | 0 => 0
  | i + 1 => sm_ f i + f i
theorem sm_congr {f g : Nat → Int} {N : Nat} (h : ∀ i, i < N → f i = g i) : ∀ i, i ≤ N → sm_ f i = sm_ g i := by
  intro i
  induction i with
  | zero => intro _; rfl
  | succ i ih => intro hi; show sm_ f i + f i = sm_ g i + g i; rw [ih (by omega), h i (by omega)]
theorem sm_up {f φ : Nat → Int} {t : Nat} {x : Int} : ∀ {N : Nat}, sm_ (fun s => up_ f t x s * φ s) N = sm_ (fun s => f s * φ s) N + if t < N then (x - f t) * φ t else 0 := by
  intro N
  induction N with
  | zero => rfl
  | succ N ih =>
    show sm_ (fun s => up_ f t x s * φ s) N + up_ f t x N * φ N = sm_ (fun s => f s * φ s) N + f N * φ N + _
    rw [ih]
    by_cases e : N = t
    · subst e
      rw [up_at, if_neg (show ¬ N < N by omega), if_pos (show N < N + 1 by omega), Int.sub_mul]
      omega
    · rw [up_off e]
      by_cases e2 : t < N
      · rw [if_pos e2, if_pos (by omega)]; omega
      · rw [if_neg e2, if_neg (by omega)]; omega
theorem sm_nn {f : Nat → Int} {N : Nat} (h : ∀ i, i < N → 0 ≤ f i) : ∀ i, i ≤ N → 0 ≤ sm_ f i ∧ ∀ j, j < i → f j ≤ sm_ f i := by
  intro i
  induction i with
  | zero => intro _; exact ⟨Int.le_refl 0, fun j hj => by omega⟩
  | succ i ih =>
    intro hi
    obtain ⟨a, b⟩ := ih (by omega)
    have c := h i (by omega)
    show 0 ≤ sm_ f i + f i ∧ ∀ j, j < i + 1 → f j ≤ sm_ f i + f i
    refine ⟨by omega, fun j hj => ?_⟩
    by_cases e : j = i
    · subst e; omega
    · have := b j (by omega); omega
theorem sm_mul {f : Nat → Int} {x : Int} : ∀ i, sm_ (fun s => f s * x) i = sm_ f i * x := by
  intro i
  induction i with
  | zero => show (0 : Int) = 0 * x; omega
  | succ i ih => show sm_ (fun s => f s * x) i + f i * x = (sm_ f i + f i) * x; rw [ih, Int.add_mul]
def tp_ : Nat → Int
  | 0 => 1
  | k + 1 => tp_ k * 10
theorem tp_b {k : Nat} (h : k ≤ 8) : 1 ≤ tp_ k ∧ tp_ k ≤ 100000000 := by
  rcases (show k = 0 ∨ k = 1 ∨ k = 2 ∨ k = 3 ∨ k = 4 ∨ k = 5 ∨ k = 6 ∨ k = 7 ∨ k = 8 by omega) with rfl | rfl | rfl | rfl | rfl | rfl | rfl | rfl | rfl <;> decide
/-- what five signs bring -/
def ogS (T c : Nat → Int) (A : Int) (φ : Nat → Int) (s : Nat) : Nat → Int
  | 0 => 0
  | g + 1 => ogS T c A φ s g + c g * if T (5 * s + g) = -5 then A else φ (T (5 * s + g)).toNat
/-- of 10 to the k rows of k signs, how many bring an alarm -/
def wyS (T c : Nat → Int) : Nat → Nat → Int
  | 0, _ => 0
  | k + 1, s => ogS T c (tp_ k) (wyS T c k) s 5
def okC (c : Nat → Int) : Prop := (∀ g, g < 5 → 0 ≤ c g ∧ c g ≤ 10) ∧ c 0 + c 1 + c 2 + c 3 + c 4 = 10
theorem ogS_one (T c : Nat → Int) (s : Nat) : ∀ g, ogS T c 1 (fun _ => 1) s g = sm_ c g := by
  intro g
  induction g with
  | zero => rfl
  | succ g ih =>
    show ogS T c 1 (fun _ => 1) s g + c g * (if T (5 * s + g) = -5 then 1 else 1) = sm_ c g + c g
    rw [ih]
    split <;> omega
theorem okC.sm {c : Nat → Int} (h : okC c) : sm_ c 5 = 10 := by
  have := h.2
  show 0 + c 0 + c 1 + c 2 + c 3 + c 4 = 10
  omega
theorem ogS_le {T c φ ψ : Nat → Int} {A B : Int} {S : Nat} (hT : clT S T) (hc : okC c) (hA : A ≤ B) (h : ∀ s, s < S → φ s ≤ ψ s) {s : Nat} (hs : s < S) : ∀ g, g ≤ 5 → ogS T c A φ s g ≤ ogS T c B ψ s g := by
  intro g
  induction g with
  | zero => intro _; exact Int.le_refl 0
  | succ g ih =>
    intro hg
    have a := ih (by omega)
    have b := hc.1 g (by omega)
    have d := hT s g hs (by omega)
    show ogS T c A φ s g + c g * (if T (5 * s + g) = -5 then A else φ (T (5 * s + g)).toNat) ≤ ogS T c B ψ s g + c g * (if T (5 * s + g) = -5 then B else ψ (T (5 * s + g)).toNat)
    have e : (if T (5 * s + g) = -5 then A else φ (T (5 * s + g)).toNat) ≤ (if T (5 * s + g) = -5 then B else ψ (T (5 * s + g)).toNat) := by
      split
      · exact hA
      · exact h _ (by omega)
    have := Int.mul_le_mul_of_nonneg_left e b.1
    omega
theorem ogS_c {T c : Nat → Int} (x : Int) (s : Nat) : ∀ g, ogS T c x (fun _ => x) s g = sm_ c g * x := by
  intro g
  induction g with
  | zero => show (0 : Int) = 0 * x; omega
  | succ g ih =>
    show ogS T c x (fun _ => x) s g + c g * (if T (5 * s + g) = -5 then x else x) = (sm_ c g + c g) * x
    rw [ih, Int.add_mul]
    split <;> rfl
theorem wyS_b {T c : Nat → Int} {S : Nat} (hT : clT S T) (hc : okC c) : ∀ k s, s < S → 0 ≤ wyS T c k s ∧ wyS T c k s ≤ tp_ k := by
  intro k
  induction k with
  | zero => intro s _; exact ⟨Int.le_refl 0, show (0 : Int) ≤ 1 by decide⟩
  | succ k ih =>
    intro s hs
    have t0 : 0 ≤ tp_ k := by have := ih s hs; omega
    have a := ogS_le (A := 0) (B := tp_ k) (φ := fun _ => 0) (ψ := wyS T c k) hT hc t0 (fun s hs => (ih s hs).1) hs 5 (by omega)
    have b := ogS_le (A := tp_ k) (B := tp_ k) (φ := wyS T c k) (ψ := fun _ => tp_ k) hT hc (Int.le_refl _) (fun s hs => (ih s hs).2) hs 5 (by omega)
    rw [ogS_c, hc.sm] at a b
    show 0 ≤ ogS T c (tp_ k) (wyS T c k) s 5 ∧ ogS T c (tp_ k) (wyS T c k) s 5 ≤ tp_ k * 10
    omega
/-- weights go over -/
theorem p_spread5 {n : Nat} (hn : 1000 ≤ n) {S : Nat} (hS : S ≤ 64) {T c w : Nat → Int} (hT : clT S T) (hc : okC c) {s : Nat} (hs : s < S) (hw : 0 ≤ w s) {al : Int} {nx : Nat → Int} (ha : 0 ≤ al) (hx : ∀ t, t < S → 0 ≤ nx t) : ∃ (al' : Int) (nx' : Nat → Int), lp_ (fun (q : Int × Int × (Nat → Int)) => F_X3_spread_L45 n s T w c q.1 q.2.1 q.2.2) n (al, 0, nx) = some (al', nx') ∧ 0 ≤ al' ∧ (∀ t, t < S → 0 ≤ nx' t) ∧ ∀ A φ, al' * A + sm_ (fun t => nx' t * φ t) S = al * A + sm_ (fun t => nx t * φ t) S + w s * ogS T c A φ s 5 := by
  obtain ⟨r, h1, al', nx', rfl, h2⟩ := lp_rule (f := fun (q : Int × Int × (Nat → Int)) => F_X3_spread_L45 n s T w c q.1 q.2.1 q.2.2) (fun g q => ∃ (al' : Int) (nx' : Nat → Int), q = (al', (g : Int), nx') ∧ 0 ≤ al' ∧ (∀ t, t < S → 0 ≤ nx' t) ∧ ∀ A φ, al' * A + sm_ (fun t => nx' t * φ t) S = al * A + sm_ (fun t => nx t * φ t) S + w s * ogS T c A φ s g)
    (fun r => ∃ (al' : Int) (nx' : Nat → Int), r = (al', nx') ∧ 0 ≤ al' ∧ (∀ t, t < S → 0 ≤ nx' t) ∧ ∀ A φ, al' * A + sm_ (fun t => nx' t * φ t) S = al * A + sm_ (fun t => nx t * φ t) S + w s * ogS T c A φ s 5) (N := 5) (n := n) (s := (al, 0, nx)) (by omega) ⟨al, nx, rfl, ha, hx, fun A φ => by show _ = _ + w s * 0; omega⟩ (fun g q hI hg => by
    obtain ⟨al', nx', rfl, c1, c2, c3⟩ := hI
    dsimp only
    by_cases hlt : g < 5
    · left
      have d := hT s g hs hlt
      have b := hc.1 g hlt
      have ts : ((s : Int)).toNat = s := by omega
      have tg : ((g : Int)).toNat = g := by omega
      have t1 : ((s : Int) * 5 + (g : Int)).toNat = 5 * s + g := by omega
      have wc : 0 ≤ w s * c g := Int.mul_nonneg hw b.1
      have eo : ∀ A φ, ogS T c A φ s (g + 1) = ogS T c A φ s g + c g * if T (5 * s + g) = -5 then A else φ (T (5 * s + g)).toNat := fun _ _ => rfl
      by_cases e : T (5 * s + g) = -5
      · refine ⟨(al' + w s * c g, (g : Int) + 1, nx'), ?_, ⟨_, nx', rfl, by omega, c2, fun A φ => ?_⟩, hlt⟩
        · refine (ck_pos (by omega)).trans ((if_pos (by omega)).trans ((ck_pos (by omega)).trans ((ck_pos (by omega)).trans ((ck_pos (by omega)).trans ((bd_of (a := 0) (by rw [t1]; exact p_past0 (by omega) (by omega))).trans ((bd_of (a := (al' + w s * c g, nx')) ?_).trans rfl))))))
          rw [ts, tg]
          exact (ck_pos (by omega)).trans (if_pos rfl)
        · rw [eo, if_pos e, Int.mul_add, Int.add_mul, ← Int.mul_assoc]
          have := c3 A φ
          omega
      · obtain ⟨t, ht⟩ : ∃ t : Nat, T (5 * s + g) = (t : Int) := ⟨(T (5 * s + g)).toNat, by omega⟩
        have tt : ((t : Int)).toNat = t := by omega
        refine ⟨(al', (g : Int) + 1, up_ nx' t (nx' t + w s * c g)), ?_, ⟨al', _, rfl, c1, fun u hu => ?_, fun A φ => ?_⟩, hlt⟩
        · refine (ck_pos (by omega)).trans ((if_pos (by omega)).trans ((ck_pos (by omega)).trans ((ck_pos (by omega)).trans ((ck_pos (by omega)).trans ((bd_of (a := 1) (by rw [t1]; exact p_past1 (by omega))).trans ((bd_of (a := (al', up_ nx' t (nx' t + w s * c g))) ?_).trans rfl))))))
          rw [t1, ts, tg, ht, tt]
          exact (ck_pos (by omega)).trans ((if_neg (by omega)).trans ((ck_pos (by omega)).trans (ck_pos (by omega))))
        · by_cases e2 : u = t
          · subst e2
            have := c2 u hu
            rw [up_at]; omega
          · rw [up_off e2]; exact c2 u hu
        · rw [eo, if_neg e, sm_up, if_pos (show t < S by omega), Int.mul_add, ht, tt, show nx' t + w s * c g - nx' t = w s * c g by omega, ← Int.mul_assoc]
          have := c3 A φ
          omega
    · right
      have : g = 5 := by omega
      subst this
      exact ⟨(al', nx'), (ck_pos (by omega)).trans (if_neg (by omega)), al', nx', rfl, c1, c2, c3⟩)
  exact ⟨al', nx', h1, h2⟩
theorem p_spread {n : Nat} (hn : 1000 ≤ n) {S : Nat} (hS : S ≤ 64) {T c w : Nat → Int} (hT : clT S T) (hc : okC c) (hw : ∀ s, s < S → 0 ≤ w s ∧ r4 (w s)) (an aw : Nat) (nx : Nat → Int) : ∃ (al : Int) (nx' : Nat → Int), F_X3_spread n an nx S aw w c T = some (al, aw, w, an, nx') ∧ 0 ≤ al ∧ (∀ t, t < S → 0 ≤ nx' t) ∧ ∀ A φ, al * A + sm_ (fun t => nx' t * φ t) S = sm_ (fun s => w s * ogS T c A φ s 5) S := by
  obtain ⟨r, h1, al', nx', rfl, h2⟩ := lp_rule (f := fun (q : Int × Int × (Nat → Int)) => F_X3_spread_L13 n S w T c q.1 q.2.1 q.2.2) (fun s q => ∃ (al' : Int) (nx' : Nat → Int), q = (al', (s : Int), nx') ∧ s ≤ S ∧ 0 ≤ al' ∧ (∀ t, t < S → 0 ≤ nx' t) ∧ ∀ A φ, al' * A + sm_ (fun t => nx' t * φ t) S = sm_ (fun s => w s * ogS T c A φ s 5) s)
    (fun r => ∃ (al' : Int) (nx' : Nat → Int), r = (al', nx') ∧ 0 ≤ al' ∧ (∀ t, t < S → 0 ≤ nx' t) ∧ ∀ A φ, al' * A + sm_ (fun t => nx' t * φ t) S = sm_ (fun s => w s * ogS T c A φ s 5) S) (N := S) (n := n) (s := (0, 0, ov (fun _ => 0) nx 64)) (by omega) ⟨0, _, rfl, by omega, by omega, fun t ht => by rw [ov_in (by omega)]; omega, fun A φ => by
      rw [sm_congr (g := fun _ => 0) (N := S) (fun i hi => by rw [ov_in (by omega)]; omega) S (Nat.le_refl S)]
      have z : ∀ i, sm_ (fun _ => 0) i = 0 := by
        intro i
        induction i with
        | zero => rfl
        | succ i ih => show sm_ (fun _ => 0) i + 0 = 0; rw [ih]; rfl
      rw [z]
      show 0 * A + 0 = 0
      omega⟩ (fun s q hI hs => by
    obtain ⟨al', nx', rfl, c0, c1, c2, c3⟩ := hI
    dsimp only
    by_cases hlt : s < S
    · left
      have ts : ((s : Int)).toNat = s := by omega
      have ws := hw s hlt
      by_cases e : w s = 0
      · refine ⟨(al', (s : Int) + 1, nx'), ?_, ⟨al', nx', rfl, by omega, c1, c2, fun A φ => ?_⟩, hlt⟩
        · refine (ck_pos (by omega)).trans ((if_pos (by omega)).trans ((ck_pos (by omega)).trans ((if_pos (by omega)).trans ((ck_pos (by omega)).trans ((bd_of (a := (al', nx')) ?_).trans rfl)))))
          rw [ts]
          exact (ck_pos ws.2).trans (if_pos e)
        · show _ = sm_ (fun s => w s * ogS T c A φ s 5) s + w s * ogS T c A φ s 5
          rw [c3, e]
          omega
      · obtain ⟨al2, nx2, d1, d2, d3, d4⟩ := p_spread5 hn hS hT hc hlt ws.1 c1 c2
        refine ⟨(al2, (s : Int) + 1, nx2), ?_, ⟨al2, nx2, rfl, by omega, d2, d3, fun A φ => ?_⟩, hlt⟩
        · refine (ck_pos (by omega)).trans ((if_pos (by omega)).trans ((ck_pos (by omega)).trans ((if_pos (by omega)).trans ((ck_pos (by omega)).trans ((bd_of (a := (al2, nx2)) ?_).trans rfl)))))
          rw [ts]
          exact (ck_pos ws.2).trans ((if_neg e).trans ((bd_of d1).trans rfl))
        · show _ = sm_ (fun s => w s * ogS T c A φ s 5) s + w s * ogS T c A φ s 5
          rw [d4, c3]
    · right
      have : s = S := by omega
      subst this
      exact ⟨(al', nx'), (ck_pos (by omega)).trans (if_neg (by omega)), al', nx', rfl, c1, c2, c3⟩)
  refine ⟨al', nx', ?_, h2⟩
  unfold F_X3_spread
  exact (bd_of (p_fill hn (N := 64) (by omega) nx 0)).trans ((bd_of h1).trans rfl)
