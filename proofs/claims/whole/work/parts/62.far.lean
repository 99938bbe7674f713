/-! how far an alarm is -/
def clT (S : Nat) (T : Nat → Int) : Prop := ∀ s g, s < S → g < 5 → T (5 * s + g) = -5 ∨ 0 ≤ T (5 * s + g) ∧ T (5 * s + g) < S
def lvS (T : Nat → Int) : Nat → Nat → Prop
  | 0, _ => False
  | j + 1, s => lvS T j s ∨ ∃ g, g < 5 ∧ (T (5 * s + g) = -5 ∨ T (5 * s + g) ≠ -5 ∧ lvS T j (T (5 * s + g)).toNat)
theorem lvS_le {T : Nat → Int} {s : Nat} : ∀ {i j : Nat}, i ≤ j → lvS T i s → lvS T j s := by
  intro i j
  induction j with
  | zero => intro h1 h2; rw [show i = 0 by omega] at h2; exact h2
  | succ j ih =>
    intro h1 h2
    by_cases e : i = j + 1
    · subst e; exact h2
    · exact Or.inl (ih (by omega) h2)
def fs_ (T : Nat → Int) (j s : Nat) : Prop := lvS T j s ∧ ¬ lvS T (j - 1) s
theorem fs_pos {T : Nat → Int} {j s : Nat} (h : fs_ T j s) : 1 ≤ j := by
  cases j with
  | zero => exact absurd h.1 id
  | succ j => omega
theorem fs_of {T : Nat → Int} {s : Nat} : ∀ {j : Nat}, lvS T j s → ∃ i, i ≤ j ∧ fs_ T i s := by
  intro j
  induction j with
  | zero => intro h; exact absurd h id
  | succ j ih =>
    intro h
    by_cases e : lvS T j s
    · obtain ⟨i, a, b⟩ := ih e
      exact ⟨i, by omega, b⟩
    · exact ⟨j + 1, Nat.le_refl _, h, e⟩
theorem fs_one {T : Nat → Int} {i j s : Nat} (h1 : fs_ T i s) (h2 : fs_ T j s) : i = j := by
  have p1 := fs_pos h1
  have p2 := fs_pos h2
  rcases Nat.lt_trichotomy i j with c | c | c
  · exact absurd (lvS_le (show i ≤ j - 1 by omega) h1.1) h2.2
  · exact c
  · exact absurd (lvS_le (show j ≤ i - 1 by omega) h2.1) h1.2
theorem fs_dn {S : Nat} {T : Nat → Int} (hT : clT S T) {j s : Nat} (hs : s < S) (hj : 1 ≤ j) (h : fs_ T (j + 1) s) : ∃ g, g < 5 ∧ T (5 * s + g) ≠ -5 ∧ (T (5 * s + g)).toNat < S ∧ fs_ T j (T (5 * s + g)).toNat := by
  obtain ⟨h1, h2⟩ := h
  rcases h1 with h1 | ⟨g, hg, h1 | ⟨h1, h3⟩⟩
  · exact absurd h1 h2
  · refine absurd (lvS_le (show 1 ≤ j + 1 - 1 by omega) ?_) h2
    exact Or.inr ⟨g, hg, Or.inl h1⟩
  · have := hT s g hs hg
    refine ⟨g, hg, h1, by omega, h3, fun x => h2 ?_⟩
    refine lvS_le (show j - 1 + 1 ≤ j + 1 - 1 by omega) ?_
    exact Or.inr ⟨g, hg, Or.inr ⟨h1, x⟩⟩
theorem fs_S {S : Nat} {T : Nat → Int} (hT : clT S T) {j s : Nat} (hs : s < S) (h : fs_ T j s) : j ≤ S := by
  have dn : ∀ d i s, i + d = j → s < S → fs_ T j s → 1 ≤ i → ∃ t, t < S ∧ fs_ T i t := by
    intro d
    induction d with
    | zero => intro i s h1 h2 h3 _; exact ⟨s, h2, by rw [show i = j by omega]; exact h3⟩
    | succ d ih =>
      intro i s h1 h2 h3 h4
      obtain ⟨t, a, b⟩ := ih (i + 1) s (by omega) h2 h3 (by omega)
      obtain ⟨g, _, _, c, d⟩ := fs_dn hT a h4 b
      exact ⟨_, c, d⟩
  have ex : ∀ i, i < j → ∃ t, t < S ∧ fs_ T (i + 1) t := fun i hi => dn (j - (i + 1)) (i + 1) s (by omega) hs h (by omega)
  obtain ⟨f, hf⟩ := Classical.axiomOfChoice (r := fun i t => i < j → t < S ∧ fs_ T (i + 1) t) (fun i => by
    by_cases c : i < j
    · obtain ⟨t, a, b⟩ := ex i c
      exact ⟨t, fun _ => ⟨a, b⟩⟩
    · exact ⟨0, fun x => absurd x c⟩)
  exact pigeon S j f (fun i hi => (hf i hi).1) (fun i i' hi hi' e => by
    have a := (hf i hi).2
    have b := (hf i' hi').2
    rw [e] at a
    have := fs_one a b
    omega)
/-- how far an alarm is from each state; no: none comes -/
def dsI (S : Nat) (T : Nat → Int) (no : Int) (a : Nat → Int) : Prop := ∀ s, s < S → a s = no ∧ (∀ j, ¬ lvS T j s) ∨ ∃ j : Nat, 1 ≤ j ∧ j ≤ 64 ∧ a s = (j : Int) ∧ fs_ T j s
def lfS (T a : Nat → Int) (s g : Nat) : Int := if T (5 * s + g) = -5 then 0 else a (T (5 * s + g)).toNat
theorem p_signTo {n : Nat} (hn : 1000 ≤ n) {S : Nat} (hS : S ≤ 64) {T a : Nat → Int} (hT : clT S T) (ha : ∀ s, s < S → r4 (a s)) {s : Nat} (hs : s < S) {x : Int} (hx : r4 x) : ∃ r : Int, F_X1_signTo n T a s x = some r ∧ (r = -9 ∧ (∀ g, g < 5 → lfS T a s g ≠ x) ∨ ∃ g : Nat, g < 5 ∧ r = (g : Int) ∧ lfS T a s g = x ∧ ∀ g', g' < g → lfS T a s g' ≠ x) := by
  obtain ⟨o, h1, h2⟩ := lp_rule (f := fun (q : Int) => F_X1_signTo_L2 n s T a x q) (fun g q => q = (g : Int) ∧ ∀ g', g' < g → lfS T a s g' ≠ x)
    (fun o => o = .inl () ∧ (∀ g, g < 5 → lfS T a s g ≠ x) ∨ ∃ g : Nat, g < 5 ∧ o = .inr (g : Int) ∧ lfS T a s g = x ∧ ∀ g', g' < g → lfS T a s g' ≠ x) (N := 5) (n := n) (s := 0) (by omega) ⟨rfl, fun g' h => (by omega)⟩ (fun g q hI hg => by
    obtain ⟨rfl, a1⟩ := hI
    by_cases hlt : g < 5
    · have tj : ((s : Int) * 5 + (g : Int)).toNat = 5 * s + g := by omega
      have c := hT s g hs hlt
      obtain ⟨o6, p6, e0⟩ : ∃ o6 : Int, F_X11_isPast n (T (5 * s + g)) = some o6 ∧ (ck (r4 o6) (if o6 = 0 then some 0 else ck (ix_ (T (5 * s + g)) 64) (some (a (T (5 * s + g)).toNat)))) = some (lfS T a s g) := by
        unfold lfS
        by_cases e : T (5 * s + g) = -5
        · exact ⟨0, p_past0 (by omega) (by omega), (ck_pos (by omega)).trans ((if_pos rfl).trans (by rw [if_pos e]))⟩
        · exact ⟨1, p_past1 (by omega), (ck_pos (by omega)).trans ((if_neg (by omega)).trans ((ck_pos (by omega)).trans (by rw [if_neg e])))⟩
      have lr : r4 (lfS T a s g) := by
        unfold lfS
        split
        · omega
        · exact ha _ (by omega)
      unfold F_X1_signTo_L2
      rw [tj]
      by_cases e : lfS T a s g = x
      · right
        refine ⟨.inr (g : Int), ?_, Or.inr ⟨g, hlt, rfl, e, a1⟩⟩
        exact (ck_pos (by omega)).trans ((if_pos (by omega)).trans ((bdck1 (p_past1 (by omega))).trans ((ck_pos (by omega)).trans ((bd_of p6).trans ((bd_of e0).trans ((ck_pos ⟨lr, hx⟩).trans (if_pos e)))))))
      · left
        refine ⟨(g : Int) + 1, ?_, ⟨by omega, fun g' hg' => ?_⟩, hlt⟩
        · exact (ck_pos (by omega)).trans ((if_pos (by omega)).trans ((bdck1 (p_past1 (by omega))).trans ((ck_pos (by omega)).trans ((bd_of p6).trans ((bd_of e0).trans ((ck_pos ⟨lr, hx⟩).trans (if_neg e)))))))
        · by_cases eg : g' = g
          · subst eg; exact e
          · exact a1 g' (by omega)
    · right
      have : g = 5 := by omega
      subst this
      refine ⟨.inl (), ?_, Or.inl ⟨rfl, a1⟩⟩
      exact (ck_pos (by omega)).trans (if_neg (by omega)))
  unfold F_X1_signTo
  rw [h1]
  rcases h2 with ⟨rfl, h2⟩ | ⟨g, b1, rfl, b2⟩
  · exact ⟨-9, rfl, Or.inl ⟨rfl, h2⟩⟩
  · exact ⟨(g : Int), rfl, Or.inr ⟨g, b1, rfl, b2⟩⟩
/-- level by level: of states below s the levels up to f are found, of the others those below f -/
def awI (S : Nat) (T : Nat → Int) (f s : Nat) (a : Nat → Int) : Prop := ∀ t, t < S → a t = -9 ∧ ¬ lvS T (if t < s then f + 1 else f) t ∨ ∃ j : Nat, 1 ≤ j ∧ j ≤ (if t < s then f + 1 else f) ∧ a t = (j : Int) ∧ fs_ T j t
theorem awI_sign {S : Nat} {T : Nat → Int} (hT : clT S T) {f s : Nat} {a : Nat → Int} (h : awI S T f s a) {t : Nat} (ht : t < S) (h9 : ¬ lvS T f t) : (∃ g, g < 5 ∧ lfS T a t g = (f : Int)) ↔ lvS T (f + 1) t := by
  constructor
  · rintro ⟨g, hg, e⟩
    have c := hT t g ht hg
    refine Or.inr ⟨g, hg, ?_⟩
    by_cases e5 : T (5 * t + g) = -5
    · exact Or.inl e5
    · right
      unfold lfS at e
      rw [if_neg e5] at e
      refine ⟨e5, ?_⟩
      rcases h (T (5 * t + g)).toNat (by omega) with b | ⟨j, b1, b2, b3, b4⟩
      · omega
      · rw [show f = j by omega]
        exact b4.1
  · intro hl
    rcases hl with hl | ⟨g, hg, hl | ⟨e5, hl⟩⟩
    · exact absurd hl h9
    · refine ⟨g, hg, ?_⟩
      have : f = 0 := by
        cases f with
        | zero => rfl
        | succ f => exact absurd (lvS_le (show 1 ≤ f + 1 by omega) (Or.inr ⟨g, hg, Or.inl hl⟩)) h9
      subst this
      unfold lfS
      rw [if_pos hl]; rfl
    · refine ⟨g, hg, ?_⟩
      have c := hT t g ht hg
      unfold lfS
      rw [if_neg e5]
      rcases h (T (5 * t + g)).toNat (by omega) with b | ⟨j, b1, b2, b3, b4⟩
      · refine absurd (lvS_le ?_ hl) b.2
        split <;> omega
      · obtain ⟨i, i1, i2⟩ := fs_of hl
        have := fs_one i2 b4
        subst this
        have : i = f := by
          rcases Nat.lt_or_ge i f with d | d
          · exact absurd (lvS_le (show i + 1 ≤ f by omega) (Or.inr ⟨g, hg, Or.inr ⟨e5, b4.1⟩⟩)) h9
          · omega
        omega
theorem awI_r {S : Nat} {T : Nat → Int} {f s : Nat} (hf : f ≤ 64) {a : Nat → Int} (h : awI S T f s a) : ∀ t, t < S → r4 (a t) := by
  intro t ht
  rcases h t ht with b | ⟨j, b1, b2, b3, b4⟩
  · omega
  · split at b2 <;> omega
theorem p_level {n : Nat} (hn : 1000 ≤ n) {S : Nat} (hS : S ≤ 64) {T : Nat → Int} (hT : clT S T) {f : Nat} (hf : f < 64) {a : Nat → Int} (h : awI S T f 0 a) : ∃ (c : Int) (a' : Nat → Int), lp_ (fun (q : Int × Int × (Nat → Int)) => F_X1_measure_L27 n S T ((f + 1 : Nat) : Int) q.1 q.2.1 q.2.2) n (0, 0, a) = some (c, a') ∧ awI S T (f + 1) 0 a' ∧ (c = 0 ∨ c = 1) ∧ (c = 0 → ∀ t, t < S → lvS T (f + 1) t → lvS T f t) := by
  obtain ⟨r, h1, c, a', rfl, h2⟩ := lp_rule (f := fun (q : Int × Int × (Nat → Int)) => F_X1_measure_L27 n S T ((f + 1 : Nat) : Int) q.1 q.2.1 q.2.2) (fun s q => ∃ (c : Int) (a' : Nat → Int), q = (c, (s : Int), a') ∧ s ≤ S ∧ awI S T f s a' ∧ (c = 0 ∨ c = 1) ∧ (c = 0 → ∀ t, t < s → lvS T (f + 1) t → lvS T f t))
    (fun r => ∃ (c : Int) (a' : Nat → Int), r = (c, a') ∧ awI S T (f + 1) 0 a' ∧ (c = 0 ∨ c = 1) ∧ (c = 0 → ∀ t, t < S → lvS T (f + 1) t → lvS T f t)) (N := S) (n := n) (s := (0, 0, a)) (by omega) ⟨0, a, rfl, by omega, h, Or.inl rfl, fun _ t ht => (by omega)⟩ (fun s q hI hs => by
    obtain ⟨c, a', rfl, c1, c2, c3, c4⟩ := hI
    dsimp only
    by_cases hlt : s < S
    · left
      have ra := awI_r (by omega) c2
      have ts : ((s : Int)).toNat = s := by omega
      have tf : ((f + 1 : Nat) : Int) - 1 = (f : Int) := by omega
      have rest : ∀ a2 : Nat → Int, (∀ t, t ≠ s → a2 t = a' t) → (a2 s = -9 ∧ ¬ lvS T (f + 1) s ∨ ∃ j : Nat, 1 ≤ j ∧ j ≤ f + 1 ∧ a2 s = (j : Int) ∧ fs_ T j s) → awI S T f (s + 1) a2 := by
        intro a2 h1 h2 t ht
        by_cases e : t = s
        · subst e
          rw [if_pos (show t < t + 1 by omega)]
          exact h2
        · rw [h1 t e]
          have := c2 t ht
          by_cases e2 : t < s
          · rw [if_pos e2] at this
            rw [if_pos (show t < s + 1 by omega)]
            exact this
          · rw [if_neg e2] at this
            rw [if_neg (show ¬ t < s + 1 by omega)]
            exact this
      have me := c2 s hlt
      rw [if_neg (show ¬ s < s by omega)] at me
      rcases me with ⟨m1, m2⟩ | ⟨j, m1, m2, m3, m4⟩
      · obtain ⟨r, s1, s2⟩ := p_signTo hn hS hT ra hlt (x := (f : Int)) (by omega)
        have sg := awI_sign hT c2 hlt m2
        rcases s2 with ⟨s2, s3⟩ | ⟨g, s2, s3, s4, s5⟩
        · have nl : ¬ lvS T (f + 1) s := fun x => by
            obtain ⟨g, g1, g2⟩ := sg.mpr x
            exact s3 g g1 g2
          refine ⟨(c, (s : Int) + 1, a'), ?_, ⟨c, a', rfl, by omega, rest a' (fun _ _ => rfl) (Or.inl ⟨m1, nl⟩), c3, fun hc t ht hl => ?_⟩, hlt⟩
          · refine (ck_pos (by omega)).trans ((if_pos (by omega)).trans ((((ck_pos (by omega)).trans (if_pos (by omega))).trans (ck_pos (by omega))).trans ((bd_of (a := (c, a')) ?_).trans rfl)))
            rw [ts, tf]
            refine (ck_pos (by omega)).trans ((if_pos m1).trans ((bd_of s1).trans ((ck_pos (by omega)).trans (if_pos s2))))
          · by_cases e : t = s
            · subst e; exact absurd hl nl
            · exact c4 hc t (by omega) hl
        · have yl : lvS T (f + 1) s := sg.mp ⟨g, s2, s4⟩
          refine ⟨(1, (s : Int) + 1, up_ a' s ((f + 1 : Nat) : Int)), ?_, ⟨1, _, rfl, by omega, rest _ (fun t ht => up_off ht) (Or.inr ⟨f + 1, by omega, by omega, up_at _ _ _, yl, m2⟩), Or.inr rfl, fun hc => absurd hc (by decide)⟩, hlt⟩
          refine (ck_pos (by omega)).trans ((if_pos (by omega)).trans ((((ck_pos (by omega)).trans (if_pos (by omega))).trans (ck_pos (by omega))).trans ((bd_of (a := ((1 : Int), up_ a' s ((f + 1 : Nat) : Int))) ?_).trans rfl)))
          rw [ts, tf]
          refine (ck_pos (by omega)).trans ((if_pos m1).trans ((bd_of s1).trans ((ck_pos (by omega)).trans ((if_neg (by omega)).trans (ck_pos (by omega))))))
      · refine ⟨(c, (s : Int) + 1, a'), ?_, ⟨c, a', rfl, by omega, rest a' (fun _ _ => rfl) (Or.inr ⟨j, m1, by omega, m3, m4⟩), c3, fun hc t ht hl => ?_⟩, hlt⟩
        · refine (ck_pos (by omega)).trans ((if_pos (by omega)).trans ((((ck_pos (by omega)).trans (if_pos (by omega))).trans (ck_pos (by omega))).trans ((bd_of (a := (c, a')) ?_).trans rfl)))
          rw [ts]
          refine (ck_pos (by omega)).trans (if_neg (by omega))
        · by_cases e : t = s
          · subst e; exact lvS_le m2 m4.1
          · exact c4 hc t (by omega) hl
    · right
      have : s = S := by omega
      subst this
      refine ⟨(c, a'), (ck_pos (by omega)).trans (if_neg (by omega)), c, a', rfl, fun t ht => ?_, c3, c4⟩
      have := c2 t ht
      rw [if_pos ht] at this
      rw [if_neg (show ¬ t < 0 by omega)]
      exact this)
  exact ⟨c, a', h1, h2⟩
