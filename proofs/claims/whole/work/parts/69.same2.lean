noncomputable def fI_ (p : Prop) : Int := @ite Int p (Classical.propDecidable p) 1 0
theorem fI_pos {p : Prop} (h : p) : fI_ p = 1 := if_pos h
theorem fI_neg {p : Prop} (h : ¬ p) : fI_ p = 0 := if_neg h
theorem sm_add (f g : Nat → Int) : ∀ i, sm_ (fun s => f s + g s) i = sm_ f i + sm_ g i := by
  intro i
  induction i with
  | zero => rfl
  | succ i ih => show sm_ (fun s => f s + g s) i + (f i + g i) = (sm_ f i + f i) + (sm_ g i + g i); omega
theorem sm_swap (f : Nat → Nat → Int) (a : Nat) : ∀ b, sm_ (fun j => sm_ (fun i => f i j) a) b = sm_ (fun i => sm_ (fun j => f i j) b) a := by
  intro b
  induction b with
  | zero =>
    show (0 : Int) = _
    induction a with
    | zero => rfl
    | succ a ih => show (0 : Int) = sm_ (fun i => sm_ (fun j => f i j) 0) a + 0; omega
  | succ b ih =>
    show sm_ (fun j => sm_ (fun i => f i j) a) b + sm_ (fun i => f i b) a = sm_ (fun i => sm_ (fun j => f i j) b + f i b) a
    rw [ih, sm_add]
/-- rules that there are: 1 to 4 last ones, at least m of them, a set -/
def vr_ (o m s : Nat) : Prop := (1 ≤ o ∧ o ≤ 4) ∧ (1 ≤ m ∧ m ≤ o) ∧ 1 ≤ s ∧ s ≤ 31
/-- f names the first one; -9: none -/
def mnF (P : Nat → Nat → Nat → Prop) (f : Int) : Prop := f = -9 ∧ (∀ o m s, ¬ P o m s) ∨ ∃ o m s : Nat, vr_ o m s ∧ P o m s ∧ f = 1000 * (o : Int) + 100 * m + s ∧ ∀ o' m' s' : Nat, P o' m' s' → f ≤ 1000 * (o' : Int) + 100 * m' + s'
theorem mnF_one {P : Nat → Nat → Nat → Prop} {f g : Int} (h1 : mnF P f) (h2 : mnF P g) : f = g := by
  rcases h1 with ⟨a, b⟩ | ⟨o, m, s, a0, a, b, c⟩
  · rcases h2 with ⟨d, e⟩ | ⟨o', m', s', d0, d, e, f⟩
    · omega
    · exact absurd d (b _ _ _)
  · rcases h2 with ⟨d, e⟩ | ⟨o', m', s', d0, d, e, f⟩
    · exact absurd a (e _ _ _)
    · have := c _ _ _ d
      have := f _ _ _ a
      omega
theorem mnF_r {P : Nat → Nat → Nat → Prop} {f : Int} (h : mnF P f) : r4 f := by
  rcases h with ⟨a, b⟩ | ⟨o, m, s, a0, a, b, c⟩
  · omega
  · obtain ⟨q1, q2, q3⟩ := a0
    omega
theorem mnF_congr {P Q : Nat → Nat → Nat → Prop} {f : Int} (h : ∀ o m s, P o m s ↔ Q o m s) (g : mnF P f) : mnF Q f := by
  have : P = Q := by
    funext o m s
    exact propext (h o m s)
  rw [← this]; exact g
theorem iv_count {o : Nat} (ho : 1 ≤ o ∧ o ≤ 4) {mo fe : Int} (h1 : 0 ≤ mo ∧ mo ≤ 4) (h2 : 0 ≤ fe ∧ fe ≤ o) (p : Nat → Prop) (hp : ∀ m, 1 ≤ m → m ≤ o → (p m ↔ mo < m ∧ (m : Int) ≤ fe)) : sm_ (fun m => fI_ (p (m + 1))) o = if fe < mo + 1 then 0 else fe - mo := by
  have key : ∀ i, i ≤ o → sm_ (fun m => fI_ (p (m + 1))) i = if min fe i < mo + 1 then 0 else min fe i - mo := by
    intro i
    induction i with
    | zero =>
      intro _
      rw [if_pos (by omega)]; rfl
    | succ i ih =>
      intro hi
      show sm_ (fun m => fI_ (p (m + 1))) i + fI_ (p (i + 1)) = _
      rw [ih (by omega)]
      have q := hp (i + 1) (by omega) (by omega)
      by_cases e : mo < ((i + 1 : Nat) : Int) ∧ ((i + 1 : Nat) : Int) ≤ fe
      · rw [fI_pos (q.mpr e)]
        by_cases e2 : min fe (i : Int) < mo + 1
        · rw [if_pos e2, if_neg (by omega)]; omega
        · rw [if_neg e2, if_neg (by omega)]; omega
      · rw [fI_neg (fun x => e (q.mp x))]
        by_cases e2 : min fe (i : Int) < mo + 1
        · rw [if_pos e2, if_pos (by omega)]; omega
        · rw [if_neg e2, if_neg (by omega)]; omega
  rw [key o (Nat.le_refl o)]
  rw [show min fe (o : Int) = fe by omega]
theorem p_search {n : Nat} (hn : 1000 ≤ n) {z : Nat} (hz : z ≤ 40) {sg met : Nat → Int} (hg : ∀ i, i < z → 0 ≤ sg i ∧ sg i < 5) (hm : ∀ i, i < z → r4 (met i)) (m0 f0 : Int) : ∃ sz fi mo fe : Int, F_X8_search n m0 f0 z sg met = some (1, sz, fi, mo, fe) ∧ sz = sm_ (fun o => sm_ (fun s => sm_ (fun m => fI_ (ftS ((o + 1 : Nat) : Int) ((s + 1 : Nat) : Int) sg met z (m + 1))) (o + 1)) 31) 4 ∧ mnF (fun o m s => vr_ o m s ∧ ftS o s sg met z m) fi := by
  obtain ⟨r, h1, sz, fi, mo, fe, rfl, h2⟩ := lp_rule (f := fun (q : Int × Int × Int × Int × Int) => F_X8_search_L18 n z sg met q.1 q.2.1 q.2.2.1 q.2.2.2.1 q.2.2.2.2) (fun i q => ∃ sz fi mo fe : Int, q = ((i : Int) + 1, sz, fi, mo, fe) ∧ i ≤ 4 ∧ sz = sm_ (fun o => sm_ (fun s => sm_ (fun m => fI_ (ftS ((o + 1 : Nat) : Int) ((s + 1 : Nat) : Int) sg met z (m + 1))) (o + 1)) 31) i ∧ mnF (fun o m s => o ≤ i ∧ vr_ o m s ∧ ftS o s sg met z m) fi)
    (fun r => ∃ sz fi mo fe : Int, r = (sz, fi, mo, fe) ∧ sz = sm_ (fun o => sm_ (fun s => sm_ (fun m => fI_ (ftS ((o + 1 : Nat) : Int) ((s + 1 : Nat) : Int) sg met z (m + 1))) (o + 1)) 31) 4 ∧ mnF (fun o m s => vr_ o m s ∧ ftS o s sg met z m) fi) (N := 4) (n := n) (s := (1, 0, -9, m0, f0)) (by omega) ⟨0, -9, m0, f0, rfl, by omega, rfl, Or.inl ⟨rfl, fun o m s h => by have := h.2.1.1; omega⟩⟩ (fun i q hI hi => by
    obtain ⟨sz, fi, mo, fe, rfl, c1, c2, c3⟩ := hI
    dsimp only
    by_cases hlt : i < 4
    · left
      obtain ⟨r2, g1, sz2, fi2, mo2, fe2, rfl, g2, g3⟩ := lp_rule (f := fun (q : Int × Int × Int × Int × Int) => F_X8_search_L26 n z sg met ((i : Int) + 1) q.1 q.2.1 q.2.2.1 q.2.2.2.1 q.2.2.2.2) (fun j q => ∃ sz2 fi2 mo2 fe2 : Int, q = ((j : Int) + 1, sz2, fi2, mo2, fe2) ∧ j ≤ 31 ∧ sz2 = sz + sm_ (fun s => sm_ (fun m => fI_ (ftS ((i + 1 : Nat) : Int) ((s + 1 : Nat) : Int) sg met z (m + 1))) (i + 1)) j ∧ mnF (fun o m s => (o ≤ i ∨ o = i + 1 ∧ s ≤ j) ∧ vr_ o m s ∧ ftS o s sg met z m) fi2)
        (fun r => ∃ sz2 fi2 mo2 fe2 : Int, r = (sz2, fi2, mo2, fe2) ∧ sz2 = sz + sm_ (fun s => sm_ (fun m => fI_ (ftS ((i + 1 : Nat) : Int) ((s + 1 : Nat) : Int) sg met z (m + 1))) (i + 1)) 31 ∧ mnF (fun o m s => o ≤ i + 1 ∧ vr_ o m s ∧ ftS o s sg met z m) fi2) (N := 31) (n := n) (s := (1, sz, fi, mo, fe)) (by omega) ⟨sz, fi, mo, fe, rfl, by omega, by show sz = sz + 0; omega, mnF_congr (fun o m s => ⟨fun h => ⟨Or.inl h.1, h.2⟩, fun h => ⟨by have := h.2.1.2.2; omega, h.2⟩⟩) c3⟩ (fun j q hJ hj => by
        obtain ⟨sz2, fi2, mo2, fe2, rfl, d1, d2, d3⟩ := hJ
        dsimp only
        by_cases hlj : j < 31
        · left
          obtain ⟨mo3, fe3, w1, w2, w3, w4, w5, w6⟩ := p_weigh hn hz hg hm (o := i + 1) (e := j + 1) (by omega) (by omega)
          have ic := iv_count (o := i + 1) (by omega) ⟨w2, w3⟩ ⟨w4, w5⟩ (fun m => ftS ((i + 1 : Nat) : Int) ((j + 1 : Nat) : Int) sg met z m) w6
          have rf := mnF_r d3
          have ei : ((i + 1 : Nat) : Int) = (i : Int) + 1 := by omega
          have ej : ((j + 1 : Nat) : Int) = (j : Int) + 1 := by omega
          have es : sm_ (fun s => sm_ (fun m => fI_ (ftS ((i + 1 : Nat) : Int) ((s + 1 : Nat) : Int) sg met z (m + 1))) (i + 1)) (j + 1) = sm_ (fun s => sm_ (fun m => fI_ (ftS ((i + 1 : Nat) : Int) ((s + 1 : Nat) : Int) sg met z (m + 1))) (i + 1)) j + sm_ (fun m => fI_ (ftS ((i + 1 : Nat) : Int) ((j + 1 : Nat) : Int) sg met z (m + 1))) (i + 1) := rfl
          rw [ei, ej] at w1
          by_cases em : fe3 < mo3 + 1
          · rw [if_pos em] at ic
            refine ⟨((j : Int) + 1 + 1, sz2, fi2, mo3, fe3), (ck_pos (by omega)).trans ((if_neg (by omega)).trans ((bd_of w1).trans ((bd_of (a := (sz2, fi2)) ((ck_pos (by omega)).trans (if_pos em))).trans rfl))), ⟨sz2, fi2, mo3, fe3, by rw [ej], by omega, by rw [es, ic, d2]; omega, mnF_congr (fun o m s => ⟨fun h => ⟨by omega, h.2⟩, fun h => ⟨?_, h.2⟩⟩) d3⟩, hlj⟩
            have h1 := h.1
            by_cases x : o = i + 1 ∧ s = j + 1
            · obtain ⟨rfl, rfl⟩ := x
              have := (w6 m h.2.1.2.1.1 h.2.1.2.1.2).mp h.2.2
              omega
            · omega
          · rw [if_neg em] at ic
            -- the lowest m
            obtain ⟨k, hk⟩ : ∃ k : Nat, mo3 + 1 = (k : Int) := ⟨(mo3 + 1).toNat, by omega⟩
            have kv : vr_ (i + 1) k (j + 1) := ⟨by omega, by omega, by omega⟩
            have kf : ftS ((i + 1 : Nat) : Int) ((j + 1 : Nat) : Int) sg met z k := (w6 k (by omega) (by omega)).mpr (by omega)
            have mono : ∀ o m s, ((o ≤ i ∨ o = i + 1 ∧ s ≤ j + 1) ∧ vr_ o m s ∧ ftS o s sg met z m) → ((o ≤ i ∨ o = i + 1 ∧ s ≤ j) ∧ vr_ o m s ∧ ftS o s sg met z m) ∨ (o = i + 1 ∧ s = j + 1 ∧ k ≤ m) := by
              intro o m s h
              by_cases x : o = i + 1 ∧ s = j + 1
              · right
                obtain ⟨rfl, rfl⟩ := x
                have := (w6 m h.2.1.2.1.1 h.2.1.2.1.2).mp h.2.2
                omega
              · left
                exact ⟨by omega, h.2⟩
            have nx : ∃ f : Int, (ck (r4 fi2) (if fi2 = (-9) then some (((1000 * ((i : Int) + 1)) + (100 * (mo3 + 1))) + ((j : Int) + 1)) else ck (r4 fi2 ∧ r4 (((1000 * ((i : Int) + 1)) + (100 * (mo3 + 1))) + ((j : Int) + 1))) (some (min fi2 (((1000 * ((i : Int) + 1)) + (100 * (mo3 + 1))) + ((j : Int) + 1)))))) = some f ∧ mnF (fun o m s => (o ≤ i ∨ o = i + 1 ∧ s ≤ j + 1) ∧ vr_ o m s ∧ ftS o s sg met z m) f := by
              rcases d3 with ⟨a, b⟩ | ⟨o, m, s, a0, a, b, c⟩
              · refine ⟨_, (ck_pos rf).trans (if_pos a), Or.inr ⟨i + 1, k, j + 1, kv, ⟨Or.inr ⟨rfl, Nat.le_refl _⟩, kv, kf⟩, by omega, fun o' m' s' h => ?_⟩⟩
                rcases mono o' m' s' h with x | x
                · exact absurd x (b _ _ _)
                · omega
              · have f9 : fi2 ≠ -9 := by omega
                by_cases le : fi2 ≤ 1000 * ((i : Int) + 1) + 100 * (mo3 + 1) + ((j : Int) + 1)
                · refine ⟨_, (ck_pos rf).trans ((if_neg f9).trans (ck_pos (by omega))), Or.inr ⟨o, m, s, a0, ⟨by have := a.1; omega, a.2⟩, by omega, fun o' m' s' h => ?_⟩⟩
                  rcases mono o' m' s' h with x | x
                  · have := c _ _ _ x; omega
                  · omega
                · refine ⟨_, (ck_pos rf).trans ((if_neg f9).trans (ck_pos (by omega))), Or.inr ⟨i + 1, k, j + 1, kv, ⟨Or.inr ⟨rfl, Nat.le_refl _⟩, kv, kf⟩, by omega, fun o' m' s' h => ?_⟩⟩
                  rcases mono o' m' s' h with x | x
                  · have := c _ _ _ x; omega
                  · omega
            obtain ⟨f, n1, n2⟩ := nx
            refine ⟨((j : Int) + 1 + 1, sz2 + (fe3 - mo3), f, mo3, fe3), (ck_pos (by omega)).trans ((if_neg (by omega)).trans ((bd_of w1).trans ((bd_of (a := (sz2 + (fe3 - mo3), f)) ((ck_pos (by omega)).trans ((if_neg em).trans ((bd_of n1).trans rfl)))).trans rfl))), ⟨_, f, mo3, fe3, by rw [ej], by omega, by rw [es, ic, d2]; omega, n2⟩, hlj⟩
        · right
          have : j = 31 := by omega
          subst this
          refine ⟨(sz2, fi2, mo2, fe2), (ck_pos (by omega)).trans (if_pos (by omega)), sz2, fi2, mo2, fe2, rfl, d2, mnF_congr (fun o m s => ⟨fun h => ⟨by omega, h.2⟩, fun h => ⟨by have := h.2.1.2.2; omega, h.2⟩⟩) d3⟩)
      refine ⟨((i : Int) + 1 + 1, sz2, fi2, mo2, fe2), (ck_pos (by omega)).trans ((if_neg (by omega)).trans ((bd_of g1).trans rfl)), ⟨sz2, fi2, mo2, fe2, by rw [show ((i + 1 : Nat) : Int) = (i : Int) + 1 by omega], by omega, by rw [g2, c2]; rfl, g3⟩, hlt⟩
    · right
      have : i = 4 := by omega
      subst this
      exact ⟨(sz, fi, mo, fe), (ck_pos (by omega)).trans (if_pos (by omega)), sz, fi, mo, fe, rfl, c2, mnF_congr (fun o m s => ⟨fun h => h.2, fun h => ⟨h.1.1.2, h⟩⟩) c3⟩)
  exact ⟨sz, fi, mo, fe, (bd_of h1).trans rfl, h2⟩
