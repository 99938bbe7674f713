theorem p_bringUp {n : Nat} (hn : 1000 ≤ n) {S : Nat} (hS : S ≤ 64) {L : List Nat} {g : Nat → Nat} (hg : gI L g) {pr : Nat → Nat → Int} {p : Nat} (hp : p < S) (hb : ∀ s c, s < S → c ≤ S → 0 ≤ pr (g s) c ∧ pr (g s) c < 1000003) : (F_X2_bringUp n L g pr p = some (0, g, pr) ∧ ∀ s, s ≤ p → pr (g s) p = 0) ∨ ∃ o : Nat, o ≤ p ∧ pr (g o) p ≠ 0 ∧ F_X2_bringUp n L g pr p = some (1, up_ (up_ g o (g p)) p (g o), pr) := by
  have tp : ((p : Int)).toNat = p := by omega
  obtain ⟨r, h1, h2⟩ := lp_rule (f := fun (q : Int) => F_X2_bringUp_L2 n g L p pr q) (fun k q => q = (p : Int) - (k : Int) ∧ k ≤ p + 1 ∧ ∀ s, s ≤ p → p < s + k → pr (g s) p = 0)
    (fun r => r = .inl () ∧ (∀ s, s ≤ p → pr (g s) p = 0) ∨ ∃ o : Nat, r = .inr (o : Int) ∧ o ≤ p ∧ pr (g o) p ≠ 0) (N := p + 1) (n := n) (s := (p : Int)) (by omega) ⟨by omega, by omega, fun s a b => by omega⟩ (fun k q hI hk => by
    obtain ⟨rfl, c1, c2⟩ := hI
    by_cases hlt : k ≤ p
    · obtain ⟨o, ho⟩ : ∃ o : Nat, (p : Int) - (k : Int) = (o : Int) := ⟨p - k, by omega⟩
      have tO : ((o : Int)).toNat = o := by omega
      have bo := hb o p (by omega) (by omega)
      have go := hg.1 o (by omega)
      rw [ho]
      by_cases e : pr (g o) p = 0
      · left
        refine ⟨(o : Int) + (-1), ?_, ⟨by omega, by omega, fun s a b => ?_⟩, by omega⟩
        · refine (ck_pos (by omega)).trans ((if_neg (by omega)).trans ((ck_pos (by omega)).trans ?_))
          rw [tO, tp]
          exact (ck_pos go).trans ((ck_pos (by omega)).trans ((ck_pos (by omega)).trans (if_pos e)))
        · by_cases es : s = o
          · rw [es]; exact e
          · exact c2 s a (by omega)
      · right
        refine ⟨.inr (o : Int), ?_, Or.inr ⟨o, rfl, by omega, e⟩⟩
        refine (ck_pos (by omega)).trans ((if_neg (by omega)).trans ((ck_pos (by omega)).trans ?_))
        rw [tO, tp]
        exact (ck_pos go).trans ((ck_pos (by omega)).trans ((ck_pos (by omega)).trans (if_neg e)))
    · right
      refine ⟨.inl (), (ck_pos (by omega)).trans (if_pos (by omega)), Or.inl ⟨rfl, fun s a => c2 s a (by omega)⟩⟩)
  rcases h2 with ⟨rfl, h2⟩ | ⟨o, rfl, h2, h3⟩
  · exact Or.inl ⟨(bd_of h1).trans rfl, h2⟩
  · right
    refine ⟨o, h2, h3, (bd_of h1).trans ?_⟩
    have tO : ((o : Int)).toNat = o := by omega
    have go := hg.1 o (by omega)
    have gp := hg.1 p (by omega)
    dsimp only
    rw [tO, tp]
    exact (ck_pos (by omega)).trans ((ck_pos (by omega)).trans ((ck_pos (by omega)).trans ((ck_pos gp).trans ((ck_pos (by omega)).trans (ck_pos go)))))
def elI (S : Nat) (R : Nat → Nat → Int) (q : Nat) : Prop := (∀ s c, s < S → c ≤ S → 0 ≤ R s c ∧ R s c < 1000003) ∧ (∀ s c, s < S → c < S → q ≤ c → s < c → R s c = 0) ∧ ∀ s, s < S → q ≤ s → R s s = 1
theorem p_pivot {n : Nat} (hn : 1000 ≤ n) {S : Nat} (hS : S ≤ 64) {L : List Nat} {g : Nat → Nat} (hg : gI L g) {pr : Nat → Nat → Int} {p : Nat} (hp : p < S) (h : elI S (fun s c => pr (g s) c) (p + 1)) (hz : pr (g p) p ≠ 0) (cols : Nat → Int) : ∃ (o5 : Int × (Nat → Nat) × (Nat → Nat → Int) × (Nat → Int)) (pr' : Nat → Nat → Int), F_X2_makeOne n L S g pr cols p = some o5 ∧ lp_ (fun (q : Int × (Nat → Nat) × (Nat → Nat → Int)) => F_X2_eliminate_L29 n p L S o5 q.1 q.2.1 q.2.2) n (0, o5.2.1, o5.2.2.1) = some (g, pr') ∧ elI S (fun s c => pr' (g s) c) p ∧ ∀ y, HS (fun s c => pr' (g s) c) S (S + 1) y ↔ HS (fun s c => pr (g s) c) S (S + 1) y := by
  obtain ⟨r, u, pr1, cols1, m1, m2, m3, m4, m5, m6, m7, m8⟩ := p_makeOne hn hS hg hp (fun c hc => h.1 p c hp hc) hz cols
  have inj : ∀ s t, s < S → t < S → s ≠ t → g s ≠ g t := fun s t hs ht e x => e (hg.2 s t (by omega) (by omega) x)
  have b1 : ∀ s c, s < S → c ≤ S → 0 ≤ pr1 (g s) c ∧ pr1 (g s) c < 1000003 := fun s c hs hc => by
    by_cases e : s = p
    · rw [e, m3 c hc]; exact md_b _
    · rw [m4 _ (inj s p hs hp e)]; exact h.1 s c hs hc
  have pp : pr1 (g p) p = 1 := by
    refine cg_eq ?_ (b1 p p hp (by omega)) (by omega)
    rw [m3 p (by omega)]
    refine cg_tr (cg_mod _) ?_
    rw [Int.mul_comm]; exact m2
  have ha1 : ∀ c : Nat, c ≤ S → c ≠ p → pr1 (g p) c ≠ 0 → ∃ i, i < u ∧ cols1 i = (c : Int) := fun c hc e z => m8 c hc e (fun x => z (by rw [m3 c hc, x, Int.zero_mul]; rfl))
  obtain ⟨o, l1, pr', rfl, l2⟩ := lp_rule (f := fun (q : Int × (Nat → Nat) × (Nat → Nat → Int)) => F_X2_eliminate_L29 n p L S ((u : Int), g, pr1, cols1) q.1 q.2.1 q.2.2) (fun k q => ∃ pr' : Nat → Nat → Int, q = ((k : Int), g, pr') ∧ k ≤ p ∧ ∀ s c, s < S → c ≤ S → pr' (g s) c = if s < k ∧ pr1 (g s) p ≠ 0 then (pr1 (g s) c + (1000003 - pr1 (g s) p) * pr1 (g p) c) % 1000003 else pr1 (g s) c)
    (fun o => ∃ pr' : Nat → Nat → Int, o = (g, pr') ∧ ∀ s c, s < S → c ≤ S → pr' (g s) c = if s < p ∧ pr1 (g s) p ≠ 0 then (pr1 (g s) c + (1000003 - pr1 (g s) p) * pr1 (g p) c) % 1000003 else pr1 (g s) c) (N := p) (n := n) (s := (0, g, pr1)) (by omega) ⟨pr1, rfl, by omega, fun s c hs hc => by rw [if_neg (fun x => by omega)]⟩ (fun k q hI hk => by
    obtain ⟨pr2, rfl, c0, c1⟩ := hI
    dsimp only
    by_cases hlt : k < p
    · left
      have tk : ((k : Int)).toNat = k := by omega
      have tp : ((p : Int)).toNat = p := by omega
      have gk := hg.1 k (by omega)
      have bk := b1 k p (by omega) (by omega)
      have ek : ∀ c, c ≤ S → pr2 (g k) c = pr1 (g k) c := fun c hc => by rw [c1 k c (by omega) hc, if_neg (fun x => by omega)]
      have ep : ∀ c, c ≤ S → pr2 (g p) c = pr1 (g p) c := fun c hc => by rw [c1 p c hp hc, if_neg (fun x => by omega)]
      by_cases e : pr1 (g k) p = 0
      · refine ⟨((k : Int) + 1, g, pr2), ?_, ⟨pr2, rfl, by omega, fun s c hs hc => ?_⟩, hlt⟩
        · refine (ck_pos (by omega)).trans ((if_pos (by omega)).trans ((ck_pos (by omega)).trans ?_))
          rw [tk, tp, ek p (by omega)]
          exact (ck_pos gk).trans ((ck_pos (by omega)).trans ((bd_of (a := (g, pr2)) ((ck_pos (by omega)).trans (if_pos e))).trans rfl))
        · rw [c1 s c hs hc]
          by_cases x : s < k ∧ pr1 (g s) p ≠ 0
          · rw [if_pos x, if_pos ⟨by omega, x.2⟩]
          · rw [if_neg x, if_neg (fun y => x ⟨by
              by_cases z : s = k
              · subst z; exact absurd e y.2
              · omega, y.2⟩)]
      · have b2 : ∀ s c, s < S → c ≤ S → 0 ≤ pr2 (g s) c ∧ pr2 (g s) c < 1000003 := fun s c hs hc => by
          rw [c1 s c hs hc]
          split
          · exact md_b _
          · exact b1 s c hs hc
        obtain ⟨pr3, t1, t2, t3⟩ := p_takeAway hn hS hg hp hlt b2 (by rw [ep p (by omega)]; exact pp) m5 m6 m7 (fun c hc x y => ha1 c hc x (by rw [← ep c hc]; exact y))
        refine ⟨((k : Int) + 1, g, pr3), ?_, ⟨pr3, rfl, by omega, fun s c hs hc => ?_⟩, hlt⟩
        · refine (ck_pos (by omega)).trans ((if_pos (by omega)).trans ((ck_pos (by omega)).trans ?_))
          rw [tk, tp, ek p (by omega)]
          exact (ck_pos gk).trans ((ck_pos (by omega)).trans ((bd_of (a := (g, pr3)) ((ck_pos (by omega)).trans ((if_neg e).trans ((bd_of t1).trans rfl)))).trans rfl))
        · by_cases x : s = k
          · subst x
            rw [t2 c hc, ek c hc, ek p (by omega), ep c hc, if_pos ⟨by omega, e⟩]
          · rw [t3 _ (inj s k hs (by omega) x), c1 s c hs hc]
            by_cases y : s < k ∧ pr1 (g s) p ≠ 0
            · rw [if_pos y, if_pos ⟨by omega, y.2⟩]
            · rw [if_neg y, if_neg (fun z => y ⟨by omega, z.2⟩)]
    · right
      have : k = p := by omega
      subst this
      exact ⟨(g, pr2), (ck_pos (by omega)).trans (if_neg (by omega)), pr2, rfl, c1⟩)
  -- the pivot's line
  have lp1 : ∀ c, c < S → p < c → pr1 (g p) c = 0 := fun c hc x => by
    have z : pr (g p) c = 0 := h.2.1 p c hp hc (by omega) x
    rw [m3 c (by omega), z, Int.zero_mul]; rfl
  have ls1 : ∀ s c, s < S → c < S → p + 1 ≤ c → s < c → pr1 (g s) c = 0 := fun s c hs hc x y => by
    by_cases e : s = p
    · rw [e]; exact lp1 c hc (by omega)
    · rw [m4 _ (inj s p hs hp e)]; exact h.2.1 s c hs hc x y
  refine ⟨((u : Int), g, pr1, cols1), pr', m1, l1, ⟨fun s c hs hc => ?_, fun s c hs hc x y => ?_, fun s hs x => ?_⟩, fun y => ?_⟩
  · dsimp only
    rw [l2 s c hs hc]
    split
    · exact md_b _
    · exact b1 s c hs hc
  · dsimp only
    rw [l2 s c hs (by omega)]
    by_cases e : c = p
    · subst e
      by_cases z : pr1 (g s) c ≠ 0
      · rw [if_pos ⟨y, z⟩, pp]
        omega
      · rw [if_neg (fun w => z w.2)]
        exact Classical.byContradiction z
    · have z1 := ls1 s c hs hc (by omega) y
      have z2 := lp1 c hc (by omega)
      split
      · rw [z1, z2, Int.mul_zero]; rfl
      · exact z1
  · dsimp only
    rw [l2 s s hs (by omega), if_neg (fun z => by omega)]
    by_cases e : s = p
    · rw [e]; exact pp
    · rw [m4 _ (inj s p hs hp e)]
      exact h.2.2 s hs (by omega)
  · have q1 := HS_sub (R := fun s c => pr1 (g s) c) (R' := fun s c => pr' (g s) c) (S := S) (K := S + 1) (p := p) hp (fun c hc => by
      rw [l2 p c hp (by omega), if_neg (fun x => by omega)]) (fun s hs hsp => by
      by_cases z : s < p ∧ pr1 (g s) p ≠ 0
      · refine ⟨1000003 - pr1 (g s) p, fun c hc => ?_⟩
        rw [l2 s c hs (by omega), if_pos z]
        exact cg_mod _
      · refine ⟨0, fun c hc => ?_⟩
        rw [l2 s c hs (by omega), if_neg z, Int.zero_mul, Int.add_zero]
        exact cg_rf _) y
    have q2 := HS_scale (R := fun s c => pr (g s) c) (R' := fun s c => pr1 (g s) c) (S := S) (K := S + 1) (p := p) (r := r) (a := pr (g p) p) (fun s hs hsp c hc => by
      rw [m4 _ (inj s p hs hp hsp)]) (fun c hc => by
      rw [m3 c (by omega)]
      exact cg_mod _) m2 y
    exact q1.trans q2
/-- a line over line: what the numbers of later states are, by the earlier ones -/
def kvS (R : Nat → Nat → Int) (p : Nat) : Nat → Nat → Int
  | 0 => fun _ => 0
  | s + 1 => up_ (kvS R p s) s (if s < p then 0 else if s = p then 1 else -(sm_ (fun c => R s c * kvS R p s c) s))
theorem kvS_big (R : Nat → Nat → Int) (p : Nat) : ∀ j c, j ≤ c → kvS R p j c = 0 := by
  intro j
  induction j with
  | zero => intro c _; rfl
  | succ j ih =>
    intro c hc
    show up_ (kvS R p j) j _ c = 0
    rw [up_off (by omega)]
    exact ih c (by omega)
theorem kvS_st (R : Nat → Nat → Int) (p : Nat) : ∀ j c, c < j → kvS R p j c = if c < p then 0 else if c = p then 1 else -(sm_ (fun d => R c d * kvS R p c d) c) := by
  intro j
  induction j with
  | zero => intro c h; omega
  | succ j ih =>
    intro c hc
    show up_ (kvS R p j) j _ c = _
    by_cases e : c = j
    · subst e; rw [up_at]
    · rw [up_off e]; exact ih c (by omega)
theorem kvS_eq (R : Nat → Nat → Int) (p : Nat) {i j c : Nat} (hi : c < i) (hj : c < j) : kvS R p i c = kvS R p j c := by rw [kvS_st R p i c hi, kvS_st R p j c hj]
theorem ker_of {S : Nat} {R : Nat → Nat → Int} {p : Nat} (hp : p < S) (h : elI S R (p + 1)) (hz : ∀ s, s ≤ p → R s p = 0) : HS R S (S + 1) (kvS R p S) ∧ kvS R p S S = 0 ∧ kvS R p S p = 1 := by
  refine ⟨fun s hs => ?_, kvS_big R p S S (Nat.le_refl S), by rw [kvS_st R p S p hp, if_neg (by omega), if_pos rfl]⟩
  have zS := kvS_big R p S S (Nat.le_refl S)
  by_cases e : s ≤ p
  · have : dt_ (R s) (kvS R p S) (S + 1) = 0 := by
      refine sm_zero (a := 0) (S + 1) (fun k a b => ?_) (by omega)
      by_cases e1 : k = S
      · rw [e1, zS, Int.mul_zero]
      · by_cases e2 : k < p
        · rw [kvS_st R p S k (by omega), if_pos e2, Int.mul_zero]
        · by_cases e3 : k = p
          · rw [e3, hz s e, Int.zero_mul]
          · rw [h.2.1 s k hs (by omega) (by omega) (by omega), Int.zero_mul]
    rw [this]; exact cg_rf 0
  · have e1 : dt_ (R s) (kvS R p S) (S + 1) = sm_ (fun c => R s c * kvS R p S c) (s + 1) := sm_zero (a := s + 1) (S + 1) (fun k a b => by
      by_cases x : k = S
      · rw [x, zS, Int.mul_zero]
      · rw [h.2.1 s k hs (by omega) (by omega) (by omega), Int.zero_mul]) (by omega)
    have e2 : sm_ (fun c => R s c * kvS R p S c) (s + 1) = sm_ (fun c => R s c * kvS R p S c) s + R s s * kvS R p S s := rfl
    have e3 : sm_ (fun c => R s c * kvS R p S c) s = sm_ (fun c => R s c * kvS R p s c) s := sm_congr (N := s) (fun c hc => by rw [kvS_eq R p (show c < S by omega) hc]) s (Nat.le_refl s)
    have e4 := kvS_st R p S s hs
    rw [if_neg (by omega), if_neg (by omega)] at e4
    rw [e1, e2, h.2.2 s hs (by omega), e3, e4, show sm_ (fun c => R s c * kvS R p s c) s + 1 * -sm_ (fun c => R s c * kvS R p s c) s = 0 by omega]
    exact cg_rf 0
theorem p_eliminate {n : Nat} (hn : 1000 ≤ n) {S : Nat} (hS : S ≤ 64) {L : List Nat} {g : Nat → Nat} (hg : gI L g) {pr : Nat → Nat → Int} (hb : ∀ s c, s < S → c ≤ S → 0 ≤ pr (g s) c ∧ pr (g s) c < 1000003) (cols : Nat → Int) : ∃ (b : Int) (g' : Nat → Nat) (pr' : Nat → Nat → Int) (cols' : Nat → Int), F_X2_eliminate n L S g pr cols = some (b, g', pr', cols') ∧ gI L g' ∧ (b = 1 ∧ elI S (fun s c => pr' (g' s) c) 0 ∧ (∀ y, HS (fun s c => pr' (g' s) c) S (S + 1) y ↔ HS (fun s c => pr (g s) c) S (S + 1) y) ∨ b = 0 ∧ ∃ x, HS (fun s c => pr (g s) c) S (S + 1) x ∧ x S = 0 ∧ ∃ s, s < S ∧ x s = 1) := by
  obtain ⟨r, h1, h2⟩ := lp_rule (f := fun (q : Int × (Nat → Nat) × (Nat → Nat → Int) × (Nat → Int)) => F_X2_eliminate_L7 n L S q.1 q.2.1 q.2.2.1 q.2.2.2) (fun i q => ∃ (g' : Nat → Nat) (pr' : Nat → Nat → Int) (cols' : Nat → Int), q = ((S : Int) - 1 - (i : Int), g', pr', cols') ∧ i ≤ S ∧ gI L g' ∧ elI S (fun s c => pr' (g' s) c) (S - i) ∧ ∀ y, HS (fun s c => pr' (g' s) c) S (S + 1) y ↔ HS (fun s c => pr (g s) c) S (S + 1) y)
    (fun r => ∃ (g' : Nat → Nat) (pr' : Nat → Nat → Int) (cols' : Nat → Int), gI L g' ∧ (r = .inl (g', pr', cols') ∧ elI S (fun s c => pr' (g' s) c) 0 ∧ (∀ y, HS (fun s c => pr' (g' s) c) S (S + 1) y ↔ HS (fun s c => pr (g s) c) S (S + 1) y) ∨ r = .inr (g', pr', cols') ∧ ∃ x, HS (fun s c => pr (g s) c) S (S + 1) x ∧ x S = 0 ∧ ∃ s, s < S ∧ x s = 1)) (N := S) (n := n) (s := ((S : Int) - 1, g, pr, cols)) (by omega) ⟨g, pr, cols, by simp, by omega, hg, ⟨hb, fun s c hs hc x y => by omega, fun s hs x => by omega⟩, fun y => Iff.rfl⟩ (fun i q hI hi => by
    obtain ⟨g', pr', cols', rfl, c0, c1, c2, c3⟩ := hI
    dsimp only
    by_cases hlt : i < S
    · obtain ⟨p, hp⟩ : ∃ p : Nat, (S : Int) - 1 - (i : Int) = (p : Int) := ⟨S - 1 - i, by omega⟩
      have hpS : p < S := by omega
      rw [show S - i = p + 1 by omega] at c2
      rw [hp]
      rcases p_bringUp hn hS c1 hpS c2.1 with ⟨u1, u2⟩ | ⟨o, u1, u2, u3⟩
      · right
        refine ⟨.inr (g', pr', cols'), (ck_pos (by omega)).trans ((if_neg (by omega)).trans ((bd_of u1).trans ((ck_pos (show r4 (0 : Int) by decide)).trans (if_pos rfl)))), g', pr', cols', c1, Or.inr ⟨rfl, ?_⟩⟩
        obtain ⟨k1, k2, k3⟩ := ker_of hpS c2 u2
        exact ⟨_, (c3 _).mp k1, k2, p, hpS, k3⟩
      · left
        generalize hg2 : up_ (up_ g' o (g' p)) p (g' o) = g2 at u3
        have gs : ∀ s, g2 s = if s = p then g' o else if s = o then g' p else g' s := fun s => by
          rw [← hg2]
          by_cases e1 : s = p
          · rw [e1, up_at, if_pos rfl]
          · rw [up_off e1, if_neg e1]
            by_cases e2 : s = o
            · rw [e2, up_at, if_pos rfl]
            · rw [up_off e2, if_neg e2]
        have gg : gI L g2 := by
          refine ⟨fun s hs => ?_, fun s t hs ht e => ?_⟩
          · rw [gs]
            split
            · exact c1.1 o (by omega)
            · split
              · exact c1.1 p (by omega)
              · exact c1.1 s hs
          · have ex : ∀ s, ∃ a, g2 s = g' a ∧ (s = p ∧ a = o ∨ s ≠ p ∧ s = o ∧ a = p ∨ s ≠ p ∧ s ≠ o ∧ a = s) := fun s => by
              rw [gs]
              by_cases e1 : s = p
              · exact ⟨o, if_pos e1, by omega⟩
              · rw [if_neg e1]
                by_cases e2 : s = o
                · exact ⟨p, if_pos e2, by omega⟩
                · exact ⟨s, if_neg e2, by omega⟩
            obtain ⟨a, a1, a2⟩ := ex s
            obtain ⟨b, b1, b2⟩ := ex t
            rw [a1, b1] at e
            have := c1.2 a b (by omega) (by omega) e
            omega
        have el2 : elI S (fun s c => pr' (g2 s) c) (p + 1) := by
          refine ⟨fun s c hs hc => ?_, fun s c hs hc x y => ?_, fun s hs x => ?_⟩
          · dsimp only
            rw [gs]
            split
            · exact c2.1 o c (by omega) hc
            · split
              · exact c2.1 p c hpS hc
              · exact c2.1 s c hs hc
          · dsimp only
            rw [gs]
            split
            · exact c2.2.1 o c (by omega) hc x (by omega)
            · split
              · exact c2.2.1 p c hpS hc x (by omega)
              · exact c2.2.1 s c hs hc x y
          · dsimp only
            rw [gs, if_neg (by omega), if_neg (by omega)]
            exact c2.2.2 s hs x
        have sw := HS_swap (R := fun s c => pr' (g' s) c) (R' := fun s c => pr' (g2 s) c) (S := S) (K := S + 1) (p := p) (q := o) hpS (by omega) (fun s hs c hc => by
          rw [gs]
          by_cases e1 : s = p
          · rw [if_pos e1, if_pos e1]
          · rw [if_neg e1, if_neg e1]
            by_cases e2 : s = o
            · rw [if_pos e2, if_pos e2]
            · rw [if_neg e2, if_neg e2])
        obtain ⟨o5, pr2, v1, v2, v3, v4⟩ := p_pivot hn hS gg hpS el2 (by rw [gs, if_pos rfl]; exact u2) cols'
        refine ⟨((p : Int) + (-1), g2, pr2, o5.2.2.2), (ck_pos (by omega)).trans ((if_neg (by omega)).trans ((bd_of u3).trans ((ck_pos (show r4 (1 : Int) by decide)).trans ((if_neg (show ¬ (1 : Int) = 0 by decide)).trans ((bd_of v1).trans ((bd_of v2).trans rfl)))))), ⟨g2, pr2, _, by congr 1; omega, by omega, gg, by rw [show S - (i + 1) = p by omega]; exact v3, fun y => (v4 y).trans ((sw y).trans (c3 y))⟩, hlt⟩
    · right
      have : i = S := by omega
      subst this
      rw [Nat.sub_self] at c2
      exact ⟨.inl (g', pr', cols'), (ck_pos (by omega)).trans (if_pos (by omega)), g', pr', cols', c1, Or.inl ⟨rfl, c2, c3⟩⟩)
  obtain ⟨g', pr', cols', k1, k2 | k2⟩ := h2
  · obtain ⟨rfl, k2⟩ := k2
    exact ⟨1, g', pr', cols', (bd_of h1).trans rfl, k1, Or.inl ⟨rfl, k2⟩⟩
  · obtain ⟨rfl, k2⟩ := k2
    exact ⟨0, g', pr', cols', (bd_of h1).trans rfl, k1, Or.inr ⟨rfl, k2⟩⟩
