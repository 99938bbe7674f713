/-! the component's lines -/
theorem u2_at {pr : Nat → Nat → Int} {a j b k : Nat} {x : Int} : u2_ pr a j x b k = if b = a ∧ k = j then x else pr b k := by
  unfold u2_ up_
  by_cases e1 : b = a
  · subst e1
    by_cases e2 : k = j
    · rw [if_pos rfl, if_pos e2, if_pos ⟨rfl, e2⟩]
    · rw [if_pos rfl, if_neg e2, if_neg (fun x => e2 x.2)]
  · rw [if_neg e1, if_neg (fun x => e1 x.1)]
def gI (L : List Nat) (g : Nat → Nat) : Prop := (∀ s, s < 64 → g s ∈ L) ∧ ∀ s t, s < 64 → t < 64 → g s = g t → s = t
theorem p_makeOne {n : Nat} (hn : 1000 ≤ n) {S : Nat} (hS : S ≤ 64) {L : List Nat} {g : Nat → Nat} (hg : gI L g) {pr : Nat → Nat → Int} {p : Nat} (hp : p < S) (hb : ∀ c, c ≤ S → 0 ≤ pr (g p) c ∧ pr (g p) c < 1000003) (hz : pr (g p) p ≠ 0) (cols : Nat → Int) : ∃ (r : Int) (u : Nat) (pr' : Nat → Nat → Int) (cols' : Nat → Int), F_X2_makeOne n L S g pr cols p = some ((u : Int), g, pr', cols') ∧ cg (r * pr (g p) p) 1 ∧ (∀ c, c ≤ S → pr' (g p) c = (pr (g p) c * r) % 1000003) ∧ (∀ a, a ≠ g p → ∀ c, pr' a c = pr a c) ∧ u ≤ S + 1 ∧ (∀ i, i < u → 0 ≤ cols' i ∧ cols' i ≤ S ∧ cols' i ≠ p) ∧ (∀ i j, i < j → j < u → cols' i < cols' j) ∧ ∀ c : Nat, c ≤ S → c ≠ p → pr (g p) c ≠ 0 → ∃ i, i < u ∧ cols' i = (c : Int) := by
  have bp := hb p (by omega)
  obtain ⟨r, i1, i2, i3⟩ := p_inverseOf hn (a := pr (g p) p) (by omega)
  have tp : ((p : Int)).toNat = p := by omega
  have gm := hg.1 p (by omega)
  obtain ⟨o, h1, h2⟩ := lp_rule (f := fun (q : Int × Int × (Nat → Nat → Int) × (Nat → Int)) => F_X2_makeOne_L20 n S g p L r q.1 q.2.1 q.2.2.1 q.2.2.2) (fun k q => ∃ (u : Nat) (pr' : Nat → Nat → Int) (cols' : Nat → Int), q = ((u : Int), (k : Int), pr', cols') ∧ k ≤ S + 1 ∧ u ≤ k ∧ (∀ a c, pr' a c = if a = g p ∧ c < k then (pr (g p) c * r) % 1000003 else pr a c) ∧ (∀ i, i < u → 0 ≤ cols' i ∧ cols' i < k ∧ cols' i ≠ p) ∧ (∀ i j, i < j → j < u → cols' i < cols' j) ∧ ∀ c : Nat, c < k → c ≠ p → pr (g p) c ≠ 0 → ∃ i, i < u ∧ cols' i = (c : Int))
    (fun o => ∃ (u : Nat) (pr' : Nat → Nat → Int) (cols' : Nat → Int), o = ((u : Int), pr', cols') ∧ u ≤ S + 1 ∧ (∀ a c, pr' a c = if a = g p ∧ c < S + 1 then (pr (g p) c * r) % 1000003 else pr a c) ∧ (∀ i, i < u → 0 ≤ cols' i ∧ cols' i ≤ S ∧ cols' i ≠ p) ∧ (∀ i j, i < j → j < u → cols' i < cols' j) ∧ ∀ c : Nat, c ≤ S → c ≠ p → pr (g p) c ≠ 0 → ∃ i, i < u ∧ cols' i = (c : Int)) (N := S + 1) (n := n) (s := (0, 0, pr, cols)) (by omega) ⟨0, pr, cols, rfl, by omega, by omega, fun a c => by rw [if_neg (fun x => by omega)], fun i hi => by omega, fun i j a b => by omega, fun c hc => by omega⟩ (fun k q hI hk => by
    obtain ⟨u, pr', cols', rfl, c0, c1, c2, c3, c4, c5⟩ := hI
    dsimp only
    by_cases hlt : k ≤ S
    · left
      have tk : ((k : Int)).toNat = k := by omega
      have tu : ((u : Int)).toNat = u := by omega
      have pk : pr' (g p) k = pr (g p) k := by rw [c2, if_neg (fun x => by omega)]
      have bk := hb k hlt
      have b := ml_b bk (show 0 ≤ r ∧ r ≤ 1000003 by omega)
      by_cases e0 : pr (g p) k = 0
      · refine ⟨((u : Int), (k : Int) + 1, pr', cols'), ?_, ⟨u, pr', cols', rfl, by omega, by omega, fun a c => ?_, fun i hi => by have := c3 i hi; omega, c4, fun c hc hcp hcz => ?_⟩, by omega⟩
        · refine (ck_pos (by omega)).trans ((if_neg (by omega)).trans ?_)
          rw [tp, tk]
          refine (ck_pos gm).trans ((ck_pos (by omega)).trans ((bd_of (a := ((u : Int), pr', cols')) ?_).trans rfl))
          rw [pk]
          exact (ck_pos (by omega)).trans (if_pos e0)
        · rw [c2]
          by_cases x : a = g p ∧ c < k
          · rw [if_pos x, if_pos ⟨x.1, by omega⟩]
          · rw [if_neg x]
            by_cases y : a = g p ∧ c < k + 1
            · rw [if_pos y]
              have ck' : c = k := by
                have := y.2
                by_cases z : c < k
                · exact absurd ⟨y.1, z⟩ x
                · omega
              rw [y.1, ck', e0, Int.zero_mul]; rfl
            · rw [if_neg y]
        · by_cases e : c = k
          · subst e; exact absurd e0 hcz
          · exact c5 c (by omega) hcp hcz
      · have prs : ∀ a c, u2_ pr' (g p) k ((pr (g p) k * r) % 1000003) a c = if a = g p ∧ c < k + 1 then (pr (g p) c * r) % 1000003 else pr a c := fun a c => by
          rw [u2_at, c2]
          by_cases x : a = g p ∧ c = k
          · rw [if_pos x, if_pos ⟨x.1, by omega⟩, x.2]
          · rw [if_neg x]
            by_cases y : a = g p ∧ c < k
            · rw [if_pos y, if_pos ⟨y.1, by omega⟩]
            · rw [if_neg y, if_neg (fun z => by omega)]
        by_cases ep : k = p
        · refine ⟨((u : Int), (k : Int) + 1, u2_ pr' (g p) k ((pr (g p) k * r) % 1000003), cols'), ?_, ⟨u, _, cols', rfl, by omega, by omega, prs, fun i hi => by have := c3 i hi; omega, c4, fun c hc hcp hcz => c5 c (by omega) hcp hcz⟩, by omega⟩
          refine (ck_pos (by omega)).trans ((if_neg (by omega)).trans ?_)
          rw [tp, tk]
          refine (ck_pos gm).trans ((ck_pos (by omega)).trans ((bd_of (a := ((u : Int), u2_ pr' (g p) k ((pr (g p) k * r) % 1000003), cols')) ?_).trans rfl))
          rw [pk]
          exact (ck_pos (by omega)).trans ((if_neg e0).trans ((ck_pos gm).trans ((ck_pos (by omega)).trans ((ck_pos (by omega)).trans ((ck_pos (by omega)).trans ((ck_pos gm).trans ((ck_pos (by omega)).trans ((ck_pos (by omega)).trans (if_pos (by omega))))))))))
        · refine ⟨((u : Int) + 1, (k : Int) + 1, u2_ pr' (g p) k ((pr (g p) k * r) % 1000003), up_ cols' u k), ?_, ⟨u + 1, _, _, rfl, by omega, by omega, prs, fun i hi => ?_, fun i j a b => ?_, fun c hc hcp hcz => ?_⟩, by omega⟩
          · refine (ck_pos (by omega)).trans ((if_neg (by omega)).trans ?_)
            rw [tp, tk, tu]
            refine (ck_pos gm).trans ((ck_pos (by omega)).trans ((bd_of (a := ((u : Int) + 1, u2_ pr' (g p) k ((pr (g p) k * r) % 1000003), up_ cols' u k)) ?_).trans rfl))
            rw [pk]
            exact (ck_pos (by omega)).trans ((if_neg e0).trans ((ck_pos gm).trans ((ck_pos (by omega)).trans ((ck_pos (by omega)).trans ((ck_pos (by omega)).trans ((ck_pos gm).trans ((ck_pos (by omega)).trans ((ck_pos (by omega)).trans ((if_neg (by omega)).trans (ck_pos (by omega)))))))))))
          · by_cases e : i = u
            · rw [e, up_at]; omega
            · have := c3 i (by omega)
              rw [up_off e]; omega
          · by_cases e : j = u
            · have := c3 i (by omega)
              rw [e, up_at, up_off (by omega)]; omega
            · rw [up_off e, up_off (by omega)]
              exact c4 i j a (by omega)
          · by_cases e : c = k
            · exact ⟨u, by omega, by rw [up_at, e]⟩
            · obtain ⟨i, x, y⟩ := c5 c (by omega) hcp hcz
              exact ⟨i, by omega, by rw [up_off (by omega), y]⟩
    · right
      have : k = S + 1 := by omega
      subst this
      exact ⟨((u : Int), pr', cols'), (ck_pos (by omega)).trans (if_pos (by omega)), u, pr', cols', rfl, by omega, c2, fun i hi => by have := c3 i hi; omega, c4, fun c hc => c5 c (by omega)⟩)
  obtain ⟨u, pr', cols', rfl, q1, q2, q3, q4, q5⟩ := h2
  refine ⟨r, u, pr', cols', ?_, i3, fun c hc => by rw [q2, if_pos ⟨rfl, by omega⟩], fun a ha c => by rw [q2, if_neg (fun x => ha x.1)], q1, q3, q4, q5⟩
  unfold F_X2_makeOne
  rw [tp]
  exact (ck_pos (by omega)).trans ((ck_pos gm).trans ((ck_pos (by omega)).trans ((bd_of i1).trans ((bd_of h1).trans rfl))))
theorem p_takeAway {n : Nat} (hn : 1000 ≤ n) {S : Nat} (hS : S ≤ 64) {L : List Nat} {g : Nat → Nat} (hg : gI L g) {pr : Nat → Nat → Int} {p o : Nat} (hp : p < S) (ho : o < p) (hb : ∀ s c, s < S → c ≤ S → 0 ≤ pr (g s) c ∧ pr (g s) c < 1000003) (h1 : pr (g p) p = 1) {u : Nat} {cols : Nat → Int} (hu : u ≤ S + 1) (hc : ∀ i, i < u → 0 ≤ cols i ∧ cols i ≤ S ∧ cols i ≠ p) (hi : ∀ i j, i < j → j < u → cols i < cols j) (ha : ∀ c : Nat, c ≤ S → c ≠ p → pr (g p) c ≠ 0 → ∃ i, i < u ∧ cols i = (c : Int)) : ∃ pr', F_X2_takeAway n L S g pr cols p o u = some (g, pr') ∧ (∀ c, c ≤ S → pr' (g o) c = (pr (g o) c + (1000003 - pr (g o) p) * pr (g p) c) % 1000003) ∧ ∀ a, a ≠ g o → ∀ c, pr' a c = pr a c := by
  have tp : ((p : Int)).toNat = p := by omega
  have to : ((o : Int)).toNat = o := by omega
  have gp := hg.1 p (by omega)
  have go := hg.1 o (by omega)
  have gne : g p ≠ g o := fun x => by have := hg.2 p o (by omega) (by omega) x; omega
  have bf := hb o p (by omega) (by omega)
  obtain ⟨q, h2, h3⟩ := lp_rule (f := fun (q : Int × (Nat → Nat → Int)) => F_X2_takeAway_L29 n u S cols g o L p pr q.1 q.2) (fun k q => ∃ pr' : Nat → Nat → Int, q = ((k : Int), pr') ∧ k ≤ u ∧ (∀ a c, a ≠ g o → pr' a c = pr a c) ∧ (∀ c : Nat, c ≤ S → (∃ i, i < k ∧ cols i = (c : Int)) → pr' (g o) c = (pr (g o) c + (1000003 - pr (g o) p) * pr (g p) c) % 1000003) ∧ ∀ c : Nat, c ≤ S → (∀ i, i < k → cols i ≠ (c : Int)) → pr' (g o) c = pr (g o) c)
    (fun pr' => (∀ a c, a ≠ g o → pr' a c = pr a c) ∧ (∀ c : Nat, c ≤ S → (∃ i, i < u ∧ cols i = (c : Int)) → pr' (g o) c = (pr (g o) c + (1000003 - pr (g o) p) * pr (g p) c) % 1000003) ∧ ∀ c : Nat, c ≤ S → (∀ i, i < u → cols i ≠ (c : Int)) → pr' (g o) c = pr (g o) c) (N := u) (n := n) (s := (0, pr)) (by omega) ⟨pr, rfl, by omega, fun _ _ _ => rfl, fun c hc ⟨i, x, y⟩ => by omega, fun c hc _ => rfl⟩ (fun k q hI hk => by
    obtain ⟨pr', rfl, c0, c1, c2, c3⟩ := hI
    dsimp only
    by_cases hlt : k < u
    · left
      have tk : ((k : Int)).toNat = k := by omega
      have ck' := hc k hlt
      obtain ⟨c, hcc⟩ : ∃ c : Nat, cols k = (c : Int) := ⟨(cols k).toNat, by omega⟩
      have tc : ((c : Int)).toNat = c := by omega
      have e1 : pr' (g o) c = pr (g o) c := c3 c (by omega) (fun i x y => by have := hi i k x hlt; omega)
      have e2 : pr' (g p) c = pr (g p) c := c1 _ _ gne
      have b1 := hb o c (by omega) (by omega)
      have b2 := hb p c (by omega) (by omega)
      have b := ml_b b2 (show 0 ≤ 1000003 - pr (g o) p ∧ 1000003 - pr (g o) p ≤ 1000003 by omega)
      rw [Int.mul_comm] at b
      refine ⟨((k : Int) + 1, u2_ pr' (g o) c ((pr (g o) c + (1000003 - pr (g o) p) * pr (g p) c) % 1000003)), ?_, ⟨_, rfl, by omega, fun a d x => ?_, fun d hd x => ?_, fun d hd x => ?_⟩, hlt⟩
      · refine (ck_pos (by omega)).trans ((if_pos (by omega)).trans ((ck_pos (by omega)).trans ((if_neg (by omega)).trans ?_)))
        rw [tk, hcc, tc, to, tp, e1, e2]
        exact (ck_pos (by omega)).trans ((bd_of (a := u2_ pr' (g o) c ((pr (g o) c + (1000003 - pr (g o) p) * pr (g p) c) % 1000003)) ((ck_pos (by omega)).trans ((if_neg (by omega)).trans ((ck_pos (by omega)).trans ((if_neg (by omega)).trans ((ck_pos go).trans ((ck_pos (by omega)).trans ((ck_pos (by omega)).trans ((ck_pos gp).trans ((ck_pos (by omega)).trans ((ck_pos (by omega)).trans ((ck_pos (by omega)).trans ((ck_pos go).trans (ck_pos (by omega))))))))))))))).trans rfl)
      · rw [u2_at, if_neg (fun y => x y.1)]
        exact c1 a d x
      · rw [u2_at]
        by_cases y : d = c
        · rw [if_pos ⟨rfl, y⟩, y]
        · rw [if_neg (fun z => y z.2)]
          obtain ⟨i, i1, i2⟩ := x
          refine c2 d hd ⟨i, ?_, i2⟩
          by_cases z : i = k
          · subst z; omega
          · omega
      · have y : d ≠ c := fun y => x k (by omega) (by rw [hcc, y])
        rw [u2_at, if_neg (fun z => y z.2)]
        exact c3 d hd (fun i hi => x i (by omega))
    · right
      have : k = u := by omega
      subst this
      exact ⟨pr', (ck_pos (by omega)).trans (if_neg (by omega)), c1, c2, c3⟩)
  obtain ⟨d1, d2, d3⟩ := h3
  refine ⟨u2_ q (g o) p 0, ?_, fun c hcS => ?_, fun a x c => by rw [u2_at, if_neg (fun y => x y.1)]; exact d1 a c x⟩
  · unfold F_X2_takeAway
    rw [to, tp]
    exact (ck_pos (by omega)).trans ((ck_pos (by omega)).trans ((ck_pos go).trans ((ck_pos (by omega)).trans ((ck_pos (by omega)).trans ((bd_of h2).trans ((ck_pos go).trans (ck_pos (by omega))))))))
  · rw [u2_at]
    by_cases e : c = p
    · rw [if_pos ⟨rfl, e⟩, e, h1]
      omega
    · rw [if_neg (fun y => e y.2)]
      by_cases z : ∃ i, i < u ∧ cols i = (c : Int)
      · exact d2 c hcS z
      · rw [d3 c hcS (fun i hi y => z ⟨i, hi, y⟩)]
        have b1 := hb o c (by omega) hcS
        have z0 : pr (g p) c = 0 := Classical.byContradiction (fun y => z (ha c hcS e y))
        rw [z0, Int.mul_zero]
        omega
