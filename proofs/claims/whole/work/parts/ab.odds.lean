/-! the odds -/
abbrev TSG : Type := Int × Int × Int × Int × (Nat → Int) × (Nat → Int) × (Nat → Int) × (Nat → Int) × (Nat → Int) × (Nat → Int) × (Nat → Int) × (Nat → Int) × (Nat → Int) × (Nat → Int) × (Nat → Int) × (Nat → Int) × (Nat → Int) × (Nat → Int) × (Nat → Int)
theorem ogS_chg {T c c' φ : Nat → Int} {A : Int} {s : Nat} (h : ∀ g, g < 5 → c g = c' g) : ∀ g, g ≤ 5 → ogS T c A φ s g = ogS T c' A φ s g
  | 0, _ => rfl
  | g + 1, hg => by
    have q := ogS_chg (T := T) (A := A) (φ := φ) (s := s) h g (by omega)
    simp only [ogS]
    rw [q, h g (by omega)]
theorem wyS_chg {T c c' : Nat → Int} (h : ∀ g, g < 5 → c g = c' g) : ∀ k, wyS T c k = wyS T c' k
  | 0 => rfl
  | k + 1 => by
    funext s
    have q := wyS_chg (T := T) h k
    simp only [wyS]
    rw [q]
    exact ogS_chg h 5 (Nat.le_refl 5)
theorem q_odds {n : Nat} (hn : 1000 ≤ n) {x : TSh} {now : Nat → Int} (hx : rsI x now) {me pk si up dn : Nat → Int} (hw : wkI x me pk si up dn) {ma : TMa} (hm : maI n ma) (uo lo : Int) (aw an : Nat) (w nx : Nat → Int) (j1 j2 j3 : Int) (m1 m2 m3 m4 m5 po mm np ko nk sk sa to wa nw : Nat → Int) {a b : Int} (ha : r4 a) (hb : r4 b) : ∃ (r : Int) (ma' : TMa) (uo' lo' : Int) (aw' an' : Nat) (w' nx' : Nat → Int) (o : TSG), F_X11_odds n x.2.1 pk ma.1 ma.2.1 ma.2.2.1 ma.2.2.2.1 ma.2.2.2.2.1 x.1.1 x.1.2.2.2.2.2.1 x.1.2.2.2.2.2.2 ma.2.2.2.2.2.1 x.1.2.1 ma.2.2.2.2.2.2.1 x.1.2.2.1 ma.2.2.2.2.2.2.2.1 x.1.2.2.2.1 x.1.2.2.2.2.1 ma.2.2.2.2.2.2.2.2.1 ma.2.2.2.2.2.2.2.2.2.1 ma.2.2.2.2.2.2.2.2.2.2.1 ma.2.2.2.2.2.2.2.2.2.2.2.1 ma.2.2.2.2.2.2.2.2.2.2.2.2.1 ma.2.2.2.2.2.2.2.2.2.2.2.2.2.1 ma.2.2.2.2.2.2.2.2.2.2.2.2.2.2.1 ma.2.2.2.2.2.2.2.2.2.2.2.2.2.2.2.1 ma.2.2.2.2.2.2.2.2.2.2.2.2.2.2.2.2 uo lo aw w an nx a b = some (r, ma'.1, ma'.2.1, ma'.2.2.1, ma'.2.2.2.1, ma'.2.2.2.2.1, ma'.2.2.2.2.2.1, ma'.2.2.2.2.2.2.1, ma'.2.2.2.2.2.2.2.1, ma'.2.2.2.2.2.2.2.2.1, ma'.2.2.2.2.2.2.2.2.2.1, ma'.2.2.2.2.2.2.2.2.2.2.1, ma'.2.2.2.2.2.2.2.2.2.2.2.1, ma'.2.2.2.2.2.2.2.2.2.2.2.2.1, ma'.2.2.2.2.2.2.2.2.2.2.2.2.2.1, ma'.2.2.2.2.2.2.2.2.2.2.2.2.2.2.1, ma'.2.2.2.2.2.2.2.2.2.2.2.2.2.2.2.1, ma'.2.2.2.2.2.2.2.2.2.2.2.2.2.2.2.2, uo', lo', aw', w', an', nx') ∧ F_X12_odds n j1 j2 j3 now m1 m2 m3 m4 m5 po mm np ko nk sk sa to wa nw a b = some o ∧ o.1 = r ∧ maI n ma' ∧ (aw' = aw ∧ an' = an ∨ aw' = an ∧ an' = aw) := by
  have e := p_in (n := n) ha (a := 0) (b := 8) ⟨by omega, by omega⟩ ⟨by omega, by omega⟩
  have f := p_in (n := n) hb (a := 0) (b := 1) ⟨by omega, by omega⟩ ⟨by omega, by omega⟩
  by_cases h0 : a < 0
  · rw [if_neg (by omega)] at e
    exact ⟨-1, ma, uo, lo, aw, an, w, nx, _, (ck_pos ha).trans (if_pos h0), (bd_of e).trans ((ck_pos (by omega)).trans (if_pos rfl)), rfl, hm, Or.inl ⟨rfl, rfl⟩⟩
  by_cases h1 : 8 < a
  · rw [if_neg (by omega)] at e
    exact ⟨-1, ma, uo, lo, aw, an, w, nx, _, (ck_pos ha).trans ((if_neg h0).trans ((ck_pos ha).trans (if_pos h1))), (bd_of e).trans ((ck_pos (by omega)).trans (if_pos rfl)), rfl, hm, Or.inl ⟨rfl, rfl⟩⟩
  rw [if_pos (by omega)] at e
  by_cases h2 : b < 0
  · rw [if_neg (by omega)] at f
    exact ⟨-1, ma, uo, lo, aw, an, w, nx, _, (ck_pos ha).trans ((if_neg h0).trans ((ck_pos ha).trans ((if_neg h1).trans ((ck_pos hb).trans (if_pos h2))))), (bd_of e).trans ((ck_pos (by omega)).trans ((if_neg (by omega)).trans ((bd_of f).trans ((ck_pos (by omega)).trans (if_pos rfl))))), rfl, hm, Or.inl ⟨rfl, rfl⟩⟩
  by_cases h3 : 1 < b
  · rw [if_neg (by omega)] at f
    exact ⟨-1, ma, uo, lo, aw, an, w, nx, _, (ck_pos ha).trans ((if_neg h0).trans ((ck_pos ha).trans ((if_neg h1).trans ((ck_pos hb).trans ((if_neg h2).trans ((ck_pos hb).trans (if_pos h3))))))), (bd_of e).trans ((ck_pos (by omega)).trans ((if_neg (by omega)).trans ((bd_of f).trans ((ck_pos (by omega)).trans (if_pos rfl))))), rfl, hm, Or.inl ⟨rfl, rfl⟩⟩
  rw [if_pos (by omega)] at f
  obtain ⟨m, rfl⟩ : ∃ m : Nat, a = (m : Int) := ⟨a.toNat, by omega⟩
  obtain ⟨t, S, ma', o, s1, s2, s3, s4, s5, s6, s7, s8, s9, s10, s11, -⟩ := p_stateNow hn hx hw hm m1 m2 m3 m4 m5 po mm np ko nk sk sa to
  have hx' := hx
  obtain ⟨k1, z, e1, e2, hr, hg, h17, ho, c1, c2⟩ := hx'
  obtain ⟨d0, d1, d2, d3, d4⟩ := hr
  have cm := clT_congr s11 s9
  obtain ⟨aw', an', w', nx', r1, r2⟩ := p_reckon hn s5 s9 hg.2.1 s4 (m := m) (by omega) aw an w nx
  have hch : ∀ g, g < 5 → r4 (now (10 + g)) := fun g hg5 => by
    have := hg.2.1.1 g hg5
    rw [d2 g hg5]
    omega
  obtain ⟨o6, wa', nw', l1, l2, l3⟩ := p_ways hn s5 o cm s8 hch (m := m) (by omega) wa nw
  have wy : wa' t = wyS ma'.2.2.2.2.2.2.2.2.2.2.2.2.2.2.2.1 x.1.2.2.2.2.1 m t := by
    rw [l3 t s4, ← wyS_congr s9 s11 m t s4, wyS_chg (T := ma'.2.2.2.2.2.2.2.2.2.2.2.2.2.2.2.1) (c := fun g => now (10 + g)) (c' := x.1.2.2.2.2.1) (fun g hg5 => d2 g hg5) m]
  have wb := wyS_b s9 hg.2.1 m t s4
  have tb := tp_b (k := m) (by omega)
  generalize hW : wyS ma'.2.2.2.2.2.2.2.2.2.2.2.2.2.2.2.1 x.1.2.2.2.2.1 m t = W at r1 wy wb
  obtain ⟨W', rfl⟩ : ∃ W' : Nat, W = (W' : Int) := ⟨W.toNat, by omega⟩
  obtain ⟨T', hT'⟩ : ∃ T' : Nat, tp_ m = (T' : Int) := ⟨(tp_ m).toNat, by omega⟩
  rw [hT'] at r1 l2 wb tb
  rw [show ((W' : Int)).toNat = W' by omega, show ((T' : Int)).toNat = T' by omega] at r1
  have tt : (o.1).toNat = t := by rw [s3]; omega
  have gm := p_gcdM2 (n := n) 27 T' W' n (by omega) (by omega) (by omega) (by omega)
  rw [Nat.gcd_comm] at gm
  have gp : 0 < Nat.gcd W' T' := Nat.gcd_pos_of_pos_right W' (by omega)
  have gl : Nat.gcd W' T' ≤ T' := Nat.le_of_dvd (by omega) (Nat.gcd_dvd_right W' T')
  generalize hG : Nat.gcd W' T' = G at r1 gm gp gl
  have wt : wa' (o.1).toNat = (W' : Int) := by rw [tt]; exact wy
  have co : F_X12_common n (T' : Int) (wa' (o.1).toNat) = some (G : Int) := by rw [wt]; exact (bd_of gm).trans rfl
  by_cases hb0 : b = 0
  · refine ⟨(W' : Int) / (G : Int), ma', (W' : Int) / (G : Int), (T' : Int) / (G : Int), aw', an', w', nx', _, (ck_pos ha).trans ((if_neg h0).trans ((ck_pos ha).trans ((if_neg h1).trans ((ck_pos hb).trans ((if_neg h2).trans ((ck_pos hb).trans ((if_neg h3).trans ((bd_of s1).trans ?_)))))))), (bd_of e).trans ((ck_pos (by omega)).trans ((if_neg (by omega)).trans ((bd_of f).trans ((ck_pos (by omega)).trans ((if_neg (by omega)).trans ((bd_of s2).trans ((bd_of l1).trans ((bd_of l2).trans ((ck_pos (by omega)).trans ((bd_of co).trans (bd_of (a := (W' : Int) / (G : Int)) ?_))))))))))), rfl, s6, r2⟩
    · rw [show (((t : Int), ma') : Int × TMa).2.2.1 = (S : Int) from s7]
      refine (bd_of r1).trans ?_
      exact (bd_of ((ck_pos hb).trans (if_pos hb0))).trans rfl
    · refine (ck_pos hb).trans ((if_pos hb0).trans ((ck_pos (by omega)).trans ?_))
      show ck (d8_ (wa' (o.1).toNat) (G : Int)) (some (wa' (o.1).toNat / (G : Int))) = _
      rw [wt]
      exact ck_pos (by omega)
  · refine ⟨(T' : Int) / (G : Int), ma', (W' : Int) / (G : Int), (T' : Int) / (G : Int), aw', an', w', nx', _, (ck_pos ha).trans ((if_neg h0).trans ((ck_pos ha).trans ((if_neg h1).trans ((ck_pos hb).trans ((if_neg h2).trans ((ck_pos hb).trans ((if_neg h3).trans ((bd_of s1).trans ?_)))))))), (bd_of e).trans ((ck_pos (by omega)).trans ((if_neg (by omega)).trans ((bd_of f).trans ((ck_pos (by omega)).trans ((if_neg (by omega)).trans ((bd_of s2).trans ((bd_of l1).trans ((bd_of l2).trans ((ck_pos (by omega)).trans ((bd_of co).trans (bd_of (a := (T' : Int) / (G : Int)) ?_))))))))))), rfl, s6, r2⟩
    · rw [show (((t : Int), ma') : Int × TMa).2.2.1 = (S : Int) from s7]
      refine (bd_of r1).trans ?_
      exact (bd_of ((ck_pos hb).trans (if_neg hb0))).trans rfl
    · exact (ck_pos hb).trans ((if_neg hb0).trans (ck_pos (by show d8_ (T' : Int) (G : Int); omega)))
