/-! the machine fits the rules -/
abbrev TMa : Type := Int × Int × Int × Int × Int × (Nat → Int) × (Nat → Int) × (Nat → Int) × (Nat → Int) × (Nat → Int) × (Nat → Int) × (Nat → Int) × (Nat → Int) × (Nat → Int) × (Nat → Int) × (Nat → Int) × (Nat → Int)
abbrev TSN : Type := Int × Int × Int × Int × (Nat → Int) × (Nat → Int) × (Nat → Int) × (Nat → Int) × (Nat → Int) × (Nat → Int) × (Nat → Int) × (Nat → Int) × (Nat → Int) × (Nat → Int) × (Nat → Int) × (Nat → Int) × (Nat → Int)
def maI (n : Nat) (ma : TMa) : Prop := ∃ k S : Nat, ma.2.2.1 = (k : Int) ∧ ma.2.1 = (S : Int) ∧ okR k ma.2.2.2.2.2.1 ma.2.2.2.2.2.2.1 ma.2.2.2.2.2.2.2.1 ∧ MC n k ma.2.2.2.2.2.1 ma.2.2.2.2.2.2.1 ma.2.2.2.2.2.2.2.1 S ma.2.2.2.2.2.2.2.2.2.2.1 ma.2.2.2.2.2.2.2.2.2.2.2.2.2.1 ma.2.2.2.2.2.2.2.2.2.2.2.2.2.2.2.1 ma.2.2.2.2.2.2.2.2.2.2.2.2.2.2.2.2
theorem p_fit {n : Nat} (hn : 1000 ≤ n) {ma : TMa} (h : maI n ma) {x : TSh} {now : Nat → Int} (hx : rsI x now) : ∃ (ma' : TMa) (k S : Nat), F_X1_fit n ma.1 ma.2.1 ma.2.2.1 ma.2.2.2.1 ma.2.2.2.2.1 x.1.1 x.1.2.2.2.2.2.1 x.1.2.2.2.2.2.2 ma.2.2.2.2.2.1 x.1.2.1 ma.2.2.2.2.2.2.1 x.1.2.2.1 ma.2.2.2.2.2.2.2.1 x.1.2.2.2.1 x.1.2.2.2.2.1 ma.2.2.2.2.2.2.2.2.1 ma.2.2.2.2.2.2.2.2.2.1 ma.2.2.2.2.2.2.2.2.2.2.1 ma.2.2.2.2.2.2.2.2.2.2.2.1 ma.2.2.2.2.2.2.2.2.2.2.2.2.1 ma.2.2.2.2.2.2.2.2.2.2.2.2.2.1 ma.2.2.2.2.2.2.2.2.2.2.2.2.2.2.1 ma.2.2.2.2.2.2.2.2.2.2.2.2.2.2.2.1 ma.2.2.2.2.2.2.2.2.2.2.2.2.2.2.2.2 = some ma' ∧ maI n ma' ∧ x.1.1 = (k : Int) ∧ ma'.2.1 = (S : Int) ∧ MC n k x.1.2.1 x.1.2.2.1 x.1.2.2.2.1 S ma'.2.2.2.2.2.2.2.2.2.2.1 ma'.2.2.2.2.2.2.2.2.2.2.2.2.2.1 ma'.2.2.2.2.2.2.2.2.2.2.2.2.2.2.2.1 ma'.2.2.2.2.2.2.2.2.2.2.2.2.2.2.2.2 := by
  obtain ⟨pasts, states, rules, slack, limit, least, of_, set_, chances, leads, part, keys, finer, sop, pos, steps, away⟩ := ma
  obtain ⟨⟨k0, le, of2, se, ch, sl, li⟩, z0, ti, sg⟩ := x
  obtain ⟨k, z, e1, e2, hr, hg, h17, ho, -, hs⟩ := hx
  obtain ⟨k1, S, f1, f2, f3, f4⟩ := h
  dsimp only at e1 e2 hr hg ho hs f1 f2 f3 f4 ⊢
  subst e1 e2 f1 f2
  obtain ⟨b, b1, b2, b3⟩ := p_hasRules hn f3 hg.1
  rcases b2 with rfl | rfl
  · have ok : okR k (cp_ le least 0 0 3) (cp_ of2 of_ 0 0 3) (cp_ se set_ 0 0 3) := okR_congr (fun r hr => ⟨(cp_in (by have := hg.1.1; omega)).symm, (cp_in (by have := hg.1.1; omega)).symm, (cp_in (by have := hg.1.1; omega)).symm⟩) hg.1
    obtain ⟨N, S', ld', pt', keys', finer', sp', ps', st', aw', c1, c2⟩ := p_build hn ok leads part keys finer sop pos steps away
    refine ⟨((N : Int), (S' : Int), (k : Int), sl, li, cp_ le least 0 0 3, cp_ of2 of_ 0 0 3, cp_ se set_ 0 0 3, cp_ ch chances 0 0 5, ld', pt', keys', finer', sp', ps', st', aw'), k, S', (bd_of b1).trans ?_, ⟨k, S', rfl, rfl, ok, c2⟩, rfl, rfl, MC_congr (fun r hr => ⟨cp_in (by have := hg.1.1; omega), cp_in (by have := hg.1.1; omega), cp_in (by have := hg.1.1; omega)⟩) c2⟩
    refine (bd_of (a := ((N : Int), (S' : Int), (k : Int), sl, li, cp_ le least 0 0 3, cp_ of2 of_ 0 0 3, cp_ se set_ 0 0 3, cp_ ch chances 0 0 5, ld', pt', keys', finer', sp', ps', st', aw')) ?_).trans rfl
    exact (ck_pos (by omega)).trans ((if_pos rfl).trans ((bd_of c1).trans rfl))
  · obtain ⟨rfl, b4⟩ := b3.mp rfl
    refine ⟨(pasts, (S : Int), (k1 : Int), slack, limit, least, of_, set_, chances, leads, part, keys, finer, sop, pos, steps, away), k1, S, (bd_of b1).trans ?_, ⟨k1, S, rfl, rfl, f3, f4⟩, rfl, rfl, MC_congr b4 f4⟩
    refine (bd_of (a := (pasts, (S : Int), (k1 : Int), slack, limit, least, of_, set_, chances, leads, part, keys, finer, sop, pos, steps, away)) ?_).trans rfl
    exact (ck_pos (by omega)).trans (if_neg (by omega))
theorem p_mc {n k S : Nat} {x : TSh} {now : Nat → Int} (hx : rsI x now) (hk : x.1.1 = (k : Int)) {pt sp st aw : Nat → Int} (g : MC n k x.1.2.1 x.1.2.2.1 x.1.2.2.2.1 S pt sp st aw) {z : Nat} (hz : x.2.1 = (z : Int)) (po me np ko nk sk sa to : Nat → Int) : ∃ (zz kn : Int) (po' me' np' ko' nk' sk' sa' to' : Nat → Int), F_X12_build n po me now np ko nk sk sa to = some (zz, kn, (S : Int), po', me', np', ko', nk', sk', sa', to') ∧ (∀ j, j < 5 * S → st j = to' j) ∧ ∀ i, i ≤ z → ∃ t : Nat, t < S ∧ F_X1_stateBehind n pt sp (paS k x.1.2.1 x.1.2.2.1 x.1.2.2.2.1 x.2.2.2 i) = some (t : Int) ∧ F_X12_stateOf n po' ko' sk' (paS k x.1.2.1 x.1.2.2.1 x.1.2.2.2.1 x.2.2.2 i) = some (t : Int) ∧ (i = 0 → t = 0) := by
  obtain ⟨k1, z1, e1, e2, hr, hg, h17, ho, -, hs⟩ := hx
  obtain rfl : k1 = k := by omega
  obtain rfl : z1 = z := by omega
  obtain ⟨d0, d1, d2, d3, d4⟩ := hr
  obtain ⟨zz, kn, po', me', np', ko', nk', sk', sa', to', a1, a2, a3⟩ := g.2.2.2.2 now d0 d1 po me np ko nk sk sa to
  refine ⟨zz, kn, po', me', np', ko', nk', sk', sa', to', a1, a2, fun i hi => ?_⟩
  have q := a3 x.2.2.2 i (fun j hj => (ho.2.1 j (by omega)).2)
  rw [paS_congr d1 i (fun j hj => rfl)] at q
  exact q
theorem p_stateNow {n : Nat} (hn : 1000 ≤ n) {x : TSh} {now : Nat → Int} (hx : rsI x now) {me pk si up dn : Nat → Int} (hw : wkI x me pk si up dn) {ma : TMa} (hm : maI n ma) (m1 m2 m3 m4 m5 po mm np ko nk sk sa to : Nat → Int) : ∃ (t S : Nat) (ma' : TMa) (o : TSN), F_X11_stateNow n x.2.1 pk ma.1 ma.2.1 ma.2.2.1 ma.2.2.2.1 ma.2.2.2.2.1 x.1.1 x.1.2.2.2.2.2.1 x.1.2.2.2.2.2.2 ma.2.2.2.2.2.1 x.1.2.1 ma.2.2.2.2.2.2.1 x.1.2.2.1 ma.2.2.2.2.2.2.2.1 x.1.2.2.2.1 x.1.2.2.2.2.1 ma.2.2.2.2.2.2.2.2.1 ma.2.2.2.2.2.2.2.2.2.1 ma.2.2.2.2.2.2.2.2.2.2.1 ma.2.2.2.2.2.2.2.2.2.2.2.1 ma.2.2.2.2.2.2.2.2.2.2.2.2.1 ma.2.2.2.2.2.2.2.2.2.2.2.2.2.1 ma.2.2.2.2.2.2.2.2.2.2.2.2.2.2.1 ma.2.2.2.2.2.2.2.2.2.2.2.2.2.2.2.1 ma.2.2.2.2.2.2.2.2.2.2.2.2.2.2.2.2 = some ((t : Int), ma') ∧ F_X12_stateNow n now m1 m2 m3 m4 m5 po mm np ko nk sk sa to = some o ∧ o.1 = (t : Int) ∧ t < S ∧ S ≤ 64 ∧ maI n ma' ∧ ma'.2.1 = (S : Int) ∧ o.2.2.2.1 = (S : Int) ∧ clT S ma'.2.2.2.2.2.2.2.2.2.2.2.2.2.2.2.1 ∧ dsI S ma'.2.2.2.2.2.2.2.2.2.2.2.2.2.2.2.1 (-9) ma'.2.2.2.2.2.2.2.2.2.2.2.2.2.2.2.2 ∧ (∀ j, j < 5 * S → ma'.2.2.2.2.2.2.2.2.2.2.2.2.2.2.2.1 j = o.2.2.2.2.2.2.2.2.2.2.2.2.2.2.2.2 j) ∧ ∃ k : Nat, x.1.1 = (k : Int) ∧ MC n k x.1.2.1 x.1.2.2.1 x.1.2.2.2.1 S ma'.2.2.2.2.2.2.2.2.2.2.1 ma'.2.2.2.2.2.2.2.2.2.2.2.2.2.1 ma'.2.2.2.2.2.2.2.2.2.2.2.2.2.2.2.1 ma'.2.2.2.2.2.2.2.2.2.2.2.2.2.2.2.2 := by
  obtain ⟨ma', k, S, f1, f2, f3, f4, f5⟩ := p_fit hn hm hx
  have hx' := hx
  obtain ⟨k1, z, e1, e2, hr, hg, h17, ho, -, hs⟩ := hx'
  have hz := ho.1
  obtain ⟨zz, kn, po', me', np', ko', nk', sk', sa', to', a1, a2, a3⟩ := p_mc hx f3 f5 e2 po mm np ko nk sk sa to
  obtain ⟨w1, w2, w3, w4, w5, g1, g2⟩ := p_goM hn hx m1 m2 m3 m4 m5
  obtain ⟨t, t1, t2, t3, t4⟩ := a3 z (Nat.le_refl z)
  have wk := hw
  obtain ⟨k2, z2, v1, v2, v3⟩ := wk
  obtain rfl : k2 = k := by omega
  obtain rfl : z2 = z := by omega
  have cr := p_isRowC (n := n) hz (y := (z2 : Int) - 1) (by omega)
  refine ⟨t, S, ma', ((t : Int), zz, kn, (S : Int), w1, w2, w3, w4, w5, po', me', np', ko', nk', sk', sa', to'), ?_, ?_, rfl, t1, f5.2.1, f2, f4, rfl, f5.2.2.1, f5.2.2.2.1, a2, k2, f3, f5⟩
  · by_cases h0 : z2 = 0
    · subst h0
      rw [if_neg (by omega)] at cr
      rw [e2]
      refine (bd_of cr).trans ((bd_of (a := 0) ((ck_pos (by omega)).trans (if_pos rfl))).trans ((bd_of f1).trans ?_))
      exact (bd_of t2).trans rfl
    · rw [if_pos (by omega)] at cr
      rw [e2]
      have ep : pk ((z2 : Int) - 1).toNat = paS k2 x.1.2.1 x.1.2.2.1 x.1.2.2.2.1 x.2.2.2 z2 := by
        rw [show ((z2 : Int) - 1).toNat = z2 - 1 by omega, (v3 (z2 - 1) (by omega)).2.1, show z2 - 1 + 1 = z2 by omega]
      refine (bd_of cr).trans ((bd_of (a := paS k2 x.1.2.1 x.1.2.2.1 x.1.2.2.2.1 x.2.2.2 z2) ((ck_pos (by omega)).trans ((if_neg (by omega)).trans ((ck_pos (by omega)).trans (congrArg some ep))))).trans ((bd_of f1).trans ?_))
      exact (bd_of t2).trans rfl
  · refine (bd_of g1).trans ((bd_of a1).trans ?_)
    refine (bd_of (a := (t : Int)) ?_).trans rfl
    rw [h17]
    by_cases h0 : z2 = 0
    · have := t4 h0
      refine (ck_pos (by omega)).trans ((if_pos (by omega)).trans ?_)
      rw [this]; rfl
    · have ep : w2 ((z2 : Int) - 1).toNat = paS k2 x.1.2.1 x.1.2.2.1 x.1.2.2.2.1 x.2.2.2 z2 := by
        have q := wkI_eq g2 hw e2 (z2 - 1) (by omega)
        rw [show ((z2 : Int) - 1).toNat = z2 - 1 by omega, q.2.1, (v3 (z2 - 1) (by omega)).2.1, show z2 - 1 + 1 = z2 by omega]
      refine (ck_pos (by omega)).trans ((if_neg (by omega)).trans ((ck_pos (by omega)).trans ?_))
      show (F_X12_stateOf n po' ko' sk' (w2 ((z2 : Int) - 1).toNat)).bind _ = _
      rw [ep]
      exact (bd_of t3).trans rfl
