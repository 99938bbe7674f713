/-! the means -/
abbrev TMe : Type := Int × Int × Int × Int × Int × Int × (Nat → Int) × (Nat → Int) × (Nat → Int) × (Nat → Int) × (Nat → Nat) × (Nat → Nat → Int) × (Nat → Int) × (Nat → Int)
def mnI (n : Nat) (L : List Nat) (mn : TMe) : Prop := gI L mn.2.2.2.2.2.2.2.2.2.2.1 ∧ (mn.1 = 0 ∨ mn.1 = 1 ∧ ∃ (k S : Nat) (pt sp st aw : Nat → Int), mn.2.2.2.1 = (k : Int) ∧ okR k mn.2.2.2.2.2.2.1 mn.2.2.2.2.2.2.2.1 mn.2.2.2.2.2.2.2.2.1 ∧ okC mn.2.2.2.2.2.2.2.2.2.1 ∧ MC n k mn.2.2.2.2.2.2.1 mn.2.2.2.2.2.2.2.1 mn.2.2.2.2.2.2.2.2.1 S pt sp st aw ∧ (mn.2.2.1 = 1 ∧ one_ (fun s c => mxS st mn.2.2.2.2.2.2.2.2.2.1 s c 5) S mn.2.2.2.2.2.2.2.2.2.2.2.2.2 ∨ mn.2.2.1 = 0 ∧ none_ (fun s c => mxS st mn.2.2.2.2.2.2.2.2.2.1 s c 5) S))
theorem MC_same {n k : Nat} {le of_ se : Nat → Int} {S S' : Nat} {pt sp st aw pt' sp' st' aw' : Nat → Int} (h : MC n k le of_ se S pt sp st aw) (g : MC n k le of_ se S' pt' sp' st' aw') {now : Nat → Int} (h0 : now 0 = k) (h1 : ∀ r, r < k → leM now r = le r ∧ ofM now r = of_ r ∧ seM now r = se r) : S = S' ∧ ∀ j, j < 5 * S → st j = st' j := by
  obtain ⟨z, kn, po, me, np, ko, nk, sk, sa, to, a1, a2⟩ := h.2.2.2.2 now h0 h1 st st st st st st st st
  obtain ⟨z', kn', po', me', np', ko', nk', sk', sa', to', b1, b2⟩ := g.2.2.2.2 now h0 h1 st st st st st st st st
  rw [a1] at b1
  simp only [Option.some.injEq, Prod.mk.injEq] at b1
  obtain ⟨-, -, d2, -, -, -, -, -, -, -, d10⟩ := b1
  have e : S = S' := by omega
  subst e d10
  exact ⟨rfl, fun j hj => (a2.1 j hj).trans (b2.1 j hj).symm⟩
theorem p_meanFit {n : Nat} (hn : 1000 ≤ n) {L : List Nat} {mn : TMe} (h : mnI n L mn) {x : TSh} {now : Nat → Int} (hx : rsI x now) {k S : Nat} (hk : x.1.1 = (k : Int)) {pt sp st aw : Nat → Int} (g : MC n k x.1.2.1 x.1.2.2.1 x.1.2.2.2.1 S pt sp st aw) : ∃ mn' : TMe, F_X2_fit n L mn.1 mn.2.1 mn.2.2.1 mn.2.2.2.1 mn.2.2.2.2.1 mn.2.2.2.2.2.1 x.1.1 x.1.2.2.2.2.2.1 x.1.2.2.2.2.2.2 x.1.2.1 mn.2.2.2.2.2.2.1 x.1.2.2.1 mn.2.2.2.2.2.2.2.1 x.1.2.2.2.1 mn.2.2.2.2.2.2.2.2.1 x.1.2.2.2.2.1 mn.2.2.2.2.2.2.2.2.2.1 (S : Int) mn.2.2.2.2.2.2.2.2.2.2.1 mn.2.2.2.2.2.2.2.2.2.2.2.1 st mn.2.2.2.2.2.2.2.2.2.2.2.2.1 mn.2.2.2.2.2.2.2.2.2.2.2.2.2 = some mn' ∧ mnI n L mn' ∧ (mn'.2.2.1 = 1 ∧ one_ (fun s c => mxS st x.1.2.2.2.2.1 s c 5) S mn'.2.2.2.2.2.2.2.2.2.2.2.2.2 ∨ mn'.2.2.1 = 0 ∧ none_ (fun s c => mxS st x.1.2.2.2.2.1 s c 5) S) := by
  obtain ⟨solved, size, known, rules, slack, limit, least, of_, set_, chances, gg, pr, cols, nums⟩ := mn
  obtain ⟨⟨k0, le, of2, se, ch, sl, li⟩, z0, ti, sg⟩ := x
  obtain ⟨k1, z, e1, e2, hr, hg, h17, ho, -, hs⟩ := hx
  obtain ⟨hG, hS⟩ := h
  dsimp only at hk g e1 e2 hr hg ho hs hG hS ⊢
  subst e1 e2
  obtain rfl : k1 = k := by omega
  obtain ⟨d0, d1, d2, d3, d4⟩ := hr
  have k3 := hg.1.1
  -- solved anew
  have fresh : ∃ (b : Int) (nums' cols' : Nat → Int) (g' : Nat → Nat) (pr1 pr' : Nat → Nat → Int), (F_X2_setUp n L (S : Int) gg pr st (cp_ ch chances 0 0 5)) = some ((S : Int), gg, pr1) ∧ F_X2_eliminate n L (S : Int) gg pr1 cols = some (b, g', pr', cols') ∧ (b = 0 ∨ b = 1) ∧ (ck (r4 b) <| if b = 0 then some nums else (F_X2_fillIn n L (S : Int) g' pr' nums).bind fun o8 => some o8) = some nums' ∧ mnI n L (1, (S : Int), b, (k1 : Int), sl, li, cp_ le least 0 0 3, cp_ of2 of_ 0 0 3, cp_ se set_ 0 0 3, cp_ ch chances 0 0 5, g', pr', cols', nums') ∧ (b = 1 ∧ one_ (fun s c => mxS st ch s c 5) S nums' ∨ b = 0 ∧ none_ (fun s c => mxS st ch s c 5) S) := by
    have okc : okC (cp_ ch chances 0 0 5) := okC_congr (fun g hg5 => cp_in hg5) hg.2.1
    have okr : okR k1 (cp_ le least 0 0 3) (cp_ of2 of_ 0 0 3) (cp_ se set_ 0 0 3) := okR_congr (fun r hr => ⟨(cp_in (by omega)).symm, (cp_in (by omega)).symm, (cp_in (by omega)).symm⟩) hg.1
    have mc : MC n k1 (cp_ le least 0 0 3) (cp_ of2 of_ 0 0 3) (cp_ se set_ 0 0 3) S pt sp st aw := MC_congr (fun r hr => ⟨(cp_in (by omega)).symm, (cp_in (by omega)).symm, (cp_in (by omega)).symm⟩) g
    have mx : ∀ s c, s < S → c < S → mxS st (cp_ ch chances 0 0 5) s c 5 = mxS st ch s c 5 := fun s c _ _ => mxS_chg (fun g hg5 => cp_in hg5) 5 (Nat.le_refl 5)
    obtain ⟨b, pr1, pr', g', cols', n1, n2, n3, n4⟩ := p_numbers hn g.2.1 hG g.2.2.1 okc pr cols nums
    rcases n4 with ⟨rfl, nm', f1, f2⟩ | ⟨rfl, f2⟩
    · exact ⟨1, nm', cols', g', pr1, pr', n1, n2, Or.inr rfl, (ck_pos (by omega)).trans ((if_neg (by omega)).trans ((bd_of f1).trans rfl)), ⟨n3, Or.inr ⟨rfl, k1, S, pt, sp, st, aw, rfl, okr, okc, mc, Or.inl ⟨rfl, f2⟩⟩⟩, Or.inl ⟨rfl, one_congr mx f2⟩⟩
    · exact ⟨0, nums, cols', g', pr1, pr', n1, n2, Or.inl rfl, (ck_pos (by omega)).trans (if_pos rfl), ⟨n3, Or.inr ⟨rfl, k1, S, pt, sp, st, aw, rfl, okr, okc, mc, Or.inr ⟨rfl, f2⟩⟩⟩, Or.inr ⟨rfl, none_congr mx f2⟩⟩
  obtain ⟨b, nums', cols', g', pr1, pr', q1, q2, q3, q4, q5, q6⟩ := fresh
  have tk : F_X4_take n (k1 : Int) sl li le least of2 of_ se set_ ch chances = some ((k1 : Int), sl, li, cp_ le least 0 0 3, cp_ of2 of_ 0 0 3, cp_ se set_ 0 0 3, cp_ ch chances 0 0 5) := rfl
  rcases hS with rfl | ⟨rfl, kk, S0, pt0, sp0, st0, aw0, r1, r2, r3, r4', r5⟩
  · refine ⟨_, (ck_pos (by omega)).trans ((if_pos rfl).trans ((bd_of tk).trans ((bd_of q1).trans ((bd_of q2).trans ((ck_pos q3).trans ?_))))), q5, q6⟩
    exact (bd_of q4).trans rfl
  · subst r1
    obtain ⟨c, c1, c2, c3⟩ := p_hasRules hn r2 hg.1
    rcases c2 with rfl | rfl
    · refine ⟨_, (ck_pos (by omega)).trans ((if_neg (by omega)).trans ((bd_of c1).trans ((ck_pos (by omega)).trans ((if_pos rfl).trans ((bd_of tk).trans ((bd_of q1).trans ((bd_of q2).trans ((ck_pos q3).trans ?_)))))))), q5, q6⟩
      exact (bd_of q4).trans rfl
    · obtain ⟨rfl, c4⟩ := c3.mp rfl
      obtain ⟨y, y1, y2, y3⟩ := p_hasChances hn r3 hg.2.1
      rcases y2 with rfl | rfl
      · refine ⟨_, (ck_pos (by omega)).trans ((if_neg (by omega)).trans ((bd_of c1).trans ((ck_pos (by omega)).trans ((if_neg (by omega)).trans ((bd_of y1).trans ((ck_pos (by omega)).trans ((if_pos rfl).trans ((bd_of tk).trans ((bd_of q1).trans ((bd_of q2).trans ((ck_pos q3).trans ?_))))))))))), q5, q6⟩
        exact (bd_of q4).trans rfl
      · have y4 := y3.mp rfl
        obtain ⟨rfl, v⟩ := MC_same (MC_congr c4 r4') g d0 d1
        have mx : ∀ s c, s < S0 → c < S0 → mxS st0 chances s c 5 = mxS st ch s c 5 := fun s c hs _ => (mxS_congr v hs 5 (Nat.le_refl 5)).trans (mxS_chg y4 5 (Nat.le_refl 5))
        refine ⟨_, (ck_pos (by omega)).trans ((if_neg (by omega)).trans ((bd_of c1).trans ((ck_pos (by omega)).trans ((if_neg (by omega)).trans ((bd_of y1).trans ((ck_pos (by omega)).trans (if_neg (by omega)))))))), ⟨hG, Or.inr ⟨rfl, kk, S0, pt0, sp0, st0, aw0, rfl, r2, r3, r4', r5⟩⟩, ?_⟩
        rcases r5 with ⟨u1, u2⟩ | ⟨u1, u2⟩
        · exact Or.inl ⟨u1, one_congr mx u2⟩
        · exact Or.inr ⟨u1, none_congr mx u2⟩
theorem q_mean {n : Nat} (hn : 1000 ≤ n) {x : TSh} {now : Nat → Int} (hx : rsI x now) {me pk si up dn : Nat → Int} (hw : wkI x me pk si up dn) {ma : TMa} (hm : maI n ma) {L : List Nat} {mn : TMe} (hL : mnI n L mn) (m1 m2 m3 m4 m5 po mm np ko nk sk sa to tb : Nat → Int) : ∃ (r : Int) (ma' : TMa) (mn' : TMe) (o : TSF), F_X11_mean n L x.2.1 pk ma.1 ma.2.1 ma.2.2.1 ma.2.2.2.1 ma.2.2.2.2.1 x.1.1 x.1.2.2.2.2.2.1 x.1.2.2.2.2.2.2 ma.2.2.2.2.2.1 x.1.2.1 ma.2.2.2.2.2.2.1 x.1.2.2.1 ma.2.2.2.2.2.2.2.1 x.1.2.2.2.1 x.1.2.2.2.2.1 ma.2.2.2.2.2.2.2.2.1 ma.2.2.2.2.2.2.2.2.2.1 ma.2.2.2.2.2.2.2.2.2.2.1 ma.2.2.2.2.2.2.2.2.2.2.2.1 ma.2.2.2.2.2.2.2.2.2.2.2.2.1 ma.2.2.2.2.2.2.2.2.2.2.2.2.2.1 ma.2.2.2.2.2.2.2.2.2.2.2.2.2.2.1 ma.2.2.2.2.2.2.2.2.2.2.2.2.2.2.2.1 ma.2.2.2.2.2.2.2.2.2.2.2.2.2.2.2.2 mn.1 mn.2.1 mn.2.2.1 mn.2.2.2.1 mn.2.2.2.2.1 mn.2.2.2.2.2.1 mn.2.2.2.2.2.2.1 mn.2.2.2.2.2.2.2.1 mn.2.2.2.2.2.2.2.2.1 mn.2.2.2.2.2.2.2.2.2.1 mn.2.2.2.2.2.2.2.2.2.2.1 mn.2.2.2.2.2.2.2.2.2.2.2.1 mn.2.2.2.2.2.2.2.2.2.2.2.2.1 mn.2.2.2.2.2.2.2.2.2.2.2.2.2 = some (r, ma'.1, ma'.2.1, ma'.2.2.1, ma'.2.2.2.1, ma'.2.2.2.2.1, ma'.2.2.2.2.2.1, ma'.2.2.2.2.2.2.1, ma'.2.2.2.2.2.2.2.1, ma'.2.2.2.2.2.2.2.2.1, ma'.2.2.2.2.2.2.2.2.2.1, ma'.2.2.2.2.2.2.2.2.2.2.1, ma'.2.2.2.2.2.2.2.2.2.2.2.1, ma'.2.2.2.2.2.2.2.2.2.2.2.2.1, ma'.2.2.2.2.2.2.2.2.2.2.2.2.2.1, ma'.2.2.2.2.2.2.2.2.2.2.2.2.2.2.1, ma'.2.2.2.2.2.2.2.2.2.2.2.2.2.2.2.1, ma'.2.2.2.2.2.2.2.2.2.2.2.2.2.2.2.2, mn'.1, mn'.2.1, mn'.2.2.1, mn'.2.2.2.1, mn'.2.2.2.2.1, mn'.2.2.2.2.2.1, mn'.2.2.2.2.2.2.1, mn'.2.2.2.2.2.2.2.1, mn'.2.2.2.2.2.2.2.2.1, mn'.2.2.2.2.2.2.2.2.2.1, mn'.2.2.2.2.2.2.2.2.2.2.1, mn'.2.2.2.2.2.2.2.2.2.2.2.1, mn'.2.2.2.2.2.2.2.2.2.2.2.2.1, mn'.2.2.2.2.2.2.2.2.2.2.2.2.2) ∧ F_X12_mean n now m1 m2 m3 m4 m5 po mm np ko nk sk sa to tb = some o ∧ o.1 = r ∧ maI n ma' ∧ mnI n L mn' := by
  obtain ⟨t, S, ma', o, s1, s2, s3, s4, s5, s6, s7, s8, s9, s10, s11, k, s12, s13⟩ := p_stateNow hn hx hw hm m1 m2 m3 m4 m5 po mm np ko nk sk sa to
  obtain ⟨mn', f1, f2, f3⟩ := p_meanFit hn hL hx s12 s13
  have hx' := hx
  obtain ⟨k1, z, e1, e2, hr, hg, h17, ho, c1, c2⟩ := hx'
  obtain ⟨d0, d1, d2, d3, d4⟩ := hr
  have cm := clT_congr s11 s9
  have okc : okC (fun g => now (10 + g)) := okC_congr d2 hg.2.1
  obtain ⟨tb1, l1, l2, l3, l4, l5⟩ := p_layTable hn s5 cm okc tb
  obtain ⟨b, tb2, v1, v2⟩ := p_solve hn s5 l2 l3 l4 l5
  rw [← s8] at l1 v1
  have mx : ∀ s c, s < S → c < S → mxS o.2.2.2.2.2.2.2.2.2.2.2.2.2.2.2.2 (fun g => now (10 + g)) s c 5 = mxS ma'.2.2.2.2.2.2.2.2.2.2.2.2.2.2.2.1 x.1.2.2.2.2.1 s c 5 := fun s c hs _ => (mxS_congr (fun j hj => (s11 j hj).symm) hs 5 (Nat.le_refl 5)).trans (mxS_chg d2 5 (Nat.le_refl 5))
  have tt : ((t : Int)).toNat = t := by omega
  have t65 : (65 * o.1 + 64).toNat = 65 * t + 64 := by rw [s3]; omega
  rcases v2 with ⟨rfl, v2⟩ | ⟨rfl, v2⟩
  · rcases f3 with ⟨g1, g2⟩ | ⟨g1, g2⟩
    · have eq := one_one (one_congr mx v2) g2 t s4
      have ec : mn'.2.2.2.2.2.2.2.2.2.2.2.2.2 ((t : Int)).toNat = mn'.2.2.2.2.2.2.2.2.2.2.2.2.2 t := by rw [tt]
      have em : tb2 (65 * o.1 + 64).toNat = mn'.2.2.2.2.2.2.2.2.2.2.2.2.2 t := by rw [t65]; exact eq
      refine ⟨mn'.2.2.2.2.2.2.2.2.2.2.2.2.2 t, ma', mn', _, (bd_of s1).trans ?_, (bd_of s2).trans ((bd_of l1).trans ((bd_of v1).trans (bd_of (a := mn'.2.2.2.2.2.2.2.2.2.2.2.2.2 t) ?_))), rfl, s6, f2⟩
      · rw [show (((t : Int), ma') : Int × TMa).2.2.1 = (S : Int) from s7]
        refine (bd_of f1).trans ?_
        exact (bd_of (a := mn'.2.2.2.2.2.2.2.2.2.2.2.2.2 t) ((ck_pos (by omega)).trans ((if_neg (by omega)).trans ((bdck1 (p_past1 (by show 0 ≤ (t : Int) ∧ (t : Int) < 64; omega))).trans ((ck_pos (by show ix_ (t : Int) 64; omega)).trans (congrArg some ec)))))).trans rfl
      · exact (ck_pos (by show r4 (1 : Int); omega)).trans ((if_neg (by show ¬ (1 : Int) = 0; omega)).trans ((ck_pos (by omega)).trans (congrArg some em)))
    · exact (one_none (one_congr mx v2) g2).elim
  · rcases f3 with ⟨g1, g2⟩ | ⟨g1, g2⟩
    · exact (one_none g2 (none_congr mx v2)).elim
    · refine ⟨-9, ma', mn', _, (bd_of s1).trans ?_, (bd_of s2).trans ((bd_of l1).trans ((bd_of v1).trans (bd_of (a := -9) ?_))), rfl, s6, f2⟩
      · rw [show (((t : Int), ma') : Int × TMa).2.2.1 = (S : Int) from s7]
        refine (bd_of f1).trans ?_
        exact (bd_of (a := -9) ((ck_pos (by omega)).trans (if_pos g1))).trans rfl
      · exact (ck_pos (by show r4 (0 : Int); omega)).trans (if_pos rfl)
