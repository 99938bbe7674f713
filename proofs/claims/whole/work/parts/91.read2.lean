theorem p_read {n : Nat} (hn : 1000 ≤ n) {z : Nat} {tx : Nat → Int} (hT : okT z tx) (st va ki ch of_ le se : Nat → Int) (tv : Int) (rd : Nat → Int) : (∃ (i k' : Nat) (tk tC tS pl N sl' li' a1 a2 a3 a4 mC mS : Int) (st' va' ki' ch' of' le' se' rd' : Nat → Int), F_X5_read n z tx st va ki ch of_ le se = some ((i : Int), tk, tC, tS, pl, N, st', va', ki', (k' : Int), sl', li', ch', of', le', se') ∧ F_X12_readText n z tv rd tx = some (-9, a1, a2, a3, a4, (i : Int), mC, mS, rd') ∧ i ≤ 120 ∧ rdI k' le' of' se' ch' sl' li' rd' ∧ gdP k' le' of' se' ch' sl' li') ∨
    ∃ (f : Nat) (k' tk tC tS pl N sl' li' a1 a2 a3 a4 a5 mC mS : Int) (st' va' ki' ch' of' le' se' rd' : Nat → Int), F_X5_read n z tx st va ki ch of_ le se = some (-10 - (f : Int), tk, tC, tS, pl, N, st', va', ki', k', sl', li', ch', of', le', se') ∧ F_X12_readText n z tv rd tx = some ((f : Int), a1, a2, a3, a4, a5, mC, mS, rd') ∧ f ≤ 120 := by
  have hz := hT.1
  obtain ⟨pl, N, st', va', ki', c1, hA⟩ := p_cut hn hT st va ki
  have hN := hA.1
  obtain ⟨rd0, g1, g2⟩ := p_begin hn rd
  have hfc : ∀ g, g < 5 → cp_ fc_ ch 0 0 5 g = fc_ g := fun g hg => by
    unfold cp_
    rw [if_pos (by omega)]
    congr 1
    omega
  obtain ⟨tv0, s1, s2⟩ := p_scanT hn hT 0 tv
  have bf : F_X4_becomeFirst n ch = some (0, 1, 4, cp_ fc_ ch 0 0 5) := rfl
  obtain ⟨r, q, l1, l2, P⟩ := lp_two (f := fun (q : Int × Int × Int × Int × Int × Int × Int × (Nat → Int) × (Nat → Int) × (Nat → Int) × (Nat → Int)) => F_X5_read_L31 n (pl, (N : Int), st', va', ki') q.1 q.2.1 q.2.2.1 q.2.2.2.1 q.2.2.2.2.1 q.2.2.2.2.2.1 q.2.2.2.2.2.2.1 q.2.2.2.2.2.2.2.1 q.2.2.2.2.2.2.2.2.1 q.2.2.2.2.2.2.2.2.2.1 q.2.2.2.2.2.2.2.2.2.2) (g := fun (q : Int × Int × Int × Int × Int × Int × Int × (Nat → Int)) => F_X12_readText_L28 n z tx q.1 q.2.1 q.2.2.1 q.2.2.2.1 q.2.2.2.2.1 q.2.2.2.2.2.1 q.2.2.2.2.2.2.1 q.2.2.2.2.2.2.2)
    (fun i x y => ∃ (t k : Nat) (tC tS sl li tv' : Int) (ch' of' le' se' rd' : Nat → Int), x = ((i : Int), (t : Int) - 1, tC, tS, (k : Int), sl, li, ch', of', le', se') ∧ y = (((atS z tx (t + 1) : Nat) : Int), ((stS z tx t : Nat) : Int), kmS (kdS z tx t), tv', (i : Int), tC, tS, rd') ∧ i ≤ t ∧ t ≤ N ∧ (tC = 0 ∨ tC = 1) ∧ (tS = 0 ∨ tS = 1) ∧ rdI k le' of' se' ch' sl li rd' ∧ gdP k le' of' se' ch' sl li)
    (fun r q => (∃ (i t k : Nat) (tC tS sl li tv' : Int) (ch' of' le' se' rd' : Nat → Int), r = .inr (.inr ((i : Int), (t : Int), tC, tS, (k : Int), sl, li, ch', of', le', se')) ∧ q = .inl (((atS z tx (t + 1) : Nat) : Int), ((stS z tx t : Nat) : Int), kmS (kdS z tx t), tv', (i : Int), tC, tS, rd') ∧ i ≤ 120 ∧ rdI k le' of' se' ch' sl li rd' ∧ gdP k le' of' se' ch' sl li) ∨ ∃ (u : Nat) (k tC tS mC mS sl li so' tv' it' : Int) (ch' of' le' se' rd' : Nat → Int), 1 ≤ u ∧ u < 1500 ∧ r = .inr (.inl ((u : Int) - 1, tC, tS, k, sl, li, ch', of', le', se')) ∧ q = .inr (((atS z tx u : Nat) : Int), ((stS z tx (u - 1) : Nat) : Int), so', tv', it', mC, mS, rd')) (N := 120) (n := n) (s := (0, -1, 0, 0, 0, 1, 4, cp_ fc_ ch 0 0 5, of_, le, se)) (t := (((atS z tx 1 : Nat) : Int), ((stS z tx 0 : Nat) : Int), kmS (kdS z tx 0), tv0, 0, 0, 0, rd0)) (by omega) ⟨0, 0, 0, 0, 1, 4, tv0, cp_ fc_ ch 0 0 5, of_, le, se, rd0, rfl, rfl, by omega, by omega, Or.inl rfl, Or.inl rfl, g2 le of_ se _ hfc, gd_first rfl hfc⟩ (fun i x y hI hi => by
    obtain ⟨t, k, tC, tS, sl, li, tv', ch', of', le', se', rd', rfl, rfl, d1, d2, d3, d4, d5, d6⟩ := hI
    dsimp only
    have nk := p_nextKind (n := n) hA (t := t) (by omega) (x := (t : Int) - 1) (by omega)
    have kb := kdS_b z tx t
    have km := kmS_v (k := kdS z tx t) (by omega)
    by_cases k0 : kdS z tx t = 0
    · right
      exact ⟨_, _, (ck_pos (by omega)).trans ((if_neg (by omega)).trans ((bd_of nk).trans ((ck_pos (show r4 (kdS z tx t) by omega)).trans (if_pos k0)))), (ck_pos (by omega)).trans (if_pos (by omega)), Or.inl ⟨i, t, k, tC, tS, sl, li, tv', ch', of', le', se', rd', rfl, rfl, by omega, d5, d6⟩⟩
    · have tN := kd_lt hA k0
      obtain ⟨b, u, k', cC, cS, mC, mS, sl', li', so', tv2, it', le2, of2, se2, ch2, rd2, i1, i2, i3, i4, i5, i6⟩ := p_item hn hT hA d5 d6 (t := t + 1) (by omega) (by omega) d3 d4 tv' (i : Int)
      rw [show ((t + 1 : Nat) : Int) - 1 = (t : Int) by omega, show t + 1 - 1 = t by omega] at i1
      rw [show t + 1 - 1 = t by omega] at i2
      by_cases b0 : b = 0
      · right
        exact ⟨_, _, (ck_pos (by omega)).trans ((if_neg (by omega)).trans ((bd_of nk).trans ((ck_pos (show r4 (kdS z tx t) by omega)).trans ((if_neg k0).trans ((bd_of i1).trans ((ck_pos (show r4 b by omega)).trans (if_pos b0))))))), (ck_pos (by omega)).trans ((if_neg (by omega)).trans ((bd_of i2).trans ((ck_pos (show r4 b by omega)).trans (if_pos b0)))), Or.inr ⟨u, (k' : Int), cC, cS, mC, mS, sl', li', so', tv2, it', ch2, of2, le2, se2, rd2, by omega, by omega, rfl, rfl⟩⟩
      · left
        obtain ⟨j1, j2, j3, j4, j5, j6, j7, j8, j9⟩ := i6 (by omega)
        have uN := kd_lt hA (t := u - 1) (by omega)
        obtain ⟨tv3, s3, s4⟩ := p_scanT hn hT u tv2
        subst j1 j2 j5
        refine ⟨_, _, (ck_pos (by omega)).trans ((if_neg (by omega)).trans ((bd_of nk).trans ((ck_pos (show r4 (kdS z tx t) by omega)).trans ((if_neg k0).trans ((bd_of i1).trans ((ck_pos (show r4 b by omega)).trans (if_neg b0))))))), (ck_pos (by omega)).trans ((if_neg (by omega)).trans ((bd_of i2).trans ((ck_pos (show r4 b by omega)).trans ((if_neg b0).trans ((bd_of s3).trans rfl))))), ⟨u, k', cC, cS, sl', li', tv3, ch2, of2, le2, se2, rd2, rfl, rfl, by omega, by omega, j3, j4, j6, j7⟩, by omega⟩)
  rcases P with ⟨i, t, k, tC, tS, sl, li, tv', ch', of', le', se', rd', rfl, rfl, p1, p2, p3⟩ | ⟨u, k, tC, tS, mC, mS, sl, li, so', tv', it', ch', of', le', se', rd', p1, p2, rfl, rfl⟩
  · left
    exact ⟨i, k, (t : Int), tC, tS, pl, (N : Int), sl, li, _, _, _, tv', tC, tS, st', va', ki', ch', of', le', se', rd', (bd_of c1).trans ((bd_of bf).trans ((bd_of l1).trans rfl)), (bd_of g1).trans ((bd_of s1).trans ((bd_of l2).trans rfl)), p1, p2, p3⟩
  · right
    have so := (p_tokens (n := n) hA (t := u - 1) (by omega)).2.2
    rw [show ((u - 1 : Nat) : Int) = (u : Int) - 1 by omega] at so
    have sb := atS_b z tx (u - 1)
    exact ⟨stS z tx (u - 1), k, (u : Int) - 1, tC, tS, pl, (N : Int), sl, li, _, _, so', tv', it', mC, mS, st', va', ki', ch', of', le', se', rd', (bd_of c1).trans ((bd_of bf).trans ((bd_of l1).trans ((bd_of so).trans rfl))), (bd_of g1).trans ((bd_of s1).trans ((bd_of l2).trans rfl)), by omega⟩
