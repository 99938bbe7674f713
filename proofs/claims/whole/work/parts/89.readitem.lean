def gdP (k : Nat) (le of_ se ch : Nat → Int) (sl li : Int) : Prop := okR k le of_ se ∧ okC ch ∧ (0 ≤ sl ∧ sl ≤ 2) ∧ 1 ≤ li ∧ li ≤ 9
theorem p_item {n : Nat} (hn : 1000 ≤ n) {z N : Nat} {tx st ki va : Nat → Int} (hT : okT z tx) (hA : tkA z tx N st ki va) {k : Nat} {le of_ se ch : Nat → Int} {sl li : Int} {rd : Nat → Int} (hr : rdI k le of_ se ch sl li rd) (hg : gdP k le of_ se ch sl li) {t : Nat} (ht : t < 1400) (h1 : 1 ≤ t) {tC tS : Int} (hC : tC = 0 ∨ tC = 1) (hS : tS = 0 ∨ tS = 1) (tv it : Int) : ∃ (b : Int) (u k' : Nat) (cC cS mC mS sl' li' so' tv' it' : Int) (le' of' se' ch' rd' : Nat → Int), F_X5_isItem n ((t : Int) - 1) tC tS k sl li N ki va of_ le se ch (kdS z tx (t - 1)) = some (b, (u : Int) - 1, cC, cS, (k' : Int), sl', li', of', le', se', ch') ∧ F_X12_readItem n z ((atS z tx t : Nat) : Int) ((stS z tx (t - 1) : Nat) : Int) (kmS (kdS z tx (t - 1))) tv it tC tS tx rd = some (b, ((atS z tx u : Nat) : Int), ((stS z tx (u - 1) : Nat) : Int), so', tv', it', mC, mS, rd') ∧ (b = 0 ∨ b = 1) ∧ t ≤ u ∧ u ≤ t + 6 ∧ (b = 1 → cC = mC ∧ cS = mS ∧ (mC = 0 ∨ mC = 1) ∧ (mS = 0 ∨ mS = 1) ∧ it' = it + 1 ∧ rdI k' le' of' se' ch' sl' li' rd' ∧ gdP k' le' of' se' ch' sl' li' ∧ t < u ∧ kdS z tx (u - 1) = 5) := by
  have kb := kdS_b z tx (t - 1)
  have km := kmS_v (k := kdS z tx (t - 1)) (by omega)
  -- the semicolon
  have semi : ∀ (u : Nat) (tv : Int), t ≤ u → u ≤ t + 5 → ∃ (b so' tv' : Int), (b = 0 ∨ b = 1) ∧ ((F_X5_nextKind n ((u : Int) - 1) N ki).bind fun o5 => ck (r4 o5.1) (if o5.1 = 5 then some ((1 : Int), o5.2) else some (0, o5.2))) = some (b, ((u + 1 : Nat) : Int) - 1) ∧ F_X12_scan n z ((atS z tx u : Nat) : Int) tv tx = some (((atS z tx (u + 1) : Nat) : Int), ((stS z tx u : Nat) : Int), so', tv') ∧ (ck (r4 so') (if so' = 59 then some (1 : Int) else some 0)) = some b ∧ (b = 1 → kdS z tx u = 5) := by
    intro u tv hu1 hu2
    have nk := p_nextKind (n := n) hA (t := u) (by omega) (x := (u : Int) - 1) (by omega)
    obtain ⟨tv', s1, s2⟩ := p_scanT hn hT u tv
    have b0 := kdS_b z tx u
    have km := kmS_v (k := kdS z tx u) (by omega)
    have eu : ((u + 1 : Nat) : Int) - 1 = (u : Int) := by omega
    by_cases e : kdS z tx u = 5
    · refine ⟨1, kmS (kdS z tx u), tv', Or.inr rfl, ?_, s1, (ck_pos (by omega)).trans (if_pos (by omega)), fun _ => e⟩
      rw [eu]
      exact (bd_of nk).trans ((ck_pos (show r4 (kdS z tx u) by omega)).trans (if_pos e))
    · refine ⟨0, kmS (kdS z tx u), tv', Or.inl rfl, ?_, s1, (ck_pos (by omega)).trans (if_neg (by omega)), fun x => absurd x (by decide)⟩
      rw [eu]
      exact (bd_of nk).trans ((ck_pos (show r4 (kdS z tx u) by omega)).trans (if_neg e))
  obtain ⟨g1, g2, g3, g4⟩ := hg
  unfold F_X5_isItem F_X12_readItem
  by_cases k1 : kdS z tx (t - 1) = 1
  · obtain ⟨b, u, k', le', of', se', so', tv', rd', r1, r2, r3, r4', r5, r6⟩ := p_rule hn hT hA hr g1 (t := t) (by omega) h1 (kmS (kdS z tx (t - 1))) tv
    by_cases b0 : b = 0
    · refine ⟨0, u, k', tC, tS, tC, tS, sl, li, so', tv', it, le', of', se', ch, rd', ?_, ?_, Or.inl rfl, by omega, by omega, fun x => absurd x (by decide)⟩
      · exact (ck_pos (by omega)).trans ((if_pos k1).trans ((bd_of r1).trans ((bd_of (a := ((0 : Int), (u : Int) - 1)) ((ck_pos (by omega)).trans (if_pos b0))).trans (ck_pos (show (0 : Int) = 0 ∨ (0 : Int) = 1 by decide)))))
      · exact (bd_of (a := (b, ((atS z tx u : Nat) : Int), ((stS z tx (u - 1) : Nat) : Int), so', tv', tC, tS, rd')) ((ck_pos (by omega)).trans ((if_pos (by omega)).trans ((bd_of r2).trans rfl)))).trans ((ck_pos (by omega)).trans (if_pos b0))
    · obtain ⟨b2, so2, tv2, c1, c2, c3, c4, c5⟩ := semi u tv' r4' (by omega)
      obtain ⟨r7, r8⟩ := r6 (by omega)
      refine ⟨b2, u + 1, k', tC, tS, tC, tS, sl, li, so2, tv2, it + 1, le', of', se', ch, rd', ?_, ?_, c1, by omega, by omega, fun hb => ⟨rfl, rfl, hC, hS, rfl, r7, ⟨r8, g2, g3, g4⟩, by omega, c5 hb⟩⟩
      · exact (ck_pos (by omega)).trans ((if_pos k1).trans ((bd_of r1).trans ((bd_of (a := (b2, ((u + 1 : Nat) : Int) - 1)) ((ck_pos (by omega)).trans ((if_neg b0).trans c2))).trans (ck_pos c1))))
      · exact (bd_of (a := (b, ((atS z tx u : Nat) : Int), ((stS z tx (u - 1) : Nat) : Int), so', tv', tC, tS, rd')) ((ck_pos (by omega)).trans ((if_pos (by omega)).trans ((bd_of r2).trans rfl)))).trans ((ck_pos (by omega)).trans ((if_neg b0).trans ((bd_of c3).trans ((bd_of c4).trans (ck_pos c1)))))
  · by_cases k2 : kdS z tx (t - 1) = 2
    · obtain ⟨b, u, toc, tom, so', tv', ch', rd', r1, r2, r3, r4', r5, r6⟩ := p_chances hn hT hA hr g1.1 (t := t) (by omega) h1 hC (kmS (kdS z tx (t - 1))) tv
      by_cases b0 : b = 0
      · refine ⟨0, u, k, toc, tS, tom, tS, sl, li, so', tv', it, le, of_, se, ch', rd', ?_, ?_, Or.inl rfl, by omega, by omega, fun x => absurd x (by decide)⟩
        · exact (ck_pos (by omega)).trans ((if_neg k1).trans ((if_pos k2).trans ((bd_of r1).trans ((bd_of (a := ((0 : Int), (u : Int) - 1)) ((ck_pos (by omega)).trans (if_pos b0))).trans (ck_pos (show (0 : Int) = 0 ∨ (0 : Int) = 1 by decide))))))
        · exact (bd_of (a := (b, ((atS z tx u : Nat) : Int), ((stS z tx (u - 1) : Nat) : Int), so', tv', tom, tS, rd')) ((ck_pos (by omega)).trans ((if_neg (by omega)).trans ((ck_pos (by omega)).trans ((if_pos (by omega)).trans ((bd_of r2).trans rfl)))))).trans ((ck_pos (by omega)).trans (if_pos b0))
      · obtain ⟨b2, so2, tv2, c1, c2, c3, c4, c5⟩ := semi u tv' r4' (by omega)
        obtain ⟨r7, r8, r9, r10⟩ := r6 (by omega)
        refine ⟨b2, u + 1, k, toc, tS, tom, tS, sl, li, so2, tv2, it + 1, le, of_, se, ch', rd', ?_, ?_, c1, by omega, by omega, fun hb => ⟨by omega, rfl, Or.inr r8, hS, rfl, r9, ⟨g1, r10, g3, g4⟩, by omega, c5 hb⟩⟩
        · exact (ck_pos (by omega)).trans ((if_neg k1).trans ((if_pos k2).trans ((bd_of r1).trans ((bd_of (a := (b2, ((u + 1 : Nat) : Int) - 1)) ((ck_pos (by omega)).trans ((if_neg b0).trans c2))).trans (ck_pos c1)))))
        · exact (bd_of (a := (b, ((atS z tx u : Nat) : Int), ((stS z tx (u - 1) : Nat) : Int), so', tv', tom, tS, rd')) ((ck_pos (by omega)).trans ((if_neg (by omega)).trans ((ck_pos (by omega)).trans ((if_pos (by omega)).trans ((bd_of r2).trans rfl)))))).trans ((ck_pos (by omega)).trans ((if_neg b0).trans ((bd_of c3).trans ((bd_of c4).trans (ck_pos c1)))))
    · by_cases k3 : kdS z tx (t - 1) = 3
      · obtain ⟨b, u, toc, tom, sl', li', so', tv', rd', r1, r2, r3, r4', r5, r6⟩ := p_sums hn hT hA hr g1.1 (t := t) (by omega) h1 hS (kmS (kdS z tx (t - 1))) tv
        by_cases b0 : b = 0
        · refine ⟨0, u, k, tC, toc, tC, tom, sl', li', so', tv', it, le, of_, se, ch, rd', ?_, ?_, Or.inl rfl, by omega, by omega, fun x => absurd x (by decide)⟩
          · exact (ck_pos (by omega)).trans ((if_neg k1).trans ((if_neg k2).trans ((if_pos k3).trans ((bd_of r1).trans ((bd_of (a := ((0 : Int), (u : Int) - 1)) ((ck_pos (by omega)).trans (if_pos b0))).trans (ck_pos (show (0 : Int) = 0 ∨ (0 : Int) = 1 by decide)))))))
          · exact (bd_of (a := ((0 : Int), ((atS z tx u : Nat) : Int), ((stS z tx (u - 1) : Nat) : Int), so', tv', tC, tom, rd')) ((ck_pos (by omega)).trans ((if_neg (by omega)).trans ((ck_pos (by omega)).trans ((if_neg (by omega)).trans ((ck_pos (by omega)).trans ((if_pos (by omega)).trans ((bd_of r2).trans ((ck_pos (by omega)).trans (if_pos b0)))))))))).trans ((ck_pos (show r4 (0 : Int) by decide)).trans (if_pos rfl))
        · obtain ⟨b2, so2, tv2, c1, c2, c3, c4, c5⟩ := semi u tv' r4' (by omega)
          obtain ⟨r7, r8, r9, r10, r11⟩ := r6 (by omega)
          refine ⟨b2, u + 1, k, tC, toc, tC, tom, sl', li', so2, tv2, it + 1, le, of_, se, ch, rd', ?_, ?_, c1, by omega, by omega, fun hb => ⟨rfl, by omega, hC, Or.inr r8, rfl, r9, ⟨g1, g2, r10, r11⟩, by omega, c5 hb⟩⟩
          · exact (ck_pos (by omega)).trans ((if_neg k1).trans ((if_neg k2).trans ((if_pos k3).trans ((bd_of r1).trans ((bd_of (a := (b2, ((u + 1 : Nat) : Int) - 1)) ((ck_pos (by omega)).trans ((if_neg b0).trans c2))).trans (ck_pos c1))))))
          · exact (bd_of (a := ((1 : Int), ((atS z tx u : Nat) : Int), ((stS z tx (u - 1) : Nat) : Int), so', tv', tC, tom, rd')) ((ck_pos (by omega)).trans ((if_neg (by omega)).trans ((ck_pos (by omega)).trans ((if_neg (by omega)).trans ((ck_pos (by omega)).trans ((if_pos (by omega)).trans ((bd_of r2).trans ((ck_pos (by omega)).trans (if_neg b0)))))))))).trans ((ck_pos (show r4 (1 : Int) by decide)).trans ((if_neg (show ¬ (1 : Int) = 0 by decide)).trans ((bd_of c3).trans ((bd_of c4).trans (ck_pos c1)))))
      · refine ⟨0, t, k, tC, tS, tC, tS, sl, li, kmS (kdS z tx (t - 1)), tv, it, le, of_, se, ch, rd, ?_, ?_, Or.inl rfl, by omega, by omega, fun x => absurd x (by decide)⟩
        · exact (ck_pos (by omega)).trans ((if_neg k1).trans ((if_neg k2).trans (if_neg k3)))
        · exact (bd_of (a := ((0 : Int), ((atS z tx t : Nat) : Int), ((stS z tx (t - 1) : Nat) : Int), kmS (kdS z tx (t - 1)), tv, tC, tS, rd)) ((ck_pos (by omega)).trans ((if_neg (by omega)).trans ((ck_pos (by omega)).trans ((if_neg (by omega)).trans ((ck_pos (by omega)).trans (if_neg (by omega)))))))).trans ((ck_pos (show r4 (0 : Int) by decide)).trans (if_pos rfl))
