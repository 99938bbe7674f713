/-! a text is told; images -/
theorem p_takeRead {n : Nat} (hn : 1000 ≤ n) (rd now : Nat → Int) : F_X12_takeRead n rd now = some (ov rd now 17) := by
  unfold F_X12_takeRead
  have h : lp_ (fun (q : Int × (Nat → Int)) => F_X12_takeRead_L2 n rd q.1 q.2) n (0, ov rd now 0) = some (ov rd now 17) := by
    refine lp_for (fun i => ((i : Int), ov rd now i)) 17 (by omega) (fun i hi => ?_) ((ck_pos (show r4 (17 : Int) by decide)).trans (if_neg (show ¬ (17 : Int) < 17 by decide)))
    have t1 : ((i : Int)).toNat = i := by omega
    show F_X12_takeRead_L2 n rd (i : Int) (ov rd now i) = some (.inl (((i + 1 : Nat) : Int), ov rd now (i + 1)))
    rw [← ov_up, show ((i + 1 : Nat) : Int) = (i : Int) + 1 by omega]
    refine (ck_pos (by omega)).trans ((if_pos (by omega)).trans ((ck_pos (by omega)).trans ((ck_pos (by omega)).trans ?_)))
    rw [t1]
  rw [ov_0] at h
  exact (bd_of h).trans rfl
theorem ov_out {f g : Nat → Int} {i j : Nat} (h : ¬ j < i) : ov f g i j = g j := if_neg h
theorem rsI_tell {x : TSh} {now rd : Nat → Int} (hx : rsI x now) {k' : Nat} {le' of' se' ch' : Nat → Int} {sl' li' : Int} (h1 : rdI k' le' of' se' ch' sl' li' rd) (h2 : gdP k' le' of' se' ch' sl' li') : rsI (((k' : Int), cp_ le' x.1.2.1 0 0 3, cp_ of' x.1.2.2.1 0 0 3, cp_ se' x.1.2.2.2.1 0 0 3, cp_ ch' x.1.2.2.2.2.1 0 0 5, sl', li'), x.2) (ov rd now 17) := by
  obtain ⟨k, z, f1, f2, hr, hg, h17, ho, c1, c2⟩ := hx
  have hz := ho.1
  have q : rsI (((k' : Int), le', of', se', ch', sl', li'), x.2) (ov rd now 17) := ⟨k', z, rfl, f2, rdI_b h2.1.1 (fun j hj => ov_in hj) h1, h2, (ov_out (by omega)).trans h17, ho, fun i hi => (ov_out (by omega)).trans (c1 i hi), fun i hi => (ov_out (by omega)).trans (c2 i hi)⟩
  exact rsI_x (x := (((k' : Int), le', of', se', ch', sl', li'), x.2)) rfl (fun r hr => cp_in hr) (fun r hr => cp_in hr) (fun r hr => cp_in hr) (fun r hr => cp_in hr) rfl rfl rfl (fun r hr => rfl) (fun r hr => rfl) q
theorem q_tells {n : Nat} (hn : 1000 ≤ n) {u : Nat} (hu : u < 1000000) {z : Int} {tx : Nat → Int} {lm : Int} {tm : Nat → Int} (hT : txI z tx lm tm) (st va ki ch of_ le se : Nat → Int) (tv : Int) (rd : Nat → Int) {x : TSh} {now : Nat → Int} {nx sz : Int} {hs : Nat → TSh} {de : Int} {pa me pk si up dn : Nat → Int} {kn ss fi : Int} (h : coI u x now nx sz hs de pa me pk si up dn kn ss fi) : ∃ (r : Int) (x' : TSh) (now' : Nat → Int) (nx' sz' : Int) (hs' : Nat → TSh) (de' : Int) (pa' me' pk' si' up' dn' : Nat → Int) (kn' z' lm' tk tC tS pl N k' sl' li' : Int) (st' va' ki' ch' of' le' se' : Nat → Int) (b1 b2 b3 b4 b5 b6 b7 : Int) (rd' : Nat → Int), F_X11_tells n z tx st va ki ch of_ le se nx sz hs x.1.1 x.1.2.2.2.2.2.1 x.1.2.2.2.2.2.2 x.1.2.1 x.1.2.2.1 x.1.2.2.2.1 x.1.2.2.2.2.1 x.2.1 x.2.2.1 x.2.2.2 me pk si up dn kn = some (r, tk, tC, tS, z', pl, N, st', va', ki', k', sl', li', ch', of', le', se', nx', sz', hs', x'.1.1, x'.1.2.2.2.2.2.1, x'.1.2.2.2.2.2.2, x'.1.2.1, x'.1.2.2.1, x'.1.2.2.2.1, x'.1.2.2.2.2.1, me', pk', si', up', dn', kn') ∧ F_X12_tells n de lm tv rd tm pa now = some (r, de', lm', b1, b2, b3, b4, b5, b6, b7, rd', pa', now') ∧ x'.2 = x.2 ∧ txI z' tx lm' tm ∧ coI (u + 1) x' now' nx' sz' hs' de' pa' me' pk' si' up' dn' kn' ss fi := by
  have hco := h
  have hT0 := hT
  obtain ⟨hx, hh, hw, hg⟩ := h
  obtain ⟨zz, rfl, rfl, hok, rfl⟩ := hT
  rcases p_read hn hok st va ki ch of_ le se tv rd with ⟨i, k', tk, tC, tS, pl, N, sl', li', a1, a2, a3, a4, mC, mS, st', va', ki', ch', of', le', se', rd', r1, r2, r3, r4', r5⟩ | ⟨f, k', tk, tC, tS, pl, N, sl', li', a1, a2, a3, a4, a5, mC, mS, st', va', ki', ch', of', le', se', rd', r1, r2, r3⟩
  · obtain ⟨nx', sz', hs', de', pa', n1, n2, n3⟩ := p_note hn hu hx hh
    have hx2 := rsI_tell hx r4' r5
    obtain ⟨w1, w2, w3, w4, w5, g1, g2⟩ := p_goC hn hx2 me pk si up dn
    have t := p_takeRead hn rd' now
    refine ⟨(i : Int), (((k' : Int), cp_ le' x.1.2.1 0 0 3, cp_ of' x.1.2.2.1 0 0 3, cp_ se' x.1.2.2.2.1 0 0 3, cp_ ch' x.1.2.2.2.2.1 0 0 5, sl', li'), x.2), ov rd' now 17, nx', sz', hs', de', pa', w1, w2, w3, w4, w5, 0, 0, 0, tk, tC, tS, pl, N, (k' : Int), sl', li', st', va', ki', ch', of', le', se', _, _, _, _, _, _, _, rd', (bd_of r1).trans ((ck_pos (by omega)).trans ((if_neg (by omega)).trans ((bd_of n1).trans ((bd_of g1).trans rfl)))), (bd_of r2).trans ((ck_pos (by omega)).trans ((if_pos rfl).trans ((bd_of n2).trans ((bd_of t).trans rfl)))), rfl, ⟨0, rfl, rfl, ⟨by omega, fun i hi => by omega⟩, rfl⟩, hx2, n3, g2, Or.inl rfl⟩
  · exact ⟨-10 - (f : Int), x, now, nx, sz, hs, de, pa, me, pk, si, up, dn, kn, (zz : Int), (zz : Int), tk, tC, tS, pl, N, k', sl', li', st', va', ki', ch', of', le', se', _, _, _, _, _, _, _, rd', (bd_of r1).trans ((ck_pos (by omega)).trans ((if_pos (by omega)).trans rfl)), (bd_of r2).trans ((ck_pos (by omega)).trans ((if_neg (by omega)).trans rfl)), rfl, hT0, hco.up⟩
def imI (im : Nat → TSh) (kp : Nat → Int) (ia ka : Nat → Int) : Prop := ∀ i, i < 2 → ka i = kp i ∧ (kp i = 0 ∨ kp i = 1) ∧ (kp i = 1 → rsI (im i) (fun j => ia (98 * i + j)))
theorem q_keep {n : Nat} (hn : 1000 ≤ n) {x : TSh} {now : Nat → Int} (hx : rsI x now) {im : Nat → TSh} {kp ia ka : Nat → Int} (h : imI im kp ia ka) {y : Int} (hy : r4 y) : ∃ (r : Int) (im' : Nat → TSh) (kp' ia' ka' : Nat → Int), F_X11_keep n im x.1.1 x.1.2.2.2.2.2.1 x.1.2.2.2.2.2.2 x.1.2.1 x.1.2.2.1 x.1.2.2.2.1 x.1.2.2.2.2.1 x.2.1 x.2.2.1 x.2.2.2 kp y = some (r, im', kp') ∧ F_X12_keep n now ia ka y = some (r, ia', ka') ∧ imI im' kp' ia' ka' := by
  have e := p_in (n := n) hy (a := 0) (b := 1) ⟨by omega, by omega⟩ ⟨by omega, by omega⟩
  by_cases h0 : y < 0
  · rw [if_neg (by omega)] at e
    exact ⟨-1, _, _, _, _, (ck_pos hy).trans (if_pos h0), (bd_of e).trans ((ck_pos (by omega)).trans (if_pos rfl)), h⟩
  by_cases h2 : y < 2
  · rw [if_pos (by omega)] at e
    obtain ⟨i, rfl⟩ : ∃ i : Nat, y = (i : Int) := ⟨y.toNat, by omega⟩
    have tp : ((i : Int)).toNat = i := by omega
    have hx' := hx
    obtain ⟨k, z, f1, f2, hr, hgd, h17, ho, c1, c2⟩ := hx'
    have b := p_bring hn (N0 := 98) (N2 := 196) (a := 0) (c := 98 * i) (by omega) (by omega) now ia
    refine ⟨x.2.1, up_ im i (tk_ (im i) x), up_ kp i 1, cp_ now ia 0 (98 * i) 98, up_ ka i 1, (ck_pos hy).trans ((if_neg h0).trans ((ck_pos hy).trans ((if_pos h2).trans ((ck_pos (by omega)).trans ((ck_pos (by omega)).trans ?_))))), ?_, fun j hj => ?_⟩
    · rw [tp]
    · refine (bd_of e).trans ((ck_pos (by omega)).trans ((if_neg (by omega)).trans ?_))
      rw [show (98 : Int) * (i : Int) = ((98 * i : Nat) : Int) by omega]
      refine (bd_of b).trans ((ck_pos (by omega)).trans ?_)
      rw [tp, f2, h17]
    · by_cases ej : j = i
      · subst ej
        rw [up_at, up_at, up_at]
        refine ⟨rfl, Or.inr rfl, fun _ => ?_⟩
        exact rsI_b (fun q hq => by rw [cp_to hq, Nat.zero_add]) (rsI_tk hx)
      · rw [up_off ej, up_off ej, up_off ej]
        obtain ⟨g1, g2, g3⟩ := h j hj
        exact ⟨g1, g2, fun q => rsI_b (fun l hl => by rw [cp_off (by omega)]) (g3 q)⟩
  · rw [if_neg (by omega)] at e
    exact ⟨-1, _, _, _, _, (ck_pos hy).trans ((if_neg h0).trans ((ck_pos hy).trans (if_neg h2))), (bd_of e).trans ((ck_pos (by omega)).trans (if_pos rfl)), h⟩
theorem q_back {n : Nat} (hn : 1000 ≤ n) {u : Nat} (hu : u < 1000000) {x : TSh} {now : Nat → Int} {nx sz : Int} {hs : Nat → TSh} {de : Int} {pa me pk si up dn : Nat → Int} {kn ss fi : Int} (h : coI u x now nx sz hs de pa me pk si up dn kn ss fi) {im : Nat → TSh} {kp ia ka : Nat → Int} (hi : imI im kp ia ka) {y : Int} (hy : r4 y) : ∃ (r : Int) (x' : TSh) (now' : Nat → Int) (sz' de' : Int) (me' pk' si' up' dn' : Nat → Int) (kn' : Int), F_X11_back n kp im x.1.1 x.1.2.2.2.2.2.1 x.1.2.2.2.2.2.2 x.1.2.1 x.1.2.2.1 x.1.2.2.2.1 x.1.2.2.2.2.1 x.2.1 x.2.2.1 x.2.2.2 sz me pk si up dn kn y = some (r, x'.1.1, x'.1.2.2.2.2.2.1, x'.1.2.2.2.2.2.2, x'.1.2.1, x'.1.2.2.1, x'.1.2.2.2.1, x'.1.2.2.2.2.1, x'.2.1, x'.2.2.1, x'.2.2.2, sz', me', pk', si', up', dn', kn') ∧ F_X12_back n de ka ia now y = some (r, de', now') ∧ coI (u + 1) x' now' nx sz' hs de' pa me' pk' si' up' dn' kn' ss fi := by
  have hco := h
  obtain ⟨hx, hh, hw, hg⟩ := h
  have e := p_in (n := n) hy (a := 0) (b := 1) ⟨by omega, by omega⟩ ⟨by omega, by omega⟩
  by_cases h0 : y < 0
  · rw [if_neg (by omega)] at e
    exact ⟨-1, x, _, _, _, _, _, _, _, _, _, (ck_pos hy).trans (if_pos h0), (bd_of e).trans ((ck_pos (by omega)).trans (if_pos rfl)), hco.up⟩
  by_cases h2 : y < 2
  · rw [if_pos (by omega)] at e
    obtain ⟨i, rfl⟩ : ∃ i : Nat, y = (i : Int) := ⟨y.toNat, by omega⟩
    have tp : ((i : Int)).toNat = i := by omega
    obtain ⟨g1, g2, g3⟩ := hi i (by omega)
    have hE : kp ((i : Int)).toNat = kp i := by rw [tp]
    have hR : r4 (kp ((i : Int)).toNat) := by rw [hE]; omega
    have mE : ka ((i : Int)).toNat = kp i := by rw [tp, g1]
    have mR : r4 (ka ((i : Int)).toNat) := by rw [mE]; omega
    by_cases hk : kp i = 0
    · refine ⟨-2, x, _, _, _, _, _, _, _, _, _, (ck_pos hy).trans ((if_neg h0).trans ((ck_pos hy).trans ((if_pos h2).trans ((ck_pos (by omega)).trans ((ck_pos hR).trans (if_pos (hE.trans hk))))))), (bd_of e).trans ((ck_pos (by omega)).trans ((if_neg (by omega)).trans ((ck_pos (by omega)).trans ((ck_pos mR).trans (if_pos (mE.trans hk)))))), hco.up⟩
    · have hx1 := g3 (by omega)
      have hx2 : rsI (tk_ x (im i)) (cp_ ia now (98 * i) 0 98) := rsI_b (fun q hq => by rw [cp_in' hq]) (rsI_tk hx1)
      obtain ⟨a1, a2, a3, a4, a5, c1, c2⟩ := p_goC hn hx2 me pk si up dn
      have b := p_bring hn (N0 := 196) (N2 := 98) (a := 98 * i) (c := 0) (by omega) (by omega) ia now
      obtain ⟨d, m, d1, d2, d3, d4, d5, -⟩ := hh
      have hx3 := hx2
      obtain ⟨k, z, f1, f2, hr, hgd, h17, ho, -, -⟩ := hx3
      refine ⟨(im i).2.1, tk_ x (im i), cp_ ia now (98 * i) 0 98, 0, 0, a1, a2, a3, a4, a5, 0, (ck_pos hy).trans ((if_neg h0).trans ((ck_pos hy).trans ((if_pos h2).trans ((ck_pos (by omega)).trans ((ck_pos hR).trans ((if_neg (fun q => hk (hE.symm.trans q))).trans ((ck_pos (by omega)).trans ?_))))))), ?_, hx2, ⟨0, m, rfl, rfl, ⟨d3.1, by omega, by omega⟩, by omega, d5, fun j hj => by omega⟩, c2, Or.inl rfl⟩
      · rw [tp]
        exact (bd_of c1).trans rfl
      · refine (bd_of e).trans ((ck_pos (by omega)).trans ((if_neg (by omega)).trans ((ck_pos (by omega)).trans ((ck_pos mR).trans ((if_neg (fun q => hk (mE.symm.trans q))).trans ?_)))))
        rw [show (98 : Int) * (i : Int) = ((98 * i : Nat) : Int) by omega]
        refine (bd_of b).trans ?_
        rw [h17]
        have : (tk_ x (im i)).2.1 = (im i).2.1 := rfl
        rw [← this, f2]
  · rw [if_neg (by omega)] at e
    exact ⟨-1, x, _, _, _, _, _, _, _, _, _, (ck_pos hy).trans ((if_neg h0).trans ((ck_pos hy).trans (if_neg h2))), (bd_of e).trans ((ck_pos (by omega)).trans (if_pos rfl)), hco.up⟩
