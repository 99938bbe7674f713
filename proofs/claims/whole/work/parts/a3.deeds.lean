/-! deeds, alike on both sides -/
def txI (z : Int) (tx : Nat → Int) (lm : Int) (tm : Nat → Int) : Prop := ∃ k : Nat, z = (k : Int) ∧ lm = (k : Int) ∧ okT k tx ∧ tm = tx
def sgI (x : TSh) (me : Nat → Int) (kn ss fi : Int) : Prop := kn = 0 ∨ kn = 1 ∧ ∃ z : Nat, x.2.1 = (z : Int) ∧ ss = sm_ (fun o => sm_ (fun s => sm_ (fun m => fI_ (ftS ((o + 1 : Nat) : Int) ((s + 1 : Nat) : Int) x.2.2.2 me z (m + 1))) (o + 1)) 31) 4 ∧ mnF (fun o m s => vr_ o m s ∧ ftS o s x.2.2.2 me z m) fi
def coI (u : Nat) (x : TSh) (now : Nat → Int) (nx sz : Int) (hs : Nat → TSh) (de : Int) (pa me pk si up dn : Nat → Int) (kn ss fi : Int) : Prop := rsI x now ∧ hiI u nx sz hs de pa ∧ wkI x me pk si up dn ∧ sgI x me kn ss fi
theorem coI.mono {u v : Nat} (huv : u ≤ v) {x : TSh} {now : Nat → Int} {nx sz : Int} {hs : Nat → TSh} {de : Int} {pa me pk si up dn : Nat → Int} {kn ss fi : Int} (h : coI u x now nx sz hs de pa me pk si up dn kn ss fi) : coI v x now nx sz hs de pa me pk si up dn kn ss fi := ⟨h.1, h.2.1.mono huv, h.2.2⟩
theorem coI.up {u : Nat} {x : TSh} {now : Nat → Int} {nx sz : Int} {hs : Nat → TSh} {de : Int} {pa me pk si up dn : Nat → Int} {kn ss fi : Int} (h : coI u x now nx sz hs de pa me pk si up dn kn ss fi) : coI (u + 1) x now nx sz hs de pa me pk si up dn kn ss fi := h.mono (by omega)
theorem q_type {n : Nat} {z : Int} {tx : Nat → Int} {lm : Int} {tm : Nat → Int} (h : txI z tx lm tm) {y : Int} (hy : r4 y) : ∃ (r z' : Int) (tx' : Nat → Int) (lm' : Int) (tm' : Nat → Int), F_X11_type n z tx y = some (r, z', tx') ∧ F_X12_type n lm tm y = some (r, lm', tm') ∧ txI z' tx' lm' tm' := by
  obtain ⟨k, rfl, rfl, hT, rfl⟩ := h
  have e := p_in (n := n) hy (a := 0) (b := 255) ⟨by omega, by omega⟩ ⟨by omega, by omega⟩
  by_cases h0 : y < 0
  · rw [if_neg (by omega)] at e
    exact ⟨-1, _, _, _, _, (ck_pos hy).trans (if_pos h0), (bd_of e).trans ((ck_pos (by omega)).trans (if_pos rfl)), k, rfl, rfl, hT, rfl⟩
  · by_cases h1 : 255 < y
    · rw [if_neg (by omega)] at e
      exact ⟨-1, _, _, _, _, (ck_pos hy).trans ((if_neg h0).trans ((ck_pos hy).trans (if_pos h1))), (bd_of e).trans ((ck_pos (by omega)).trans (if_pos rfl)), k, rfl, rfl, hT, rfl⟩
    · rw [if_pos (by omega)] at e
      have hk := hT.1
      by_cases h2 : k < 120
      · have tk : ((k : Int)).toNat = k := by omega
        have ad : F_X9_add n (k : Int) tm y = some ((k : Int) + 1, up_ tm k y) := by
          refine (bd_of ((ck_pos (by omega)).trans ((if_pos (by omega)).trans (ck_pos (by omega))))).trans ?_
          rw [tk]
        refine ⟨(k : Int) + 1, (k : Int) + 1, up_ tm k y, (k : Int) + 1, up_ tm k y, (ck_pos hy).trans ((if_neg h0).trans ((ck_pos hy).trans ((if_neg h1).trans ((ck_pos (by omega)).trans ((if_pos (by omega)).trans ((bd_of ad).trans rfl)))))), ?_, k + 1, by omega, by omega, ⟨by omega, fun i hi => ?_⟩, rfl⟩
        · refine (bd_of e).trans ((ck_pos (by omega)).trans ((if_neg (by omega)).trans ((ck_pos (by omega)).trans ((if_neg (by omega)).trans ((ck_pos (by omega)).trans ?_)))))
          rw [tk]
        · by_cases ei : i = k
          · rw [ei, up_at]; omega
          · rw [up_off ei]; exact hT.2 i (by omega)
      · exact ⟨-3, _, _, _, _, (ck_pos hy).trans ((if_neg h0).trans ((ck_pos hy).trans ((if_neg h1).trans ((ck_pos (by omega)).trans (if_neg (by omega)))))), (bd_of e).trans ((ck_pos (by omega)).trans ((if_neg (by omega)).trans ((ck_pos (by omega)).trans (if_pos (by omega))))), k, rfl, rfl, hT, rfl⟩
theorem q_clear {n : Nat} {z : Int} {tx : Nat → Int} {lm : Int} {tm : Nat → Int} (h : txI z tx lm tm) : F_X11_clear n z = some (z, 0) ∧ F_X12_clear n lm = some (z, 0) ∧ txI 0 tx 0 tm := by
  obtain ⟨k, rfl, rfl, hT, rfl⟩ := h
  exact ⟨rfl, rfl, 0, rfl, rfl, ⟨by omega, fun i hi => by omega⟩, rfl⟩
theorem q_rule {n : Nat} {x : TSh} {now : Nat → Int} (hx : rsI x now) {a b : Int} (ha : r4 a) (hb : r4 b) : ∃ r : Int, F_X11_rule n x.1.1 x.1.2.1 x.1.2.2.1 x.1.2.2.2.1 a b = some r ∧ F_X12_rule n now a b = some r := by
  obtain ⟨⟨k0, le, of_, se, ch, sl, li⟩, z0, ti, sg⟩ := x
  obtain ⟨k, z, e1, e2, hr, hg, h17, ho, -, hs⟩ := hx
  dsimp only at e1 e2 hr hg ho hs ⊢
  subst e1 e2
  obtain ⟨d0, d1, d2, d3, d4⟩ := hr
  have hk := hg.1.1
  have e := p_in (n := n) ha (a := 0) (b := now 0 - 1) ⟨by omega, by omega⟩ ⟨by omega, by omega⟩
  by_cases h0 : a < 0
  · rw [if_neg (by omega)] at e
    exact ⟨-1, (ck_pos ha).trans (if_pos h0), (bd_of e).trans (bd_of ((ck_pos (by omega)).trans (if_pos rfl)))⟩
  · by_cases h1 : a < (k : Int)
    · rw [if_pos (by omega)] at e
      obtain ⟨i, rfl⟩ : ∃ i : Nat, a = (i : Int) := ⟨a.toNat, by omega⟩
      have ti' : ((i : Int)).toNat = i := by omega
      have f := p_in (n := n) hb (a := 0) (b := 2) ⟨by omega, by omega⟩ ⟨by omega, by omega⟩
      have d := d1 i (by omega)
      unfold leM ofM seM at d
      by_cases b0 : b = 0
      · subst b0
        rw [if_pos (by omega)] at f
        refine ⟨le i, (ck_pos ha).trans ((if_neg h0).trans ((ck_pos (by omega)).trans ((if_pos h1).trans ((ck_pos ha).trans ((if_pos (by omega)).trans ((ck_pos hb).trans ((if_pos rfl).trans ((ck_pos (by omega)).trans ?_)))))))), (bd_of e).trans (bd_of ((ck_pos (by omega)).trans ((if_neg (by omega)).trans ((bd_of f).trans ((ck_pos (by omega)).trans ((if_neg (by omega)).trans ((ck_pos (by omega)).trans ?_)))))))⟩
        · rw [ti']
        · rw [show (1 + 3 * (i : Int) + 0).toNat = 1 + 3 * i by omega, d.1]
      · by_cases b1 : b = 1
        · subst b1
          rw [if_pos (by omega)] at f
          refine ⟨of_ i, (ck_pos ha).trans ((if_neg h0).trans ((ck_pos (by omega)).trans ((if_pos h1).trans ((ck_pos ha).trans ((if_pos (by omega)).trans ((ck_pos hb).trans ((if_neg b0).trans ((if_pos rfl).trans ((ck_pos (by omega)).trans ?_))))))))), (bd_of e).trans (bd_of ((ck_pos (by omega)).trans ((if_neg (by omega)).trans ((bd_of f).trans ((ck_pos (by omega)).trans ((if_neg (by omega)).trans ((ck_pos (by omega)).trans ?_)))))))⟩
          · rw [ti']
          · rw [show (1 + 3 * (i : Int) + 1).toNat = 2 + 3 * i by omega, d.2.1]
        · by_cases b2 : b = 2
          · subst b2
            rw [if_pos (by omega)] at f
            refine ⟨se i, (ck_pos ha).trans ((if_neg h0).trans ((ck_pos (by omega)).trans ((if_pos h1).trans ((ck_pos ha).trans ((if_pos (by omega)).trans ((ck_pos hb).trans ((if_neg b0).trans ((if_neg b1).trans ((if_pos rfl).trans ((ck_pos (by omega)).trans ?_)))))))))), (bd_of e).trans (bd_of ((ck_pos (by omega)).trans ((if_neg (by omega)).trans ((bd_of f).trans ((ck_pos (by omega)).trans ((if_neg (by omega)).trans ((ck_pos (by omega)).trans ?_)))))))⟩
            · rw [ti']
            · rw [show (1 + 3 * (i : Int) + 2).toNat = 3 + 3 * i by omega, d.2.2]
          · rw [if_neg (by omega)] at f
            exact ⟨-1, (ck_pos ha).trans ((if_neg h0).trans ((ck_pos (by omega)).trans ((if_pos h1).trans ((ck_pos ha).trans ((if_pos (by omega)).trans ((ck_pos hb).trans ((if_neg b0).trans ((if_neg b1).trans (if_neg b2))))))))), (bd_of e).trans (bd_of ((ck_pos (by omega)).trans ((if_neg (by omega)).trans ((bd_of f).trans ((ck_pos (by omega)).trans (if_pos rfl))))))⟩
    · rw [if_neg (by omega)] at e
      exact ⟨-1, (ck_pos ha).trans ((if_neg h0).trans ((ck_pos (by omega)).trans (if_neg h1))), (bd_of e).trans (bd_of ((ck_pos (by omega)).trans (if_pos rfl)))⟩
theorem q_chance {n : Nat} {x : TSh} {now : Nat → Int} (hx : rsI x now) {a : Int} (ha : r4 a) : ∃ r : Int, F_X11_chance n x.1.2.2.2.2.1 a = some r ∧ F_X12_chance n now a = some r := by
  obtain ⟨⟨k0, le, of_, se, ch, sl, li⟩, z0, ti, sg⟩ := x
  obtain ⟨k, z, e1, e2, hr, hg, h17, ho, -, hs⟩ := hx
  dsimp only at e1 e2 hr hg ho hs ⊢
  subst e1 e2
  obtain ⟨d0, d1, d2, d3, d4⟩ := hr
  have c := p_isSignC (n := n) ha
  have m := p_isSignM (n := n) ha
  by_cases h : 0 ≤ a ∧ a < 5
  · rw [if_pos h] at c m
    obtain ⟨i, rfl⟩ : ∃ i : Nat, a = (i : Int) := ⟨a.toNat, by omega⟩
    have ti' : ((i : Int)).toNat = i := by omega
    refine ⟨ch i, (bd_of c).trans (bd_of ((ck_pos (by omega)).trans ((if_neg (by omega)).trans ((ck_pos (by omega)).trans ?_)))), (bd_of m).trans (bd_of ((ck_pos (by omega)).trans ((if_neg (by omega)).trans ((ck_pos (by omega)).trans ?_))))⟩
    · rw [ti']
    · rw [show (10 + (i : Int)).toNat = 10 + i by omega, d2 i (by omega)]
  · rw [if_neg h] at c m
    exact ⟨-1, (bd_of c).trans (bd_of ((ck_pos (by omega)).trans (if_pos rfl))), (bd_of m).trans (bd_of ((ck_pos (by omega)).trans (if_pos rfl)))⟩
