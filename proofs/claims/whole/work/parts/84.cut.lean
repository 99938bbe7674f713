theorem rnS_stop {q : Int → Bool} {tx : Nat → Int} : ∀ d i z, i + d = z → rnS q tx d i < z → q (tx (rnS q tx d i)) = false := by
  intro d
  induction d with
  | zero => intro i z h1 h2; have : rnS q tx 0 i = i := rfl; omega
  | succ d ih =>
    intro i z h1 h2
    have e : rnS q tx (d + 1) i = if q (tx i) then rnS q tx d (i + 1) else i := rfl
    by_cases c : q (tx i) = true
    · rw [if_pos c] at e
      rw [e] at h2 ⊢
      exact ih (i + 1) z (by omega) h2
    · rw [if_neg c] at e
      rw [e]
      exact Bool.eq_false_iff.mpr c
theorem p_scan {n : Nat} (hn : 1000 ≤ n) {z : Nat} {tx : Nat → Int} (h : okT z tx) {i : Nat} (hi : i ≤ z) (tv : Int) : (rnS qS tx (z - i) i < z ∧ ∃ tv' : Int, F_X12_scan n z i tv tx = some (((tkS z tx (rnS qS tx (z - i) i)).1 : Int), ((rnS qS tx (z - i) i : Nat) : Int), kmS (tkS z tx (rnS qS tx (z - i) i)).2.1, tv') ∧ ((tkS z tx (rnS qS tx (z - i) i)).2.1 = 4 → tv' = (tkS z tx (rnS qS tx (z - i) i)).2.2)) ∨ (rnS qS tx (z - i) i = z ∧ F_X12_scan n z i tv tx = some ((z : Int), (z : Int), 2, tv)) := by
  have hz := h.1
  have l0 : lp_ (fun (q : Int) => F_X12_scan_L0 n z tx q) n (i : Int) = some ((rnS qS tx (z - i) i : Nat) : Int) := by
    refine lp_rn (z := z) (fun j hj => ?_) ((ck_pos (by omega)).trans (if_neg (by omega))) (z - i) i n (by omega) (by omega)
    have tj : ((j : Int)).toNat = j := by omega
    have b := h.2 j hj
    refine (ck_pos (by omega)).trans ((if_pos (by omega)).trans ((ck_pos (by omega)).trans ?_))
    rw [tj]
    refine (ck_pos (by omega)).trans ?_
    by_cases e : tx j = 32
    · rw [if_pos e, show qS (tx j) = true from decide_eq_true e, if_pos rfl]
    · rw [if_neg e, show qS (tx j) = false from decide_eq_false e, if_neg (by decide)]
  have sb := rnS_b qS tx (z - i) i
  generalize rnS qS tx (z - i) i = s at l0 sb ⊢
  have ts : ((s : Int)).toNat = s := by omega
  unfold F_X12_scan
  by_cases hs : s < z
  · left
    refine ⟨hs, ?_⟩
    have b := h.2 s hs
    have fg := p_isFigureM (n := n) (x := tx s) (by omega)
    have sm := p_isLetterM (n := n) (x := tx s) (by omega)
    have o5 : (ck (r4 (s : Int) ∧ r4 (z : Int)) (if (s : Int) < (z : Int) then ck (ix_ (s : Int) 120) (some (tx ((s : Int)).toNat)) else some 0)) = some (tx s) := by
      rw [ts]
      exact (ck_pos (by omega)).trans ((if_pos (by omega)).trans (ck_pos (by omega)))
    have ex : ∀ v, qF v = true → qL v = false := fun v hv => by
      have := qF_b hv
      exact decide_eq_false (by omega)
    unfold tkS
    by_cases e2 : qF (tx s) = true
    · rw [if_neg (show ¬ qL (tx s) = true by rw [ex _ e2]; decide), if_pos e2]
      rw [if_pos e2] at fg
      have nm := p_numM (n := n) h (z - s) s n 0 (by omega) (by omega) (by omega)
      have mv := mvS_n tx (z - s) s 0 (by omega)
      rw [show min (100 : Int) 0 = 0 by omega] at mv
      have mb := mv.2.2 (by omega)
      have rb := rnS_b qF tx (z - s) s
      have tb := tvS_b z tx s
      refine ⟨mvS tx (z - s) s 0, ?_, fun k4 => ?_⟩
      · refine (bd_of l0).trans ((bd_of o5).trans ((bd_of (a := (((rnS qF tx (z - s) s : Nat) : Int), kmS (if tvS z tx s < 100 then 4 else 6), mvS tx (z - s) s 0)) ?_).trans rfl))
        refine (ck_pos (by omega)).trans ((if_neg (by omega)).trans ((bd_of fg).trans ((ck_pos (by decide)).trans ((if_neg (by decide)).trans ((bd_of nm).trans ((bd_of (a := kmS (if tvS z tx s < 100 then 4 else 6)) ?_).trans rfl))))))
        dsimp only
        refine (ck_pos (by omega)).trans ?_
        unfold tvS
        generalize rnS qF tx (z - s) s = e at rb ⊢
        by_cases c0 : tx s = 48 ∧ s + 1 < e
        · rw [if_pos c0, if_neg (show ¬ (100 : Int) < 100 by decide)]
          by_cases c1 : 99 < mvS tx (z - s) s 0
          · rw [if_pos c1]; rfl
          · rw [if_neg c1]
            exact (ck_pos (by omega)).trans ((if_pos c0.1).trans ((ck_pos (by omega)).trans (if_pos (by omega))))
        · rw [if_neg c0, mv.1]
          by_cases c1 : 99 < mvS tx (z - s) s 0
          · rw [if_pos c1, if_neg (show ¬ min 100 (mvS tx (z - s) s 0) < 100 by omega)]; rfl
          · rw [if_neg c1, if_pos (show min 100 (mvS tx (z - s) s 0) < 100 by omega)]
            refine (ck_pos (by omega)).trans ?_
            by_cases c2 : tx s = 48
            · exact (if_pos c2).trans ((ck_pos (by omega)).trans (if_neg (by omega)))
            · exact if_neg c2
      · dsimp only at k4 ⊢
        have lt : tvS z tx s < 100 := by
          by_cases c : tvS z tx s < 100
          · exact c
          · rw [if_neg c] at k4; omega
        unfold tvS at lt ⊢
        split at lt
        · omega
        · rename_i c
          rw [if_neg c]
          omega
    · rw [if_neg e2] at fg
      by_cases e1 : qL (tx s) = true
      · rw [if_pos e1]
        rw [if_pos e1] at sm
        have rb := rnS_go hs e1
        have l2 : lp_ (fun (q : Int) => F_X12_scan_L228 n z tx q) n (s : Int) = some ((rnS qL tx (z - s) s : Nat) : Int) := by
          refine lp_rn (z := z) (fun j hj => ?_) ((ck_pos (by omega)).trans (if_neg (by omega))) (z - s) s n (by omega) (by omega)
          have tj : ((j : Int)).toNat = j := by omega
          have b := h.2 j hj
          have smj := p_isLetterM (n := n) (x := tx j) (by omega)
          refine (ck_pos (by omega)).trans ((if_pos (by omega)).trans ((ck_pos (by omega)).trans ?_))
          rw [tj]
          by_cases e : qL (tx j) = true
          · rw [if_pos e] at smj
            rw [if_pos e]
            exact (bd_of smj).trans ((ck_pos (by decide)).trans (if_neg (by decide)))
          · rw [if_neg e] at smj
            rw [if_neg e]
            exact (bd_of smj).trans ((ck_pos (by decide)).trans (if_pos rfl))
        have wo := p_wordOf (n := n) h (s := s) (e := rnS qL tx (z - s) s) (by omega) (by omega)
        have wb := wkS_b tx s (rnS qL tx (z - s) s)
        refine ⟨tv, ?_, fun k4 => by dsimp only at k4; omega⟩
        refine (bd_of l0).trans ((bd_of o5).trans ((bd_of (a := (((rnS qL tx (z - s) s : Nat) : Int), kmS (wkS tx s (rnS qL tx (z - s) s)), tv)) ?_).trans rfl))
        exact (ck_pos (by omega)).trans ((if_neg (by omega)).trans ((bd_of fg).trans ((ck_pos (by decide)).trans ((if_pos rfl).trans ((bd_of sm).trans ((ck_pos (by decide)).trans ((if_neg (by decide)).trans ((bd_of l2).trans ((bd_of wo).trans rfl)))))))))
      · rw [if_neg e1, if_neg e2]
        rw [if_neg e1] at sm
        refine ⟨tv, ?_, fun k4 => by dsimp only at k4; split at k4 <;> omega⟩
        refine (bd_of l0).trans ((bd_of o5).trans ((bd_of (a := ((s : Int) + 1, kmS (if tx s = 59 then 5 else 6), tv)) ?_).trans rfl))
        refine (ck_pos (by omega)).trans ((if_neg (by omega)).trans ((bd_of fg).trans ((ck_pos (by decide)).trans ((if_pos rfl).trans ((bd_of sm).trans ((ck_pos (by decide)).trans ((if_pos rfl).trans ((bd_of (a := kmS (if tx s = 59 then 5 else 6)) ?_).trans rfl))))))))
        refine (ck_pos (by omega)).trans ?_
        by_cases c : tx s = 59
        · rw [if_pos c, if_pos c, c]; rfl
        · rw [if_neg c, if_neg c]; rfl
  · right
    have es : s = z := by omega
    subst es
    refine ⟨rfl, ?_⟩
    exact (bd_of l0).trans ((bd_of (a := (0 : Int)) ((ck_pos (by omega)).trans (if_neg (by omega)))).trans ((bd_of (a := ((s : Int), (2 : Int), tv)) ((ck_pos (by omega)).trans (if_pos rfl))).trans rfl))
