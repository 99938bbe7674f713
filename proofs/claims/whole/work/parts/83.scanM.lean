/-! the model's tokens -/
def kmS (k : Int) : Int := if k = 0 then 2 else if k = 1 then 4 else if k = 2 then 5 else if k = 3 then 6 else if k = 4 then 1 else if k = 5 then 59 else 3
def mvS (tx : Nat → Int) : Nat → Nat → Int → Int
  | 0, _, v => v
  | d + 1, i, v => if qF (tx i) then mvS tx d (i + 1) (if 99 < v then v else 10 * v + tx i - 48) else v
theorem mvS_n (tx : Nat → Int) : ∀ d i v, 0 ≤ v → nvS tx d i (min 100 v) = min 100 (mvS tx d i v) ∧ 0 ≤ mvS tx d i v ∧ (v ≤ 2000 → mvS tx d i v ≤ 2000) := by
  intro d
  induction d with
  | zero => intro i v h; exact ⟨rfl, h, id⟩
  | succ d ih =>
    intro i v h
    show (if qF (tx i) then nvS tx d (i + 1) (min 100 (min 100 v * 10 + tx i - 48)) else min 100 v) = min 100 (if qF (tx i) then mvS tx d (i + 1) (if 99 < v then v else 10 * v + tx i - 48) else v) ∧ 0 ≤ (if qF (tx i) then mvS tx d (i + 1) (if 99 < v then v else 10 * v + tx i - 48) else v) ∧ (v ≤ 2000 → (if qF (tx i) then mvS tx d (i + 1) (if 99 < v then v else 10 * v + tx i - 48) else v) ≤ 2000)
    by_cases e : qF (tx i) = true
    · have b := qF_b e
      rw [if_pos e, if_pos e]
      by_cases c : 99 < v
      · have := ih (i + 1) v h
        rw [if_pos c, show min 100 (min 100 v * 10 + tx i - 48) = min 100 v by omega]
        exact this
      · have := ih (i + 1) (10 * v + tx i - 48) (by omega)
        rw [if_neg c, show min 100 (min 100 v * 10 + tx i - 48) = min 100 (10 * v + tx i - 48) by omega]
        exact ⟨this.1, this.2.1, fun _ => this.2.2 (by omega)⟩
    · rw [if_neg e, if_neg e]
      exact ⟨rfl, h, id⟩
theorem p_numM {n : Nat} {z : Nat} {tx : Nat → Int} (h : okT z tx) : ∀ d i m v, i + d = z → d < m → 0 ≤ v ∧ v ≤ 2000 → lp_ (fun (q : Int × Int) => F_X12_scan_L102 n z tx q.1 q.2) m ((i : Int), v) = some (((rnS qF tx d i : Nat) : Int), mvS tx d i v) := by
  have hz := h.1
  intro d
  induction d with
  | zero =>
    intro i m v h1 h2 h3
    obtain ⟨m, rfl⟩ : ∃ k, m = k + 1 := ⟨m - 1, by omega⟩
    have st : F_X12_scan_L102 n z tx (i : Int) v = some (.inr ((i : Int), v)) := (ck_pos (by omega)).trans (if_neg (by omega))
    exact lp_end st
  | succ d ih =>
    intro i m v h1 h2 h3
    obtain ⟨m, rfl⟩ : ∃ k, m = k + 1 := ⟨m - 1, by omega⟩
    have ti : ((i : Int)).toNat = i := by omega
    have b := h.2 i (by omega)
    have fg := p_isFigureM (n := n) (x := tx i) (by omega)
    show _ = some (((if qF (tx i) then rnS qF tx d (i + 1) else i : Nat) : Int), if qF (tx i) then mvS tx d (i + 1) (if 99 < v then v else 10 * v + tx i - 48) else v)
    by_cases e : qF (tx i) = true
    · have fb := qF_b e
      rw [if_pos e] at fg
      rw [if_pos e, if_pos e]
      have st : F_X12_scan_L102 n z tx (i : Int) v = some (.inl ((i : Int) + 1, if 99 < v then v else 10 * v + tx i - 48)) := by
        refine (ck_pos (by omega)).trans ((if_pos (by omega)).trans ((ck_pos (by omega)).trans ?_))
        rw [ti]
        refine (bd_of fg).trans ((ck_pos (by decide)).trans ((if_neg (by decide)).trans ((bd_of (a := if 99 < v then v else 10 * v + tx i - 48) ?_).trans rfl)))
        refine (ck_pos (by omega)).trans ?_
        by_cases c : 99 < v
        · rw [if_pos c, if_pos c]
        · rw [if_neg c, if_neg c]
          exact ck_pos (by omega)
      have g : lp_ (fun (q : Int × Int) => F_X12_scan_L102 n z tx q.1 q.2) (m + 1) ((i : Int), v) = lp_ (fun (q : Int × Int) => F_X12_scan_L102 n z tx q.1 q.2) m ((i : Int) + 1, if 99 < v then v else 10 * v + tx i - 48) := lp_go st
      rw [g]
      exact ih (i + 1) m _ (by omega) (by omega) (by split <;> omega)
    · rw [if_neg e] at fg
      rw [if_neg e, if_neg e]
      have st : F_X12_scan_L102 n z tx (i : Int) v = some (.inr ((i : Int), v)) := by
        refine (ck_pos (by omega)).trans ((if_pos (by omega)).trans ((ck_pos (by omega)).trans ?_))
        rw [ti]
        exact (bd_of fg).trans ((ck_pos (by decide)).trans (if_pos rfl))
      exact lp_end st
theorem p_isWordM {n : Nat} {z : Nat} {tx : Nat → Int} (h : okT z tx) {s : Nat} (hs : s + 4 ≤ z) {a b c d : Int} (ha : r4 a) (hb : r4 b) (hc : r4 c) (hd : r4 d) : F_X12_isWord n s tx a b c d = some (if tx s = a ∧ tx (s + 1) = b ∧ tx (s + 2) = c ∧ tx (s + 3) = d then 1 else 0) := by
  have hz := h.1
  have b0 := h.2 s (by omega)
  have b1 := h.2 (s + 1) (by omega)
  have b2 := h.2 (s + 2) (by omega)
  have b3 := h.2 (s + 3) (by omega)
  have t0 : ((s : Int)).toNat = s := by omega
  have t1 : ((s : Int) + 1).toNat = s + 1 := by omega
  have t2 : ((s : Int) + 2).toNat = s + 2 := by omega
  have t3 : ((s : Int) + 3).toNat = s + 3 := by omega
  unfold F_X12_isWord
  rw [t0, t1, t2, t3]
  refine (ck_pos (by omega)).trans ((bd_of (a := if tx s = a ∧ tx (s + 1) = b ∧ tx (s + 2) = c ∧ tx (s + 3) = d then (1 : Int) else 0) ((ck_pos ⟨by omega, ha⟩).trans ?_)).trans (ck_pos (by split <;> omega)))
  by_cases e0 : tx s = a
  · refine (if_pos e0).trans ((ck_pos (by omega)).trans ((ck_pos ⟨by omega, hb⟩).trans ?_))
    by_cases e1 : tx (s + 1) = b
    · refine (if_pos e1).trans ((ck_pos (by omega)).trans ((ck_pos ⟨by omega, hc⟩).trans ?_))
      by_cases e2 : tx (s + 2) = c
      · refine (if_pos e2).trans ((ck_pos (by omega)).trans ((ck_pos ⟨by omega, hd⟩).trans ?_))
        by_cases e3 : tx (s + 3) = d
        · exact (if_pos e3).trans (congrArg some (if_pos ⟨e0, e1, e2, e3⟩).symm)
        · exact (if_neg e3).trans (congrArg some (if_neg (fun x => e3 x.2.2.2)).symm)
      · exact (if_neg e2).trans (congrArg some (if_neg (fun x => e2 x.2.2.1)).symm)
    · exact (if_neg e1).trans (congrArg some (if_neg (fun x => e1 x.2.1)).symm)
  · exact (if_neg e0).trans (congrArg some (if_neg (fun x => e0 x.1)).symm)
theorem p_wordOf {n : Nat} {z : Nat} {tx : Nat → Int} (h : okT z tx) {s e : Nat} (hs : s < e) (he : e ≤ z) : F_X12_wordOf n s tx ((e : Int) - (s : Int)) = some (kmS (wkS tx s e)) := by
  have hz := h.1
  unfold F_X12_wordOf wkS
  refine (ck_pos (by omega)).trans ?_
  by_cases e4 : e = s + 4
  · refine (if_pos (by omega)).trans ?_
    have r := p_isWordM (n := n) h (s := s) (by omega) (show r4 114 by decide) (show r4 117 by decide) (show r4 108 by decide) (show r4 101 by decide)
    have u := p_isWordM (n := n) h (s := s) (by omega) (show r4 115 by decide) (show r4 117 by decide) (show r4 109 by decide) (show r4 115 by decide)
    by_cases c1 : isR tx s
    · rw [if_pos (show e = s + 4 ∧ isR tx s from ⟨e4, c1⟩)]
      rw [if_pos c1] at r
      exact (bd_of r).trans ((bd_of (a := (4 : Int)) ((ck_pos (by decide)).trans (if_neg (by decide)))).trans rfl)
    · rw [if_neg (show ¬ (e = s + 4 ∧ isR tx s) from fun x => c1 x.2), if_neg (show ¬ (e = s + 6 ∧ isC tx s) from fun x => by have := x.1; omega)]
      rw [if_neg c1] at r
      refine (bd_of r).trans ?_
      by_cases c2 : isU tx s
      · rw [if_pos (show e = s + 4 ∧ isU tx s from ⟨e4, c2⟩)]
        rw [if_pos c2] at u
        exact (bd_of (a := (6 : Int)) ((ck_pos (by decide)).trans ((if_pos rfl).trans ((bd_of u).trans ((ck_pos (by decide)).trans (if_neg (by decide))))))).trans rfl
      · rw [if_neg (show ¬ (e = s + 4 ∧ isU tx s) from fun x => c2 x.2)]
        rw [if_neg c2] at u
        exact (bd_of (a := (3 : Int)) ((ck_pos (by decide)).trans ((if_pos rfl).trans ((bd_of u).trans ((ck_pos (by decide)).trans (if_pos rfl)))))).trans rfl
  · refine (if_neg (by omega)).trans ?_
    rw [if_neg (show ¬ (e = s + 4 ∧ isR tx s) from fun x => e4 x.1)]
    by_cases e6 : e = s + 6
    · have t4 : ((s : Int) + 4).toNat = s + 4 := by omega
      have t5 : ((s : Int) + 5).toNat = s + 5 := by omega
      have b4 := h.2 (s + 4) (by omega)
      have b5 := h.2 (s + 5) (by omega)
      have r := p_isWordM (n := n) h (s := s) (by omega) (show r4 99 by decide) (show r4 104 by decide) (show r4 97 by decide) (show r4 110 by decide)
      rw [t4, t5]
      by_cases c0 : tx s = 99 ∧ tx (s + 1) = 104 ∧ tx (s + 2) = 97 ∧ tx (s + 3) = 110
      · rw [if_pos c0] at r
        by_cases c4 : tx (s + 4) = 99
        · by_cases c5 : tx (s + 5) = 101
          · rw [if_pos (show e = s + 6 ∧ isC tx s from ⟨e6, c0.1, c0.2.1, c0.2.2.1, c0.2.2.2, c4, c5⟩)]
            exact (bd_of (a := (1 : Int)) ((ck_pos (by omega)).trans ((if_pos (by omega)).trans ((bd_of r).trans ((ck_pos (by decide)).trans ((if_neg (by decide)).trans ((ck_pos (by omega)).trans ((ck_pos (by omega)).trans ((if_pos c4).trans ((ck_pos (by omega)).trans ((ck_pos (by omega)).trans (if_pos c5)))))))))))).trans ((bd_of (a := (5 : Int)) ((ck_pos (by decide)).trans (if_neg (by decide)))).trans rfl)
          · rw [if_neg (show ¬ (e = s + 6 ∧ isC tx s) from fun x => c5 x.2.2.2.2.2.2), if_neg (show ¬ (e = s + 4 ∧ isU tx s) from fun x => e4 x.1)]
            exact (bd_of (a := (0 : Int)) ((ck_pos (by omega)).trans ((if_pos (by omega)).trans ((bd_of r).trans ((ck_pos (by decide)).trans ((if_neg (by decide)).trans ((ck_pos (by omega)).trans ((ck_pos (by omega)).trans ((if_pos c4).trans ((ck_pos (by omega)).trans ((ck_pos (by omega)).trans (if_neg c5)))))))))))).trans ((bd_of (a := (3 : Int)) ((ck_pos (by decide)).trans (if_pos rfl))).trans rfl)
        · rw [if_neg (show ¬ (e = s + 6 ∧ isC tx s) from fun x => c4 x.2.2.2.2.2.1), if_neg (show ¬ (e = s + 4 ∧ isU tx s) from fun x => e4 x.1)]
          exact (bd_of (a := (0 : Int)) ((ck_pos (by omega)).trans ((if_pos (by omega)).trans ((bd_of r).trans ((ck_pos (by decide)).trans ((if_neg (by decide)).trans ((ck_pos (by omega)).trans ((ck_pos (by omega)).trans (if_neg c4))))))))).trans ((bd_of (a := (3 : Int)) ((ck_pos (by decide)).trans (if_pos rfl))).trans rfl)
      · rw [if_neg c0] at r
        rw [if_neg (show ¬ (e = s + 6 ∧ isC tx s) from fun x => c0 ⟨x.2.1, x.2.2.1, x.2.2.2.1, x.2.2.2.2.1⟩), if_neg (show ¬ (e = s + 4 ∧ isU tx s) from fun x => e4 x.1)]
        exact (bd_of (a := (0 : Int)) ((ck_pos (by omega)).trans ((if_pos (by omega)).trans ((bd_of r).trans ((ck_pos (by decide)).trans (if_pos rfl)))))).trans ((bd_of (a := (3 : Int)) ((ck_pos (by decide)).trans (if_pos rfl))).trans rfl)
    · rw [if_neg (show ¬ (e = s + 6 ∧ isC tx s) from fun x => e6 x.1), if_neg (show ¬ (e = s + 4 ∧ isU tx s) from fun x => e4 x.1)]
      exact (bd_of (a := (0 : Int)) ((ck_pos (by omega)).trans (if_neg (by omega)))).trans ((bd_of (a := (3 : Int)) ((ck_pos (by decide)).trans (if_pos rfl))).trans rfl)
