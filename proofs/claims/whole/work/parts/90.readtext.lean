theorem p_begin {n : Nat} (hn : 1000 ≤ n) (rd : Nat → Int) : ∃ rd', F_X12_begin n rd = some rd' ∧ ∀ le of_ se ch : Nat → Int, (∀ g, g < 5 → ch g = fc_ g) → rdI 0 le of_ se ch 1 4 rd' := by
  have f1 : lp_ (fun (q : Int × (Nat → Int)) => F_X12_begin_L2 n q.1 q.2) n (0, rd) = some (ov (fun _ => 0) rd 17) := by
    refine lp_for (fun i => ((i : Int), ov (fun _ => 0) rd i)) 17 (by omega) (fun i hi => ?_) ?_
    · unfold F_X12_begin_L2
      have ti : ((i : Int)).toNat = i := by omega
      have ei : ((i + 1 : Nat) : Int) = (i : Int) + 1 := by omega
      simp (disch := omega) only [ck_pos, if_pos]
      rw [ti, ei, ← ov_up]
    · unfold F_X12_begin_L2
      simp (disch := omega) only [ck_pos, if_neg]
  refine ⟨_, (bd_of f1).trans rfl, fun le of_ se ch hch => ⟨?_, fun r hr => by omega, fun g hg => ?_, ?_, ?_⟩⟩
  · rw [up_off (by omega), up_off (by omega), up_off (by omega), up_off (by omega), up_off (by omega), up_off (by omega), up_off (by omega), ov_in (by omega)]
    rfl
  · rw [hch g hg]
    rcases (show g = 0 ∨ g = 1 ∨ g = 2 ∨ g = 3 ∨ g = 4 by omega) with rfl | rfl | rfl | rfl | rfl <;> rfl
  · rfl
  · rfl
theorem fc_ok {ch : Nat → Int} (h : ∀ g, g < 5 → ch g = fc_ g) : okC ch := by
  have a0 := h 0 (by omega)
  have a1 := h 1 (by omega)
  have a2 := h 2 (by omega)
  have a3 := h 3 (by omega)
  have a4 := h 4 (by omega)
  have f0 : fc_ 0 = 1 := rfl
  have f1 : fc_ 1 = 2 := rfl
  have f2 : fc_ 2 = 4 := rfl
  have f3 : fc_ 3 = 2 := rfl
  have f4 : fc_ 4 = 1 := rfl
  refine ⟨fun g hg => ?_, by omega⟩
  rcases (show g = 0 ∨ g = 1 ∨ g = 2 ∨ g = 3 ∨ g = 4 by omega) with rfl | rfl | rfl | rfl | rfl <;> omega
theorem gd_first {k : Nat} (hk : k = 0) {le of_ se ch : Nat → Int} (h : ∀ g, g < 5 → ch g = fc_ g) : gdP k le of_ se ch 1 4 := by
  subst hk
  exact ⟨⟨by omega, fun r hr => by omega, show (0 : Int) ≤ 6 by decide⟩, fc_ok h, by omega, by omega⟩
theorem kd_lt {z N : Nat} {tx st ki va : Nat → Int} (h : tkA z tx N st ki va) {t : Nat} (hk : kdS z tx t ≠ 0) : t < N := by
  rcases Nat.lt_or_ge t N with c | c
  · exact c
  · have s := stS_end h.2.2 t c
    exact absurd (show kdS z tx t = 0 by unfold kdS; rw [if_neg (by omega)]) hk
