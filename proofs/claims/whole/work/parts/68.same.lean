/-! single rules that do the same -/
theorem or_2w {h b : Int} (hh : 0 ≤ h ∧ h < 16) (hb : 0 ≤ b ∧ b ≤ 1) : or_ (sl_ h 1) b = 2 * h + b := by
  rcases (show h < 8 ∨ h = 8 ∨ h = 9 ∨ h = 10 ∨ h = 11 ∨ h = 12 ∨ h = 13 ∨ h = 14 ∨ h = 15 by omega) with c | rfl | rfl | rfl | rfl | rfl | rfl | rfl | rfl
  · exact or_2 (by omega) hb
  all_goals rcases (show b = 0 ∨ b = 1 by omega) with rfl | rfl <;> decide
/-- what a single rule has in view ahead of row i, if it were met at just the same rows -/
def whS (o e : Int) (sg met : Nat → Int) : Nat → Int
  | 0 => 0
  | i + 1 => if met i = 0 then an_ (2 * whS o e sg met i + bt_ e (sg i)) (sl_ 1 o - 1) else 0
def wnS (o e : Int) (sg met : Nat → Int) (i : Nat) : Int := an_ (2 * whS o e sg met i + bt_ e (sg i)) (sl_ 1 o - 1)
theorem mk4 {o : Nat} (h : o ≤ 4) : sl_ 1 (o : Int) = 2 ^ o ∧ (1 : Int) ≤ 2 ^ o ∧ (2 : Int) ^ o ≤ 16 := by
  rw [sl_nat, Int.one_mul]
  rcases (show o = 0 ∨ o = 1 ∨ o = 2 ∨ o = 3 ∨ o = 4 by omega) with rfl | rfl | rfl | rfl | rfl <;> decide
theorem wnS_b {o : Nat} (ho : o ≤ 4) (e : Int) (sg met : Nat → Int) (i : Nat) : 0 ≤ wnS o e sg met i ∧ wnS o e sg met i < 16 := by
  have m := mk4 ho
  have a := an_le (x := 2 * whS o e sg met i + bt_ e (sg i)) (y := sl_ 1 (o : Int) - 1) (by omega)
  unfold wnS
  omega
theorem whS_b {o : Nat} (ho : o ≤ 4) (e : Int) (sg met : Nat → Int) (i : Nat) : 0 ≤ whS o e sg met i ∧ whS o e sg met i < 16 := by
  cases i with
  | zero => exact ⟨Int.le_refl 0, show (0 : Int) < 16 by decide⟩
  | succ i =>
    have := wnS_b ho e sg met i
    show 0 ≤ (if met i = 0 then wnS o e sg met i else 0) ∧ (if met i = 0 then wnS o e sg met i else 0) < 16
    split <;> omega
def ftS (o e : Int) (sg met : Nat → Int) (i m : Nat) : Prop := ∀ j, j < i → (bc_ (wnS o e sg met j) < (m : Int) ↔ met j = 0)
theorem p_weigh {n : Nat} (hn : 1000 ≤ n) {z : Nat} (hz : z ≤ 40) {sg met : Nat → Int} (hg : ∀ i, i < z → 0 ≤ sg i ∧ sg i < 5) (hm : ∀ i, i < z → r4 (met i)) {o e : Nat} (ho : 1 ≤ o ∧ o ≤ 4) (he : 1 ≤ e ∧ e ≤ 31) : ∃ mo fe : Int, F_X8_weigh n z sg met o e = some (mo, fe) ∧ 0 ≤ mo ∧ mo ≤ 4 ∧ 0 ≤ fe ∧ fe ≤ o ∧ ∀ m : Nat, 1 ≤ m → m ≤ o → (ftS o e sg met z m ↔ mo < m ∧ (m : Int) ≤ fe) := by
  have mk := mk4 ho.2
  obtain ⟨r, h1, h2⟩ := lp_rule (f := fun (q : Int × Int × Int × Int) => F_X8_weigh_L23 n z e sg o met q.1 q.2.1 q.2.2.1 q.2.2.2) (fun i q => ∃ mo fe : Int, q = (whS o e sg met i, (i : Int), mo, fe) ∧ i ≤ z ∧ 0 ≤ mo ∧ mo ≤ 4 ∧ 0 ≤ fe ∧ fe ≤ o ∧ ∀ m : Nat, 1 ≤ m → m ≤ o → (ftS o e sg met i m ↔ mo < m ∧ (m : Int) ≤ fe))
    (fun r => 0 ≤ r.1 ∧ r.1 ≤ 4 ∧ 0 ≤ r.2 ∧ r.2 ≤ o ∧ ∀ m : Nat, 1 ≤ m → m ≤ o → (ftS o e sg met z m ↔ r.1 < m ∧ (m : Int) ≤ r.2)) (N := z) (n := n) (s := (0, 0, 0, (o : Int))) (by omega) ⟨0, (o : Int), rfl, by omega, by omega, by omega, by omega, by omega, fun m a b => ⟨fun _ => by omega, fun _ j hj => by omega⟩⟩ (fun i q hI hi => by
    obtain ⟨mo, fe, rfl, c0, c1, c2, c3, c4, c5⟩ := hI
    dsimp only
    by_cases hlt : i < z
    · by_cases hb : mo < fe
      · left
        have ti : ((i : Int)).toNat = i := by omega
        have g1 := hg i hlt
        have wb := whS_b ho.2 e sg met i
        have nb := wnS_b ho.2 e sg met i
        have bb := bc_b nb
        have b1 := bt_b e (sg i)
        have o1 := or_2w wb b1
        have l1 := sl_1 (whS o e sg met i)
        have s2 : nn (sr_ (e : Int) (sg i)) := sr_nn (by omega)
        have hm1 := hm i hlt
        have eb : an_ (sr_ (e : Int) (sg i)) 1 = bt_ e (sg i) := rfl
        have ew : an_ (2 * whS o e sg met i + bt_ e (sg i)) (sl_ 1 (o : Int) - 1) = wnS o e sg met i := rfl
        have hbc : F_J6_bitCount_0f7a4 n (wnS o e sg met i) = some (bc_ (wnS o e sg met i)) := ck_pos ⟨by omega, by omega⟩
        have sp : ∀ m, ftS o e sg met (i + 1) m ↔ ftS o e sg met i m ∧ (bc_ (wnS o e sg met i) < (m : Int) ↔ met i = 0) := fun m => ⟨fun h => ⟨fun j hj => h j (by omega), h i (by omega)⟩, fun h j hj => by
          by_cases ej : j = i
          · subst ej; exact h.2
          · exact h.1 j (by omega)⟩
        have hw : whS o e sg met (i + 1) = if met i = 0 then wnS o e sg met i else 0 := rfl
        have step : ∀ v : Int × Int × Int, (ck (r4 (met i)) (if met i = 0 then ck (r4 mo ∧ r4 (bc_ (wnS o e sg met i))) (some (wnS o e sg met i, max mo (bc_ (wnS o e sg met i)), fe)) else ck (r4 fe ∧ r4 (bc_ (wnS o e sg met i))) (some (0, mo, min fe (bc_ (wnS o e sg met i)))))) = some v → F_X8_weigh_L23 n z e sg o met (whS o e sg met i) i mo fe = some (.inl (v.1, (i : Int) + 1, v.2.1, v.2.2)) := by
          intro v hv
          refine (ck_pos (by omega)).trans ((if_pos (by omega)).trans ((ck_pos (by omega)).trans ((if_pos (by omega)).trans ((ck_pos (by omega)).trans ((if_pos hb).trans ?_)))))
          rw [ti, eb, o1, ew]
          refine (ck_pos (by omega)).trans ((ck_pos (by omega)).trans ((ck_pos (by omega)).trans ((ck_pos ⟨s2, by decide⟩).trans ((ck_pos (by omega)).trans ((ck_pos (by omega)).trans ((bd_of hbc).trans ((ck_pos (by omega)).trans ((bd_of hv).trans rfl))))))))
        by_cases em : met i = 0
        · rw [if_pos em] at hw
          refine ⟨(wnS o e sg met i, (i : Int) + 1, max mo (bc_ (wnS o e sg met i)), fe), step (wnS o e sg met i, max mo (bc_ (wnS o e sg met i)), fe) ((ck_pos hm1).trans ((if_pos em).trans (ck_pos (by omega)))), ⟨_, fe, by rw [hw]; rfl, by omega, by omega, by omega, c3, c4, fun m a b => ?_⟩, hlt⟩
          rw [sp, c5 m a b]
          constructor
          · intro h
            have := h.2.mpr em
            omega
          · intro h
            exact ⟨by omega, fun _ => em, fun _ => by omega⟩
        · rw [if_neg em] at hw
          refine ⟨(0, (i : Int) + 1, mo, min fe (bc_ (wnS o e sg met i))), step (0, mo, min fe (bc_ (wnS o e sg met i))) ((ck_pos hm1).trans ((if_neg em).trans (ck_pos (by omega)))), ⟨mo, _, by rw [hw]; rfl, by omega, c1, c2, by omega, by omega, fun m a b => ?_⟩, hlt⟩
          rw [sp, c5 m a b]
          constructor
          · intro h
            have : ¬ bc_ (wnS o e sg met i) < (m : Int) := fun x => em (h.2.mp x)
            omega
          · intro h
            exact ⟨by omega, fun x => by omega, fun x => absurd x em⟩
      · right
        refine ⟨(mo, fe), (ck_pos (by omega)).trans ((if_pos (by omega)).trans ((ck_pos (by omega)).trans ((if_pos (by omega)).trans ((ck_pos (by omega)).trans (if_neg hb))))), c1, c2, c3, c4, fun m a b => ⟨fun h => ?_, fun h => by omega⟩⟩
        exact (c5 m a b).mp (fun j hj => h j (by omega))
    · right
      have : i = z := by omega
      subst this
      exact ⟨(mo, fe), (ck_pos (by omega)).trans (if_neg (by omega)), c1, c2, c3, c4, c5⟩)
  obtain ⟨mo, fe⟩ := r
  refine ⟨mo, fe, ?_, h2⟩
  unfold F_X8_weigh
  refine (ck_pos ⟨by omega, by omega, by omega⟩).trans ((bd_of h1).trans rfl)
theorem p_isSame {n : Nat} (hn : 1000 ≤ n) {z : Nat} (hz : z ≤ 40) {now met : Nat → Int} (h17 : now 17 = z) (hg : ∀ i, i < z → 0 ≤ now (58 + i) ∧ now (58 + i) < 5) (hm : ∀ i, i < z → r4 (met i)) {o e m : Nat} (ho : 1 ≤ o ∧ o ≤ 4) (he : 1 ≤ e ∧ e ≤ 31) (hmo : m ≤ 4) : ∃ b : Int, F_X12_isSame n now met m o e = some b ∧ (b = 0 ∨ b = 1) ∧ (b = 1 ↔ ftS o e (fun i => now (58 + i)) met z m) := by
  generalize hsg : (fun i => now (58 + i)) = sg
  have hsg2 : ∀ i, now (58 + i) = sg i := fun i => by rw [← hsg]
  have mk := mk4 ho.2
  obtain ⟨r, h1, h2⟩ := lp_rule (f := fun (q : Int × Int × Int) => F_X12_isSame_L9 n now e o m met q.1 q.2.1 q.2.2) (fun i q => ∃ v b : Int, q = (v, b, (i : Int)) ∧ i ≤ z ∧ (b = 0 ∨ b = 1) ∧ (b = 1 ↔ ftS o e sg met i m) ∧ (b = 1 → v = whS o e sg met i))
    (fun b => (b = 0 ∨ b = 1) ∧ (b = 1 ↔ ftS o e sg met z m)) (N := z) (n := n) (s := (0, 1, 0)) (by omega) ⟨0, 1, rfl, by omega, by omega, ⟨fun _ j hj => by omega, fun _ => rfl⟩, fun _ => rfl⟩ (fun i q hI hi => by
    obtain ⟨v, b, rfl, c0, c1, c2, c3⟩ := hI
    dsimp only
    by_cases hlt : i < z
    · by_cases hb : b = 0
      · right
        refine ⟨b, ?_, c1, fun x => by omega, fun x => c2.mpr (fun j hj => x j (by omega))⟩
        unfold F_X12_isSame_L9
        rw [h17]
        exact (ck_pos (by omega)).trans ((if_pos (by omega)).trans ((ck_pos (by omega)).trans (if_pos hb)))
      · left
        have hb1 : b = 1 := by omega
        have hv := c3 hb1
        subst hv
        have ti : ((i : Int)).toNat = i := by omega
        have t5 : now (58 + (i : Int)).toNat = sg i := by rw [← hsg2]; congr 1
        have g1 := hg i hlt
        rw [hsg2] at g1
        have wb := whS_b ho.2 e sg met i
        have nb := wnS_b ho.2 e sg met i
        have bb := bc_b nb
        have b1 := bt_b e (sg i)
        have s2 : nn (sr_ (e : Int) (sg i)) := sr_nn (by omega)
        have hm1 := hm i hlt
        have eb : an_ (sr_ (e : Int) (sg i)) 1 = bt_ e (sg i) := rfl
        have ew : an_ (2 * whS o e sg met i + bt_ e (sg i)) (sl_ 1 (o : Int) - 1) = wnS o e sg met i := rfl
        have hon := p_ones hn nb
        have sp : ftS o e sg met (i + 1) m ↔ ftS o e sg met i m ∧ (bc_ (wnS o e sg met i) < (m : Int) ↔ met i = 0) := ⟨fun h => ⟨fun j hj => h j (by omega), h i (by omega)⟩, fun h j hj => by
          by_cases ej : j = i
          · subst ej; exact h.2
          · exact h.1 j (by omega)⟩
        have hw : whS o e sg met (i + 1) = if met i = 0 then wnS o e sg met i else 0 := rfl
        have step : ∀ x10 x13 x15 x17 : Int, (ck (r4 (bc_ (wnS o e sg met i)) ∧ r4 (m : Int)) (if bc_ (wnS o e sg met i) < (m : Int) then some 0 else some 1)) = some x10 → (ck (r4 (met i)) (if met i = 0 then some 0 else some 1)) = some x13 → (ck (r4 x10 ∧ r4 x13) (if x10 = x13 then some 1 else some 0)) = some x15 → (ck (r4 x10) (if x10 = 0 then some (wnS o e sg met i) else some 0)) = some x17 → F_X12_isSame_L9 n now e o m met (whS o e sg met i) b i = some (.inl (x17, x15, (i : Int) + 1)) := by
          intro x10 x13 x15 x17 y1 y2 y3 y4
          unfold F_X12_isSame_L9
          rw [h17]
          refine (ck_pos (by omega)).trans ((if_pos (by omega)).trans ((ck_pos (by omega)).trans ((if_neg hb).trans ?_)))
          rw [ti, t5, eb, ew]
          exact (ck_pos (by omega)).trans ((ck_pos (by omega)).trans ((ck_pos ⟨s2, by decide⟩).trans ((ck_pos (by omega)).trans ((ck_pos (by omega)).trans ((bd_of hon).trans ((bd_of y1).trans ((ck_pos (by omega)).trans ((bd_of y2).trans ((bd_of y3).trans ((bd_of y4).trans rfl))))))))))
        have f := c2.mp hb1
        by_cases em : met i = 0 <;> by_cases eq : bc_ (wnS o e sg met i) < (m : Int)
        · exact ⟨_, step 0 0 1 (wnS o e sg met i) ((ck_pos (by omega)).trans (if_pos eq)) ((ck_pos hm1).trans (if_pos em)) rfl rfl, ⟨_, 1, rfl, by omega, by omega, ⟨fun _ => sp.mpr ⟨f, fun _ => em, fun _ => eq⟩, fun _ => rfl⟩, fun _ => by rw [hw, if_pos em]⟩, hlt⟩
        · exact ⟨_, step 1 0 0 0 ((ck_pos (by omega)).trans (if_neg eq)) ((ck_pos hm1).trans (if_pos em)) rfl rfl, ⟨_, 0, rfl, by omega, by omega, ⟨fun x => by omega, fun x => absurd ((sp.mp x).2.mpr em) eq⟩, fun x => by omega⟩, hlt⟩
        · exact ⟨_, step 0 1 0 (wnS o e sg met i) ((ck_pos (by omega)).trans (if_pos eq)) ((ck_pos hm1).trans (if_neg em)) rfl rfl, ⟨_, 0, rfl, by omega, by omega, ⟨fun x => by omega, fun x => absurd ((sp.mp x).2.mp eq) em⟩, fun x => by omega⟩, hlt⟩
        · exact ⟨_, step 1 1 1 0 ((ck_pos (by omega)).trans (if_neg eq)) ((ck_pos hm1).trans (if_neg em)) rfl rfl, ⟨_, 1, rfl, by omega, by omega, ⟨fun _ => sp.mpr ⟨f, fun x => absurd x eq, fun x => absurd x em⟩, fun _ => rfl⟩, fun _ => by rw [hw, if_neg em]⟩, hlt⟩
    · right
      have : i = z := by omega
      subst this
      refine ⟨b, ?_, c1, c2⟩
      unfold F_X12_isSame_L9
      rw [h17]
      exact (ck_pos (by omega)).trans (if_neg (by omega)))
  exact ⟨r, (bd_of h1).trans (ck_pos h2.1), h2⟩
