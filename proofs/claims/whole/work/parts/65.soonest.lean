/-! the shortest row to an alarm -/
theorem lvS_congr {S : Nat} {T U : Nat → Int} (hT : clT S T) (h : ∀ j, j < 5 * S → T j = U j) : ∀ j s, s < S → (lvS T j s ↔ lvS U j s) := by
  intro j
  induction j with
  | zero => intro s _; exact Iff.rfl
  | succ j ih =>
    intro s hs
    have key : ∀ g, g < 5 → ((T (5 * s + g) = -5 ∨ T (5 * s + g) ≠ -5 ∧ lvS T j (T (5 * s + g)).toNat) ↔ (U (5 * s + g) = -5 ∨ U (5 * s + g) ≠ -5 ∧ lvS U j (U (5 * s + g)).toNat)) := by
      intro g hg
      rw [← h (5 * s + g) (by omega)]
      have c := hT s g hs hg
      constructor
      · rintro (x | ⟨x, y⟩)
        · exact Or.inl x
        · exact Or.inr ⟨x, (ih _ (by omega)).mp y⟩
      · rintro (x | ⟨x, y⟩)
        · exact Or.inl x
        · exact Or.inr ⟨x, (ih _ (by omega)).mpr y⟩
    constructor
    · rintro (x | ⟨g, hg, x⟩)
      · exact Or.inl ((ih s hs).mp x)
      · exact Or.inr ⟨g, hg, (key g hg).mp x⟩
    · rintro (x | ⟨g, hg, x⟩)
      · exact Or.inl ((ih s hs).mpr x)
      · exact Or.inr ⟨g, hg, (key g hg).mpr x⟩
theorem dsI_congr {S : Nat} {T U a : Nat → Int} {no : Int} (hT : clT S T) (h : ∀ j, j < 5 * S → T j = U j) (d : dsI S U no a) : dsI S T no a := by
  intro s hs
  rcases d s hs with ⟨b1, b2⟩ | ⟨j, b1, b2, b3, b4, b5⟩
  · exact Or.inl ⟨b1, fun j x => b2 j ((lvS_congr hT h j s hs).mp x)⟩
  · exact Or.inr ⟨j, b1, b2, b3, (lvS_congr hT h j s hs).mpr b4, fun x => b5 ((lvS_congr hT h (j - 1) s hs).mp x)⟩
theorem lfS_iff {S : Nat} {T U aw fa : Nat → Int} (hT : clT S T) (h : ∀ j, j < 5 * S → T j = U j) (d1 : dsI S T (-9) aw) (d2 : dsI S T 100 fa) {s g : Nat} (hs : s < S) (hg : g < 5) {x : Int} (hx : 0 ≤ x ∧ x ≤ 64) : lfS T aw s g = x ↔ lfS U fa s g = x := by
  have c := hT s g hs hg
  unfold lfS
  rw [← h (5 * s + g) (by omega)]
  by_cases e : T (5 * s + g) = -5
  · rw [if_pos e, if_pos e]
  · rw [if_neg e, if_neg e]
    rcases d1 (T (5 * s + g)).toNat (by omega) with ⟨b1, b2⟩ | ⟨j, b1, b2, b3, b4⟩
    · rcases d2 (T (5 * s + g)).toNat (by omega) with ⟨c1, c2⟩ | ⟨i, c1, c2, c3, c4⟩
      · omega
      · exact absurd c4.1 (b2 i)
    · rcases d2 (T (5 * s + g)).toNat (by omega) with ⟨c1, c2⟩ | ⟨i, c1, c2, c3, c4⟩
      · exact absurd b4.1 (c2 j)
      · have := fs_one b4 c4
        omega
/-- behind a state that is j away there is a sign that brings it nearer -/
theorem lfS_ex {S : Nat} {T aw : Nat → Int} (hT : clT S T) (d : dsI S T (-9) aw) {s j : Nat} (hs : s < S) (h : fs_ T (j + 1) s) : ∃ g, g < 5 ∧ lfS T aw s g = (j : Int) := by
  cases j with
  | zero =>
    rcases h.1 with x | ⟨g, hg, x | ⟨_, x⟩⟩
    · exact absurd x id
    · exact ⟨g, hg, if_pos x⟩
    · exact absurd x id
  | succ j =>
    obtain ⟨g, hg, a, b, c⟩ := fs_dn hT hs (by omega) h
    refine ⟨g, hg, ?_⟩
    unfold lfS
    rw [if_neg a]
    rcases d _ b with ⟨b1, b2⟩ | ⟨i, b1, b2, b3, b4⟩
    · exact absurd c.1 (b2 _)
    · have := fs_one b4 c
      omega
theorem lfS_to {S : Nat} {T aw : Nat → Int} (hT : clT S T) (d : dsI S T (-9) aw) {s g j : Nat} (hs : s < S) (hg : g < 5) (hj : 1 ≤ j) (h : lfS T aw s g = (j : Int)) : 0 ≤ T (5 * s + g) ∧ T (5 * s + g) < S ∧ fs_ T j (T (5 * s + g)).toNat := by
  have c := hT s g hs hg
  unfold lfS at h
  by_cases e : T (5 * s + g) = -5
  · rw [if_pos e] at h
    omega
  · rw [if_neg e] at h
    refine ⟨by omega, by omega, ?_⟩
    rcases d (T (5 * s + g)).toNat (by omega) with ⟨b1, b2⟩ | ⟨i, b1, b2, b3, b4⟩
    · omega
    · rw [show j = i by omega]
      exact b4
theorem p_toAlarm {n : Nat} (hn : 1000 ≤ n) {S : Nat} (hS : S ≤ 64) {T aw fa : Nat → Int} (hT : clT S T) (d1 : dsI S T (-9) aw) (d2 : dsI S T 100 fa) (o2 : Int × Int × Int × Int × (Nat → Int) × (Nat → Int) × (Nat → Int) × (Nat → Int) × (Nat → Int) × (Nat → Int) × (Nat → Int) × (Nat → Int) × (Nat → Int) × (Nat → Int) × (Nat → Int) × (Nat → Int) × (Nat → Int)) (h : ∀ j, j < 5 * S → T j = o2.2.2.2.2.2.2.2.2.2.2.2.2.2.2.2.2 j) {s j k : Nat} (ho : o2.1 = (s : Int)) (hs : s < S) (hj : fs_ T j s) (hk : k < j) (hj64 : j ≤ 64) :
    ∃ r : Int, F_X1_signTowardsAlarm n aw T s k = some r ∧ lp_ (fun (q : Int × Int × Int) => F_X12_soonest_L50 n k o2 fa q.1 q.2.1 q.2.2) n ((s : Int), 0, 0) = some r := by
  generalize hU : o2.2.2.2.2.2.2.2.2.2.2.2.2.2.2.2.2 = U at h
  have many : fa (o2.1).toNat = (j : Int) := by
    rw [ho, Int.toNat_natCast]
    rcases d2 s hs with ⟨b1, b2⟩ | ⟨i, b1, b2, b3, b4⟩
    · exact absurd hj.1 (b2 j)
    · rw [b3, fs_one b4 hj]
  have hU2 : clT S U := fun s g hs hg => by rw [← h (5 * s + g) (by omega)]; exact hT s g hs hg
  have raw : ∀ s, s < S → r4 (aw s) := fun s hs => by
    rcases d1 s hs with ⟨b1, b2⟩ | ⟨i, b1, b2, b3, b4⟩ <;> omega
  have aws : ∀ t m, t < S → fs_ T m t → aw t = (m : Int) := fun t m ht hm => by
    rcases d1 t ht with ⟨b1, b2⟩ | ⟨i, b1, b2, b3, b4⟩
    · exact absurd hm.1 (b2 m)
    · rw [b3, fs_one b4 hm]
  -- one step of both
  have one : ∀ t m, t < S → m + 1 ≤ j → fs_ T (m + 1) t → ∃ g : Nat, g < 5 ∧ F_X1_signTo n T aw t (aw t - 1) = some (g : Int) ∧ lfS T aw t g = (m : Int) ∧ lp_ (fun (q : Int) => F_X12_soonest_L59 n o2 fa t ((j - (m + 1) : Nat) : Int) q) n 0 = some (g : Int) := by
    intro t m ht hmj hm
    have a1 := aws t _ ht hm
    obtain ⟨r, s1, s2⟩ := p_signTo hn hS hT raw ht (x := aw t - 1) (by omega)
    rw [show aw t - 1 = (m : Int) by omega] at s1 s2 ⊢
    rcases s2 with ⟨s2, s3⟩ | ⟨g, s2, s3, s4, s5⟩
    · obtain ⟨g, g1, g2⟩ := lfS_ex hT d1 ht hm
      exact absurd g2 (s3 g g1)
    · refine ⟨g, s2, by rw [s1, s3], s4, ?_⟩
      have st : ∀ i : Nat, i < 5 → F_X12_soonest_L59 n o2 fa t ((j - (m + 1) : Nat) : Int) (i : Int) = if lfS U fa t i + 1 = (m : Int) + 1 then some (.inr (i : Int)) else some (.inl ((i : Int) + 1)) := by
        intro i hi
        have lr : r4 (lfS U fa t i + 1) := by
          have c := hU2 t i ht hi
          unfold lfS
          split
          · omega
          · rcases d2 (U (5 * t + i)).toNat (by omega) with ⟨b1, b2⟩ | ⟨i, b1, b2, b3, b4⟩ <;> omega
        have fb := p_farBehind (n := n) hS hU2 (a := fa) ht hi
        unfold F_X12_soonest_L59
        rw [hU, many, show (j : Int) - ((j - (m + 1) : Nat) : Int) = (m : Int) + 1 by omega]
        exact (bd_of fb).trans (ck_pos ⟨lr, by omega⟩)
      refine lp_for (fun i => (i : Int)) g (by omega) (fun i hi => ?_) ?_
      · rw [st i (by omega)]
        have := (lfS_iff hT h d1 d2 ht (show i < 5 by omega) (x := (m : Int)) (by omega))
        rw [if_neg (fun x => s5 i hi (this.mpr (by omega)))]
        rfl
      · rw [st g s2]
        have := (lfS_iff hT h d1 d2 ht s2 (x := (m : Int)) (by omega)).mp s4
        rw [if_pos (by omega)]
  obtain ⟨r, q, h1, h2, g, e1, e2⟩ := lp_two (f := fun (q : Int × Int × Int) => F_X1_signTowardsAlarm_L9 n k aw T q.1 q.2.1 q.2.2) (g := fun (q : Int × Int × Int) => F_X12_soonest_L50 n k o2 fa q.1 q.2.1 q.2.2)
    (fun i x y => ∃ xs xg ys yg : Int, x = (xs, xg, (i : Int)) ∧ y = (ys, yg, (i : Int)) ∧ i ≤ k + 1 ∧ (i ≤ k → ∃ t : Nat, xs = (t : Int) ∧ ys = (t : Int) ∧ t < S ∧ fs_ T (j - i) t) ∧ (i = k + 1 → xg = yg))
    (fun r q => ∃ g : Int, r = .inl g ∧ q = g) (N := k + 1) (n := n) (s := ((s : Int), -9, 0)) (t := ((s : Int), 0, 0)) (by omega) ⟨(s : Int), -9, (s : Int), 0, rfl, rfl, by omega, fun _ => ⟨s, rfl, rfl, hs, hj⟩, fun x => (by omega)⟩ (fun i x y hI hi => by
    obtain ⟨xs, xg, ys, yg, rfl, rfl, c1, c2, c3⟩ := hI
    dsimp only
    by_cases hlt : i ≤ k
    · left
      obtain ⟨t, rfl, rfl, ht, hf⟩ := c2 hlt
      have hf' : fs_ T (j - i - 1 + 1) t := by rw [show j - i - 1 + 1 = j - i by omega]; exact hf
      obtain ⟨g, g1, g2, g3, g4⟩ := one t (j - i - 1) ht (by omega) hf'
      rw [show j - (j - i - 1 + 1) = i by omega] at g4
      have tt : ((t : Int)).toNat = t := by omega
      have t1 : ((t : Int) * 5 + (g : Int)).toNat = 5 * t + g := by omega
      have t2 : (5 * (t : Int) + (g : Int)).toNat = 5 * t + g := by omega
      by_cases e : i < k
      · have nx := lfS_to hT d1 ht g1 (show 1 ≤ j - i - 1 by omega) g3
        refine ⟨(T (5 * t + g), (g : Int), (i : Int) + 1), (U (5 * t + g), (g : Int), (i : Int) + 1), ?_, ?_, ⟨_, _, _, _, rfl, rfl, by omega, fun _ => ⟨(T (5 * t + g)).toNat, by omega, by rw [← h _ (by omega)]; omega, by omega, by rw [show j - (i + 1) = j - i - 1 by omega]; exact nx.2.2⟩, fun _ => rfl⟩, by omega⟩
        · refine (ck_pos (by omega)).trans ((if_neg (by omega)).trans ((ck_pos (by omega)).trans ((if_pos (by omega)).trans ((bd_of (p_awayN (by omega))).trans ((bd_of g2).trans ((bdck1 (p_past1 (by omega))).trans ((bdck1 (p_sign1 (by omega))).trans ((ck_pos (by omega)).trans ?_))))))))
          rw [t1]
        · refine (ck_pos (by omega)).trans ((if_neg (by omega)).trans ((bd_of g4).trans ?_))
          rw [hU, t2]
          exact (bd_of (a := U (5 * t + g)) ((ck_pos (by omega)).trans ((if_pos (by omega)).trans (ck_pos (by omega))))).trans rfl
      · have ek : i = k := by omega
        refine ⟨(T (5 * t + g), (g : Int), (i : Int) + 1), ((t : Int), (g : Int), (i : Int) + 1), ?_, ?_, ⟨_, _, _, _, rfl, rfl, by omega, fun x => (by omega), fun _ => rfl⟩, by omega⟩
        · refine (ck_pos (by omega)).trans ((if_neg (by omega)).trans ((ck_pos (by omega)).trans ((if_pos (by omega)).trans ((bd_of (p_awayN (by omega))).trans ((bd_of g2).trans ((bdck1 (p_past1 (by omega))).trans ((bdck1 (p_sign1 (by omega))).trans ((ck_pos (by omega)).trans ?_))))))))
          rw [t1]
        · refine (ck_pos (by omega)).trans ((if_neg (by omega)).trans ((bd_of g4).trans ?_))
          exact (bd_of (a := (t : Int)) ((ck_pos (by omega)).trans (if_neg (by omega)))).trans rfl
    · right
      have c4 := c3 (by omega)
      subst c4
      exact ⟨.inl xg, xg, (ck_pos (by omega)).trans (if_pos (by omega)), (ck_pos (by omega)).trans (if_pos (by omega)), xg, rfl, rfl⟩)
  subst e1 e2
  exact ⟨q, (bd_of h1).trans rfl, h2⟩
