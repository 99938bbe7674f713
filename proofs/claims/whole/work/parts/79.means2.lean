theorem dt_S1 {S : Nat} (r y : Nat → Int) : dt_ r y (S + 1) = dt_ r y S + r S * y S := rfl
theorem p_numbers {n : Nat} (hn : 1000 ≤ n) {S : Nat} (hS : S ≤ 64) {L : List Nat} {g : Nat → Nat} (hg : gI L g) {T ch : Nat → Int} (hT : clT S T) (hc : okC ch) (pr : Nat → Nat → Int) (cols nm : Nat → Int) : ∃ (b : Int) (pr1 pr' : Nat → Nat → Int) (g' : Nat → Nat) (cols' : Nat → Int), F_X2_setUp n L S g pr T ch = some ((S : Int), g, pr1) ∧ F_X2_eliminate n L S g pr1 cols = some (b, g', pr', cols') ∧ gI L g' ∧ (b = 1 ∧ (∃ nm', F_X2_fillIn n L S g' pr' nm = some nm' ∧ one_ (fun s c => mxS T ch s c 5) S nm') ∨ b = 0 ∧ none_ (fun s c => mxS T ch s c 5) S) := by
  obtain ⟨pr1, s1, s2, s3, s4⟩ := p_setUp hn hS hg hT hc pr
  obtain ⟨b, g', pr', cols', e1, e2, e3⟩ := p_eliminate hn hS hg s2 cols
  have base : ∀ y, HS (fun s c => pr1 (g s) c) S (S + 1) y ↔ BS (fun s c => mxS T ch s c 5) S y (y S) := by
    intro y
    have e : ∀ s, s < S → cg (dt_ (fun c => pr1 (g s) c) y (S + 1)) (dt_ (fun c => mxS T ch s c 5) y S + 10 * y S) := fun s hs => by
      rw [dt_S1, s4 s hs]
      exact cg_add (dt_cg (fun c hc => s3 s c hs hc)) (cg_rf _)
    exact ⟨fun q s hs => cg_tr (cg_sy (e s hs)) (q s hs), fun q s hs => cg_tr (e s hs) (q s hs)⟩
  refine ⟨b, pr1, pr', g', cols', s1, e1, e2, ?_⟩
  rcases e3 with ⟨rfl, el, eq⟩ | ⟨rfl, x, x1, x2, s, hs, x3⟩
  · refine Or.inl ⟨rfl, ?_⟩
    obtain ⟨nm', f1, f2⟩ := p_fillIn hn hS e2 el nm
    have row : ∀ s y, s < S → dt_ (fun c => pr' (g' s) c) y (S + 1) = sm_ (fun c => pr' (g' s) c * y c) s + y s + pr' (g' s) S * y S := by
      intro s y hs
      rw [dt_S1]
      have e1 : dt_ (fun c => pr' (g' s) c) y S = sm_ (fun c => pr' (g' s) c * y c) (s + 1) := sm_zero (a := s + 1) S (fun k a b => by
        have z : pr' (g' s) k = 0 := el.2.1 s k hs b (by omega) (by omega)
        dsimp only
        rw [z, Int.zero_mul]) (by omega)
      have d : pr' (g' s) s = 1 := el.2.2 s hs (by omega)
      have e2 : sm_ (fun c => pr' (g' s) c * y c) (s + 1) = sm_ (fun c => pr' (g' s) c * y c) s + pr' (g' s) s * y s := rfl
      have e3 : dt_ (fun c => pr' (g' s) c) y S = sm_ (fun c => pr' (g' s) c * y c) s + y s := by rw [e1, e2, d, Int.one_mul]
      rw [e3]
    refine ⟨nm', f1, fun s hs => (f2 s hs).1, ?_, fun x hx => ?_⟩
    · have yS : ∀ c, c < S → (if c = S then (-1 : Int) else nm' c) = nm' c := fun c hc => if_neg (by omega)
      have q := (base (fun c => if c = S then -1 else nm' c)).mp ((eq _).mp (fun s hs => by
        rw [row s _ hs, yS s hs, if_pos rfl, sm_congr (f := fun c => pr' (g' s) c * if c = S then -1 else nm' c) (g := fun c => pr' (g' s) c * nm' c) (N := s) (fun c hc => by rw [yS c (by omega)]) s (Nat.le_refl s)]
        obtain ⟨j, hj⟩ := (f2 s hs).2
        exact ⟨j, by omega⟩))
      rw [if_pos rfl] at q
      intro s hs
      have e := q s hs
      have e2 : dt_ (fun c => mxS T ch s c 5) (fun c => if c = S then -1 else nm' c) S = dt_ (fun c => mxS T ch s c 5) nm' S := sm_congr (N := S) (fun c hc => by dsimp only; rw [yS c hc]) S (Nat.le_refl S)
      rw [e2] at e
      exact e
    · have yS : ∀ c, c < S → (if c = S then (0 : Int) else x c) = x c := fun c hc => if_neg (by omega)
      have q := (eq _).mpr ((base (fun c => if c = S then 0 else x c)).mpr (fun s hs => by
        have e2 : dt_ (fun c => mxS T ch s c 5) (fun c => if c = S then 0 else x c) S = dt_ (fun c => mxS T ch s c 5) x S := sm_congr (N := S) (fun c hc => by dsimp only; rw [yS c hc]) S (Nat.le_refl S)
        rw [e2, if_pos rfl]
        exact hx s hs))
      intro s
      induction s using Nat.strongRecOn with
      | ind s ih =>
        intro hs
        have e := q s hs
        rw [row s _ hs, yS s hs, if_pos rfl, Int.mul_zero, Int.add_zero] at e
        have z : cg (sm_ (fun c => pr' (g' s) c * if c = S then 0 else x c) s) (sm_ (fun _ => 0) s) := sm_cg (N := s) (fun c hc => by
          rw [yS c (by omega)]
          have := cg_mul' (ih c hc (by omega)) (pr' (g' s) c)
          rw [Int.mul_zero] at this
          exact this) s (Nat.le_refl s)
        have zz : sm_ (fun _ => 0) s = 0 := sm_zero (a := 0) s (fun _ _ _ => rfl) (by omega)
        rw [zz] at z
        obtain ⟨j, hj⟩ := z
        obtain ⟨k, hk⟩ := e
        exact ⟨k - j, by omega⟩
  · refine Or.inr ⟨rfl, x, ?_, s, hs, fun z => ?_⟩
    · have := (base x).mp x1
      rw [x2] at this
      exact this
    · rw [x3] at z
      obtain ⟨k, hk⟩ := z
      omega
theorem mxS_congr {S : Nat} {T U ch : Nat → Int} (h : ∀ j, j < 5 * S → T j = U j) {s c : Nat} (hs : s < S) : ∀ g, g ≤ 5 → mxS T ch s c g = mxS U ch s c g := by
  intro g
  induction g with
  | zero => intro _; rfl
  | succ g ih =>
    intro hg
    show mxS T ch s c g - (if T (5 * s + g) = (c : Int) then ch g else 0) = mxS U ch s c g - (if U (5 * s + g) = (c : Int) then ch g else 0)
    rw [ih (by omega), h (5 * s + g) (by omega)]
theorem mxS_chg {T ch ch' : Nat → Int} (h : ∀ g, g < 5 → ch g = ch' g) {s c : Nat} : ∀ g, g ≤ 5 → mxS T ch s c g = mxS T ch' s c g := by
  intro g
  induction g with
  | zero => intro _; rfl
  | succ g ih =>
    intro hg
    show mxS T ch s c g - (if T (5 * s + g) = (c : Int) then ch g else 0) = mxS T ch' s c g - (if T (5 * s + g) = (c : Int) then ch' g else 0)
    rw [ih (by omega), h g (by omega)]
theorem dt_congr {r r' y : Nat → Int} {K : Nat} (h : ∀ c, c < K → r c = r' c) : dt_ r y K = dt_ r' y K := sm_congr (N := K) (fun c hc => by rw [h c hc]) K (Nat.le_refl K)
theorem BS_congr {M M' : Nat → Nat → Int} {S : Nat} (h : ∀ s c, s < S → c < S → M s c = M' s c) {x : Nat → Int} {t : Int} (g : BS M S x t) : BS M' S x t := by
  intro s hs
  rw [← dt_congr (fun c hc => h s c hs hc)]
  exact g s hs
theorem one_congr {M M' : Nat → Nat → Int} {S : Nat} (h : ∀ s c, s < S → c < S → M s c = M' s c) {v : Nat → Int} (g : one_ M S v) : one_ M' S v := ⟨g.1, BS_congr h g.2.1, fun x hx => g.2.2 x (BS_congr (fun s c a b => (h s c a b).symm) hx)⟩
theorem none_congr {M M' : Nat → Nat → Int} {S : Nat} (h : ∀ s c, s < S → c < S → M s c = M' s c) (g : none_ M S) : none_ M' S := by
  obtain ⟨x, a, b⟩ := g
  exact ⟨x, BS_congr h a, b⟩
theorem p_layTable {n : Nat} (hn : 1000 ≤ n) {S : Nat} (hS : S ≤ 64) {U now : Nat → Int} (hT : clT S U) (hc : okC (fun g => now (10 + g))) (tb : Nat → Int) : ∃ tb', F_X12_layTable n S tb U now = some tb' ∧ (∀ s k, s < S → k < 65 → 0 ≤ tb' (65 * s + k) ∧ tb' (65 * s + k) < 1000003) ∧ (∀ s k, s < S → k < S → cg (tb' (65 * s + k)) (mxS U (fun g => now (10 + g)) s k 5)) ∧ (∀ s k, s < S → S ≤ k → k < 64 → tb' (65 * s + k) = 0) ∧ ∀ s, s < S → tb' (65 * s + 64) = 10 := by
  generalize hch : (fun g => now (10 + g)) = ch at hc ⊢
  have hch2 : ∀ g, now (10 + g) = ch g := fun g => by rw [← hch]
  obtain ⟨o, h1, h2⟩ := lp_rule (f := fun (q : Int × (Nat → Int)) => F_X12_layTable_L2 n S U now q.1 q.2) (fun s q => ∃ tb' : Nat → Int, q = ((s : Int), tb') ∧ s ≤ S ∧ (∀ t k, t < s → k < 65 → 0 ≤ tb' (65 * t + k) ∧ tb' (65 * t + k) < 1000003) ∧ (∀ t k, t < s → k < S → cg (tb' (65 * t + k)) (mxS U ch t k 5)) ∧ (∀ t k, t < s → S ≤ k → k < 64 → tb' (65 * t + k) = 0) ∧ ∀ t, t < s → tb' (65 * t + 64) = 10)
    (fun tb' => (∀ s k, s < S → k < 65 → 0 ≤ tb' (65 * s + k) ∧ tb' (65 * s + k) < 1000003) ∧ (∀ s k, s < S → k < S → cg (tb' (65 * s + k)) (mxS U ch s k 5)) ∧ (∀ s k, s < S → S ≤ k → k < 64 → tb' (65 * s + k) = 0) ∧ ∀ s, s < S → tb' (65 * s + 64) = 10) (N := S) (n := n) (s := (0, tb)) (by omega) ⟨tb, rfl, by omega, fun t c ht => by omega, fun t c ht => by omega, fun t c ht => by omega, fun t ht => by omega⟩ (fun s q hI hs => by
    obtain ⟨tb1, rfl, c0, c1, c2, c3, c4⟩ := hI
    dsimp only
    by_cases hlt : s < S
    · left
      obtain ⟨tb2, k1, k2⟩ := lp_rule (f := fun (q : Int × (Nat → Int)) => F_X12_layTable_L12 n s q.1 q.2) (fun i q => ∃ T : Nat → Int, q = ((i : Int), T) ∧ ∀ t k, k < 65 → T (65 * t + k) = if t = s ∧ k < i then (if k = 64 then 10 else if k = s then 10 else 0) else tb1 (65 * t + k))
        (fun T => ∀ t k, k < 65 → T (65 * t + k) = if t = s then (if k = 64 then 10 else if k = s then 10 else 0) else tb1 (65 * t + k)) (N := 65) (n := n) (s := (0, tb1)) (by omega) ⟨tb1, rfl, fun t k hk => by rw [if_neg (fun x => by omega)]⟩ (fun i q hI hi => by
        obtain ⟨T, rfl, d1⟩ := hI
        dsimp only
        by_cases hli : i < 65
        · left
          have t1 : (65 * (s : Int) + (i : Int)).toNat = 65 * s + i := by omega
          refine ⟨((i : Int) + 1, up_ T (65 * s + i) (if i = 64 then 10 else if i = s then 10 else 0)), ?_, ⟨_, rfl, fun t k hk => ?_⟩, hli⟩
          · refine (ck_pos (by omega)).trans ((if_pos (by omega)).trans ((bd_of (a := if i = 64 then (10 : Int) else if i = s then 10 else 0) ?_).trans ((ck_pos (by omega)).trans ?_)))
            · refine (ck_pos (by omega)).trans ?_
              by_cases e1 : i = 64
              · rw [if_pos e1, if_pos (by omega)]
              · rw [if_neg e1, if_neg (by omega)]
                refine (ck_pos (by omega)).trans ?_
                by_cases e2 : i = s
                · rw [if_pos e2, if_pos (by omega)]
                · rw [if_neg e2, if_neg (by omega)]
            · rw [t1]
          · rw [up65 hli hk, d1 t k hk]
            by_cases e : t = s ∧ k = i
            · rw [if_pos e, if_pos (show t = s ∧ k < i + 1 from ⟨e.1, by omega⟩), e.2]
            · rw [if_neg e]
              by_cases e2 : t = s ∧ k < i
              · rw [if_pos e2, if_pos (show t = s ∧ k < i + 1 from ⟨e2.1, by omega⟩)]
              · rw [if_neg e2, if_neg (fun x => by omega)]
        · right
          have : i = 65 := by omega
          subst this
          refine ⟨T, (ck_pos (by omega)).trans (if_neg (by omega)), fun t k hk => ?_⟩
          rw [d1 t k hk]
          by_cases e : t = s
          · rw [if_pos ⟨e, hk⟩, if_pos e]
          · rw [if_neg (fun x => e x.1), if_neg e])
      obtain ⟨tb3, l1, l2, l3, l4, l5, l6⟩ := lp_rule (f := fun (q : Int × (Nat → Int)) => F_X12_layTable_L61 n s U now q.1 q.2) (fun i q => ∃ T : Nat → Int, q = ((i : Int), T) ∧ (∀ t k, t ≠ s → k < 65 → T (65 * t + k) = tb1 (65 * t + k)) ∧ (∀ k, k < 65 → 0 ≤ T (65 * s + k) ∧ T (65 * s + k) < 1000003) ∧ (∀ k, k < S → cg (T (65 * s + k)) (mxS U ch s k i)) ∧ (∀ k, S ≤ k → k < 64 → T (65 * s + k) = 0) ∧ T (65 * s + 64) = 10)
        (fun T => (∀ t k, t ≠ s → k < 65 → T (65 * t + k) = tb1 (65 * t + k)) ∧ (∀ k, k < 65 → 0 ≤ T (65 * s + k) ∧ T (65 * s + k) < 1000003) ∧ (∀ k, k < S → cg (T (65 * s + k)) (mxS U ch s k 5)) ∧ (∀ k, S ≤ k → k < 64 → T (65 * s + k) = 0) ∧ T (65 * s + 64) = 10) (N := 5) (n := n) (s := (0, tb2)) (by omega) ⟨tb2, rfl, fun t k e hk => by rw [k2 t k hk, if_neg e], fun k hk => by
          rw [k2 s k hk, if_pos rfl]
          split
          · omega
          · split <;> omega, fun k hk => by
          rw [k2 s k (by omega), if_pos rfl, if_neg (by omega)]
          exact cg_rf _, fun k a b => by rw [k2 s k (by omega), if_pos rfl, if_neg (by omega), if_neg (by omega)], by rw [k2 s 64 (by omega), if_pos rfl, if_pos rfl]⟩ (fun i q hI hi => by
        obtain ⟨T, rfl, d1, d2, d3, d4, d5⟩ := hI
        dsimp only
        by_cases hli : i < 5
        · left
          have t1 : (5 * (s : Int) + (i : Int)).toNat = 5 * s + i := by omega
          have t2 : (10 + (i : Int)).toNat = 10 + i := by omega
          have tt := hT s i hlt hli
          have bc := hc.1 i hli
          have em : ∀ c, mxS U ch s c (i + 1) = mxS U ch s c i - if U (5 * s + i) = (c : Int) then ch i else 0 := fun _ => rfl
          by_cases e5 : U (5 * s + i) = -5
          · refine ⟨((i : Int) + 1, T), ?_, ⟨T, rfl, d1, d2, fun c hcS => ?_, d4, d5⟩, hli⟩
            · refine (ck_pos (by omega)).trans ((if_pos (by omega)).trans ((ck_pos (by omega)).trans ?_))
              rw [t1]
              exact (bd_of (a := T) ((ck_pos (by omega)).trans (if_pos e5))).trans rfl
            · rw [em, if_neg (by omega), Int.sub_zero]; exact d3 c hcS
          · obtain ⟨t, ht⟩ : ∃ t : Nat, U (5 * s + i) = (t : Int) := ⟨(U (5 * s + i)).toNat, by omega⟩
            have t3 : (65 * (s : Int) + (t : Int)).toNat = 65 * s + t := by omega
            have bt := d2 t (by omega)
            have t64 : t < 64 := by omega
            refine ⟨((i : Int) + 1, up_ T (65 * s + t) ((T (65 * s + t) + 1000003 - ch i) % 1000003)), ?_, ⟨_, rfl, fun a c x hcc => ?_, fun c hcc => ?_, fun c hcS => ?_, fun c a b => ?_, ?_⟩, hli⟩
            · refine (ck_pos (by omega)).trans ((if_pos (by omega)).trans ((ck_pos (by omega)).trans ?_))
              rw [t1, ht, t3, t2, hch2]
              exact (bd_of (a := up_ T (65 * s + t) ((T (65 * s + t) + 1000003 - ch i) % 1000003)) ((ck_pos (by omega)).trans ((if_neg (by omega)).trans ((ck_pos (by omega)).trans ((ck_pos (by omega)).trans ((ck_pos (by omega)).trans ((ck_pos (by omega)).trans (ck_pos (by omega))))))))).trans rfl
            · rw [up65 (by omega) hcc, if_neg (fun y => x y.1)]; exact d1 a c x hcc
            · rw [up65 (by omega) hcc]
              split
              · exact md_b _
              · exact d2 c hcc
            · rw [up65 (by omega) (by omega), em, ht]
              by_cases e : c = t
              · rw [if_pos ⟨rfl, e⟩, if_pos (by omega)]
                refine cg_tr (cg_mod _) ?_
                obtain ⟨j, hj⟩ := d3 t (by omega)
                rw [e]
                exact ⟨j + 1, by omega⟩
              · rw [if_neg (fun y => e y.2), if_neg (by omega), Int.sub_zero]
                exact d3 c hcS
            · rw [up65 (by omega) (by omega), if_neg (fun y => by omega)]; exact d4 c a b
            · rw [up65 (by omega) (by omega), if_neg (fun y => by omega)]; exact d5
        · right
          have : i = 5 := by omega
          subst this
          exact ⟨T, (ck_pos (by omega)).trans (if_neg (by omega)), d1, d2, d3, d4, d5⟩)
      refine ⟨((s : Int) + 1, tb3), (ck_pos (by omega)).trans ((if_pos (by omega)).trans ((bd_of k1).trans ((bd_of l1).trans rfl))), ⟨tb3, rfl, by omega, fun t k ht hk => ?_, fun t k ht hk => ?_, fun t k ht a b => ?_, fun t ht => ?_⟩, hlt⟩
      · by_cases e : t = s
        · rw [e]; exact l3 k hk
        · rw [l2 t k e hk]; exact c1 t k (by omega) hk
      · by_cases e : t = s
        · rw [e]; exact l4 k hk
        · rw [l2 t k e (by omega)]; exact c2 t k (by omega) hk
      · by_cases e : t = s
        · rw [e]; exact l5 k a b
        · rw [l2 t k e (by omega)]; exact c3 t k (by omega) a b
      · by_cases e : t = s
        · rw [e]; exact l6
        · rw [l2 t 64 e (by omega)]; exact c4 t (by omega)
    · right
      have : s = S := by omega
      subst this
      exact ⟨tb1, (ck_pos (by omega)).trans (if_neg (by omega)), c1, c2, c3, c4⟩)
  exact ⟨o, (bd_of h1).trans rfl, h2⟩
