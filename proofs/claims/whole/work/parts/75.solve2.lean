theorem sm_zero {f : Nat → Int} {a : Nat} : ∀ b, (∀ k, a ≤ k → k < b → f k = 0) → a ≤ b → sm_ f b = sm_ f a := by
  intro b
  induction b with
  | zero => intro _ h; rw [show a = 0 by omega]
  | succ b ih =>
    intro h1 h2
    by_cases e : a = b + 1
    · rw [e]
    · show sm_ f b + f b = _
      rw [ih (fun k x y => h1 k x (by omega)) (by omega), h1 b (by omega) (by omega)]
      omega
theorem sm_single (a : Nat) (x : Int) : ∀ N, sm_ (fun k => if k = a then x else 0) N = if a < N then x else 0 := by
  intro N
  induction N with
  | zero => rw [if_neg (by omega)]; rfl
  | succ N ih =>
    show sm_ (fun k => if k = a then x else 0) N + (if N = a then x else 0) = _
    rw [ih]
    by_cases e : N = a
    · rw [if_neg (by omega), if_pos e, if_pos (by omega)]; omega
    · rw [if_neg e]
      by_cases e2 : a < N
      · rw [if_pos e2, if_pos (by omega)]; omega
      · rw [if_neg e2, if_neg (by omega)]; omega
theorem dt_65 {S : Nat} (hS : S ≤ 64) {r y : Nat → Int} (h : ∀ k, S ≤ k → k < 64 → r k = 0) : dt_ r y 65 = dt_ r y S + r 64 * y 64 := by
  show sm_ (fun c => r c * y c) 64 + r 64 * y 64 = _
  rw [sm_zero 64 (fun k a b => by rw [h k a b, Int.zero_mul]) hS]
  rfl
theorem p_solve {n : Nat} (hn : 1000 ≤ n) {S : Nat} (hS : S ≤ 64) {tb : Nat → Int} {M : Nat → Nat → Int} (hb : ∀ s k, s < S → k < 65 → 0 ≤ tb (65 * s + k) ∧ tb (65 * s + k) < 1000003) (hM : ∀ s k, s < S → k < S → cg (tb (65 * s + k)) (M s k)) (hz : ∀ s k, s < S → S ≤ k → k < 64 → tb (65 * s + k) = 0) (h10 : ∀ s, s < S → tb (65 * s + 64) = 10) : ∃ (b : Int) (tb' : Nat → Int), F_X12_solve n S tb = some (b, tb') ∧ (b = 1 ∧ one_ M S (fun s => tb' (65 * s + 64)) ∨ b = 0 ∧ none_ M S) := by
  have base : ∀ y, HS (fun s k => tb (65 * s + k)) S 65 y ↔ BS M S y (y 64) := by
    intro y
    have e : ∀ s, s < S → cg (dt_ (fun k => tb (65 * s + k)) y 65) (dt_ (M s) y S + 10 * y 64) := fun s hs => by
      rw [dt_65 hS (fun k a b => hz s k hs a b), h10 s hs]
      exact cg_add (dt_cg (fun c hc => hM s c hs hc)) (cg_rf _)
    exact ⟨fun g s hs => cg_tr (cg_sy (e s hs)) (g s hs), fun g s hs => cg_tr (e s hs) (g s hs)⟩
  obtain ⟨r, h1, h2⟩ := lp_rule (f := fun (q : Int × (Nat → Int)) => F_X12_solve_L2 n S q.1 q.2) (fun c q => ∃ T : Nat → Int, q = ((c : Int), T) ∧ c ≤ S ∧ clI S T c ∧ (∀ s k, s < S → S ≤ k → k < 64 → T (65 * s + k) = 0) ∧ ∀ y, HS (fun s k => T (65 * s + k)) S 65 y ↔ BS M S y (y 64))
    (fun r => ∃ T : Nat → Int, r = .inl T ∧ one_ M S (fun s => T (65 * s + 64)) ∨ r = .inr T ∧ none_ M S) (N := S) (n := n) (s := (0, tb)) (by omega) ⟨tb, rfl, by omega, ⟨hb, fun s k a b => by omega⟩, hz, base⟩ (fun c q hI hc => by
    obtain ⟨T, rfl, c0, c1, c2, c3⟩ := hI
    dsimp only
    by_cases hlt : c < S
    · obtain ⟨p, f1, f2, f3, f4, f5⟩ := p_findRow hn hS c1 hlt
      by_cases hp : p < S
      · left
        obtain ⟨o8, o10, o11, o16, g1, g2, g3, g4, g5, g6, g7⟩ := p_column hn hS c1 hlt ⟨f2, hp⟩ (f5 hp)
        have t6 : (66 * (c : Int)).toNat = 66 * c := by omega
        refine ⟨((c : Int) + 1, o16), ?_, ⟨o16, rfl, by omega, g5, fun s k hs a b => g6 k b (fun s hs => c2 s k hs a b) s hs, fun y => (g7 y).trans (c3 y)⟩, hlt⟩
        refine (ck_pos (by omega)).trans ((if_pos (by omega)).trans ((bd_of f1).trans ((ck_pos (by omega)).trans ((if_neg (by omega)).trans ((bd_of g1).trans ((ck_pos (by omega)).trans ?_))))))
        rw [t6]
        exact (bd_of g2).trans ((bd_of g3).trans ((bd_of g4).trans rfl))
      · right
        have pS : p = S := by omega
        subst pS
        refine ⟨.inr T, (ck_pos (by omega)).trans ((if_pos (by omega)).trans ((bd_of f1).trans ((ck_pos (by omega)).trans (if_pos rfl)))), T, Or.inr ⟨rfl, ?_⟩⟩
        refine ⟨fun k => if k = c then 1 else if k < c then -(T (65 * k + c)) else 0, ?_, c, hlt, ?_⟩
        · have b := (c3 (fun k => if k = c then 1 else if k < c then -(T (65 * k + c)) else 0)).mp (fun s hs => ?_)
          · rw [if_neg (show ¬ 64 = c by omega), if_neg (show ¬ 64 < c by omega)] at b
            exact b
          · have e : dt_ (fun k => T (65 * s + k)) (fun k => if k = c then 1 else if k < c then -(T (65 * k + c)) else 0) 65 = sm_ (fun k => (if k = c then T (65 * s + c) else 0) + (if k = s then (if s < c then -(T (65 * s + c)) else 0) else 0)) 65 := by
              refine sm_congr (N := 65) (fun k hk => ?_) 65 (Nat.le_refl 65)
              dsimp only
              by_cases e1 : k = c
              · subst e1
                rw [if_pos rfl, if_pos rfl, Int.mul_one]
                by_cases e2 : k = s
                · subst e2
                  rw [if_pos rfl, if_neg (show ¬ k < k by omega)]; omega
                · rw [if_neg e2]; omega
              · rw [if_neg e1, if_neg e1]
                by_cases e2 : k < c
                · rw [if_pos e2, c1.2 s k hs e2]
                  by_cases e3 : k = s
                  · subst e3
                    rw [if_pos rfl, if_pos rfl, if_pos e2]; omega
                  · rw [if_neg (fun x => e3 x.symm), if_neg e3]; omega
                · rw [if_neg e2, Int.mul_zero]
                  by_cases e3 : k = s
                  · subst e3
                    rw [if_pos rfl, if_neg e2]; omega
                  · rw [if_neg e3]; omega
            rw [e, sm_add, sm_single, sm_single, if_pos (by omega), if_pos (by omega)]
            by_cases e2 : s < c
            · rw [if_pos e2, show T (65 * s + c) + -T (65 * s + c) = 0 by omega]
              exact cg_rf 0
            · rw [if_neg e2, f4 s (by omega) hs]
              exact cg_rf 0
        · show ¬ cg (if c = c then 1 else _) 0
          rw [if_pos rfl]
          rintro ⟨k, hk⟩
          omega
    · right
      have : c = S := by omega
      subst this
      refine ⟨.inl T, (ck_pos (by omega)).trans (if_neg (by omega)), T, Or.inl ⟨rfl, ?_⟩⟩
      have un : ∀ s y, s < c → dt_ (fun k => T (65 * s + k)) y 65 = y s + T (65 * s + 64) * y 64 := by
        intro s y hs
        rw [dt_65 hS (fun k a b => c2 s k hs a b)]
        congr 1
        have e : dt_ (fun k => T (65 * s + k)) y c = sm_ (fun k => if k = s then y s else 0) c := by
          refine sm_congr (N := c) (fun k hk => ?_) c (Nat.le_refl c)
          dsimp only
          rw [c1.2 s k hs hk]
          by_cases e : k = s
          · subst e; rw [if_pos rfl, if_pos rfl]; omega
          · rw [if_neg (fun x => e x.symm), if_neg e]; omega
        rw [e, sm_single, if_pos hs]
      refine ⟨fun s hs => c1.1 s 64 hs (by omega), ?_, fun x hx s hs => ?_⟩
      · have b := (c3 (fun k => if k = 64 then -1 else T (65 * k + 64))).mp (fun s hs => by
          rw [un s _ hs, if_neg (show ¬ s = 64 by omega), if_pos rfl, show T (65 * s + 64) + T (65 * s + 64) * -1 = 0 by omega]
          exact cg_rf 0)
        rw [if_pos rfl] at b
        intro s hs
        have e : dt_ (M s) (fun k => if k = 64 then -1 else T (65 * k + 64)) c = dt_ (M s) (fun s => T (65 * s + 64)) c := sm_congr (N := c) (fun k hk => by dsimp only; rw [if_neg (show ¬ k = 64 by omega)]) c (Nat.le_refl c)
        have := b s hs
        rw [e] at this
        exact this
      · have b := (c3 (fun k => if k = 64 then 0 else x k)).mpr (fun s hs => by
          have e : dt_ (M s) (fun k => if k = 64 then 0 else x k) c = dt_ (M s) x c := sm_congr (N := c) (fun k hk => by dsimp only; rw [if_neg (show ¬ k = 64 by omega)]) c (Nat.le_refl c)
          rw [e, if_pos rfl]
          exact hx s hs) s hs
        rw [un s _ hs, if_neg (show ¬ s = 64 by omega), if_pos rfl, Int.mul_zero, Int.add_zero] at b
        exact b)
  unfold F_X12_solve
  obtain ⟨T, h2 | h2⟩ := h2
  · obtain ⟨rfl, h3⟩ := h2
    exact ⟨1, T, (bd_of h1).trans rfl, Or.inl ⟨rfl, h3⟩⟩
  · obtain ⟨rfl, h3⟩ := h2
    exact ⟨0, T, (bd_of h1).trans rfl, Or.inr ⟨rfl, h3⟩⟩
