/-! the numbers of states -/
theorem p_fillIn {n : Nat} (hn : 1000 ≤ n) {S : Nat} (hS : S ≤ 64) {L : List Nat} {g : Nat → Nat} (hg : gI L g) {pr : Nat → Nat → Int} (h : elI S (fun s c => pr (g s) c) 0) (nm : Nat → Int) : ∃ nm', F_X2_fillIn n L S g pr nm = some nm' ∧ ∀ s, s < S → (0 ≤ nm' s ∧ nm' s < 1000003) ∧ cg (nm' s) (pr (g s) S - sm_ (fun c => pr (g s) c * nm' c) s) := by
  have tS : ((S : Int)).toNat = S := by omega
  obtain ⟨o, h1, h2⟩ := lp_rule (f := fun (q : Int × (Nat → Int)) => F_X2_fillIn_L2 n S g L pr q.1 q.2) (fun s q => ∃ nm' : Nat → Int, q = ((s : Int), nm') ∧ s ≤ S ∧ ∀ t, t < s → (0 ≤ nm' t ∧ nm' t < 1000003) ∧ cg (nm' t) (pr (g t) S - sm_ (fun c => pr (g t) c * nm' c) t))
    (fun nm' => ∀ s, s < S → (0 ≤ nm' s ∧ nm' s < 1000003) ∧ cg (nm' s) (pr (g s) S - sm_ (fun c => pr (g s) c * nm' c) s)) (N := S) (n := n) (s := (0, nm)) (by omega) ⟨nm, rfl, by omega, fun t ht => by omega⟩ (fun s q hI hs => by
    obtain ⟨nm', rfl, c0, c1⟩ := hI
    dsimp only
    by_cases hlt : s < S
    · left
      have ts : ((s : Int)).toNat = s := by omega
      have gs := hg.1 s (by omega)
      have bS := h.1 s S hlt (Nat.le_refl S)
      dsimp only at bS
      obtain ⟨v, l1, l2, l3⟩ := lp_rule (f := fun (q : Int × Int) => F_X2_fillIn_L26 n s g L pr nm' q.1 q.2) (fun k q => ∃ v : Int, q = (v, (k : Int)) ∧ k ≤ s ∧ (0 ≤ v ∧ v < 1000003) ∧ cg v (pr (g s) S - sm_ (fun c => pr (g s) c * nm' c) k))
        (fun v => (0 ≤ v ∧ v < 1000003) ∧ cg v (pr (g s) S - sm_ (fun c => pr (g s) c * nm' c) s)) (N := s) (n := n) (s := (pr (g s) S, 0)) (by omega) ⟨_, rfl, by omega, bS, by show cg _ (_ - 0); rw [Int.sub_zero]; exact cg_rf _⟩ (fun k q hI hk => by
        obtain ⟨v, rfl, d0, d1, d2⟩ := hI
        dsimp only
        by_cases hlk : k < s
        · left
          have tk : ((k : Int)).toNat = k := by omega
          have bk := h.1 s k hlt (by omega)
          dsimp only at bk
          have nk := (c1 k hlk).1
          have b := ml_b nk (show 0 ≤ 1000003 - pr (g s) k ∧ 1000003 - pr (g s) k ≤ 1000003 by omega)
          rw [Int.mul_comm] at b
          have es : sm_ (fun c => pr (g s) c * nm' c) (k + 1) = sm_ (fun c => pr (g s) c * nm' c) k + pr (g s) k * nm' k := rfl
          by_cases e : pr (g s) k = 0
          · refine ⟨(v, (k : Int) + 1), ?_, ⟨v, rfl, by omega, d1, ?_⟩, hlk⟩
            · refine (ck_pos (by omega)).trans ((if_pos (by omega)).trans ((ck_pos (by omega)).trans ?_))
              rw [ts, tk]
              exact (ck_pos gs).trans ((ck_pos (by omega)).trans ((ck_pos (by omega)).trans ((bd_of (a := v) ((ck_pos (by omega)).trans (if_pos e))).trans rfl)))
            · rw [es, e, Int.zero_mul, Int.add_zero]; exact d2
          · refine ⟨((v + (1000003 - pr (g s) k) * nm' k) % 1000003, (k : Int) + 1), ?_, ⟨_, rfl, by omega, md_b _, ?_⟩, hlk⟩
            · refine (ck_pos (by omega)).trans ((if_pos (by omega)).trans ((ck_pos (by omega)).trans ?_))
              rw [ts, tk]
              exact (ck_pos gs).trans ((ck_pos (by omega)).trans ((ck_pos (by omega)).trans ((bd_of (a := (v + (1000003 - pr (g s) k) * nm' k) % 1000003) ((ck_pos (by omega)).trans ((if_neg e).trans ((ck_pos (by omega)).trans ((ck_pos (by omega)).trans (ck_pos (by omega))))))).trans rfl)))
            · refine cg_tr (cg_mod _) ?_
              rw [es, Int.sub_mul]
              obtain ⟨j, hj⟩ := d2
              exact ⟨j + nm' k, by omega⟩
        · right
          have : k = s := by omega
          subst this
          exact ⟨v, (ck_pos (by omega)).trans (if_neg (by omega)), d1, d2⟩)
      refine ⟨((s : Int) + 1, up_ nm' s v), ?_, ⟨_, rfl, by omega, fun t ht => ?_⟩, hlt⟩
      · refine (ck_pos (by omega)).trans ((if_pos (by omega)).trans ((ck_pos (by omega)).trans ?_))
        rw [ts, tS]
        exact (ck_pos gs).trans ((ck_pos (by omega)).trans ((ck_pos (by omega)).trans ((bd_of l1).trans (ck_pos (by omega)))))
      · have sc : sm_ (fun c => pr (g t) c * up_ nm' s v c) t = sm_ (fun c => pr (g t) c * nm' c) t := sm_congr (N := t) (fun c hc => by rw [up_off (by omega)]) t (Nat.le_refl t)
        rw [sc]
        by_cases e : t = s
        · subst e; rw [up_at]; exact ⟨l2, l3⟩
        · rw [up_off e]; exact c1 t (by omega)
    · right
      have : s = S := by omega
      subst this
      exact ⟨nm', (ck_pos (by omega)).trans (if_neg (by omega)), c1⟩)
  exact ⟨o, (bd_of h1).trans rfl, h2⟩
/-- what a state's line has at a state's column -/
def mxS (T ch : Nat → Int) (s c : Nat) : Nat → Int
  | 0 => if c = s then 10 else 0
  | g + 1 => mxS T ch s c g - if T (5 * s + g) = (c : Int) then ch g else 0
theorem p_setUp {n : Nat} (hn : 1000 ≤ n) {S : Nat} (hS : S ≤ 64) {L : List Nat} {g : Nat → Nat} (hg : gI L g) {T ch : Nat → Int} (hT : clT S T) (hc : okC ch) (pr : Nat → Nat → Int) : ∃ pr', F_X2_setUp n L S g pr T ch = some ((S : Int), g, pr') ∧ (∀ s c, s < S → c ≤ S → 0 ≤ pr' (g s) c ∧ pr' (g s) c < 1000003) ∧ (∀ s c, s < S → c < S → cg (pr' (g s) c) (mxS T ch s c 5)) ∧ ∀ s, s < S → pr' (g s) S = 10 := by
  have mS : min 64 (S : Int) = (S : Int) := by omega
  have inj : ∀ s t, s < S → t < S → s ≠ t → g s ≠ g t := fun s t hs ht e x => e (hg.2 s t (by omega) (by omega) x)
  obtain ⟨o, h1, h2⟩ := lp_rule (f := fun (q : Int × (Nat → Nat → Int)) => F_X2_setUp_L15 n S g L T ch q.1 q.2) (fun s q => ∃ pr' : Nat → Nat → Int, q = ((s : Int), pr') ∧ s ≤ S ∧ (∀ t c, t < s → c ≤ S → 0 ≤ pr' (g t) c ∧ pr' (g t) c < 1000003) ∧ (∀ t c, t < s → c < S → cg (pr' (g t) c) (mxS T ch t c 5)) ∧ ∀ t, t < s → pr' (g t) S = 10)
    (fun pr' => (∀ s c, s < S → c ≤ S → 0 ≤ pr' (g s) c ∧ pr' (g s) c < 1000003) ∧ (∀ s c, s < S → c < S → cg (pr' (g s) c) (mxS T ch s c 5)) ∧ ∀ s, s < S → pr' (g s) S = 10) (N := S) (n := n) (s := (0, pr)) (by omega) ⟨pr, rfl, by omega, fun t c ht => by omega, fun t c ht => by omega, fun t ht => by omega⟩ (fun s q hI hs => by
    obtain ⟨pr1, rfl, c0, c1, c2, c3⟩ := hI
    dsimp only
    by_cases hlt : s < S
    · left
      have ts : ((s : Int)).toNat = s := by omega
      have tS : ((S : Int)).toNat = S := by omega
      have gs := hg.1 s (by omega)
      generalize hst : u2_ (u2_ (up_ pr1 (g s) (ov (fun _ => 0) (pr1 (g s)) 65)) (g s) s 10) (g s) S 10 = pr2
      have p2 : ∀ a c, c < 65 → pr2 a c = if a = g s then (if c = S then 10 else if c = s then 10 else 0) else pr1 a c := fun a c hcc => by
        rw [← hst, u2_at, u2_at]
        by_cases e : a = g s
        · rw [if_pos e]
          by_cases e1 : c = S
          · rw [if_pos ⟨e, e1⟩, if_pos e1]
          · rw [if_neg (fun x => e1 x.2), if_neg e1]
            by_cases e2 : c = s
            · rw [if_pos ⟨e, e2⟩, if_pos e2]
            · rw [if_neg (fun x => e2 x.2), if_neg e2, e, up_at, ov_in hcc]
        · rw [if_neg (fun x => e x.1), if_neg (fun x => e x.1), if_neg e, up_off e]
      obtain ⟨pr3, l1, l2, l3, l4, l5⟩ := lp_rule (f := fun (q : Int × (Nat → Nat → Int)) => F_X2_setUp_L51 n s T g L ch q.1 q.2) (fun k q => ∃ pr' : Nat → Nat → Int, q = ((k : Int), pr') ∧ (∀ a c, a ≠ g s → pr' a c = pr2 a c) ∧ (∀ c, c ≤ S → 0 ≤ pr' (g s) c ∧ pr' (g s) c < 1000003) ∧ (∀ c, c < S → cg (pr' (g s) c) (mxS T ch s c k)) ∧ pr' (g s) S = 10)
        (fun pr' => (∀ a c, a ≠ g s → pr' a c = pr2 a c) ∧ (∀ c, c ≤ S → 0 ≤ pr' (g s) c ∧ pr' (g s) c < 1000003) ∧ (∀ c, c < S → cg (pr' (g s) c) (mxS T ch s c 5)) ∧ pr' (g s) S = 10) (N := 5) (n := n) (s := (0, pr2)) (by omega) ⟨pr2, rfl, fun _ _ _ => rfl, fun c hcS => by
          rw [p2 _ c (by omega), if_pos rfl]
          split
          · omega
          · split <;> omega, fun c hcS => by
          rw [p2 _ c (by omega), if_pos rfl, if_neg (by omega)]
          exact cg_rf _, by rw [p2 _ S (by omega), if_pos rfl, if_pos rfl]⟩ (fun k q hI hk => by
        obtain ⟨pr4, rfl, d1, d2, d3, d4⟩ := hI
        dsimp only
        by_cases hlk : k < 5
        · left
          have tk : ((k : Int)).toNat = k := by omega
          have t1 : ((s : Int) * 5 + (k : Int)).toNat = 5 * s + k := by omega
          have tt := hT s k hlt hlk
          have bc := hc.1 k hlk
          have em : ∀ c, mxS T ch s c (k + 1) = mxS T ch s c k - if T (5 * s + k) = (c : Int) then ch k else 0 := fun _ => rfl
          by_cases e5 : T (5 * s + k) = -5
          · refine ⟨((k : Int) + 1, pr4), ?_, ⟨pr4, rfl, d1, d2, fun c hcS => ?_, d4⟩, hlk⟩
            · refine (ck_pos (by omega)).trans ((if_pos (by omega)).trans ((ck_pos (by omega)).trans ?_))
              rw [t1]
              exact (bd_of (p_past0 (by omega) (by omega))).trans ((bd_of (a := pr4) ((ck_pos (by omega)).trans (if_pos rfl))).trans rfl)
            · rw [em, if_neg (by omega), Int.sub_zero]; exact d3 c hcS
          · obtain ⟨t, ht⟩ : ∃ t : Nat, T (5 * s + k) = (t : Int) := ⟨(T (5 * s + k)).toNat, by omega⟩
            have ttn : ((t : Int)).toNat = t := by omega
            have bt := d2 t (by omega)
            have fm : F_J9_floorMod_7cf53 n (pr4 (g s) t - ch k) 1000003 = some ((pr4 (g s) t - ch k) % 1000003) := ck_pos (by omega)
            refine ⟨((k : Int) + 1, u2_ pr4 (g s) t ((pr4 (g s) t - ch k) % 1000003)), ?_, ⟨_, rfl, fun a c x => ?_, fun c hcS => ?_, fun c hcS => ?_, ?_⟩, hlk⟩
            · refine (ck_pos (by omega)).trans ((if_pos (by omega)).trans ((ck_pos (by omega)).trans ?_))
              rw [t1, ht, ttn, ts, tk]
              refine (bd_of (p_past1 (by omega))).trans ?_
              exact (bd_of (a := u2_ pr4 (g s) t ((pr4 (g s) t - ch k) % 1000003)) ((ck_pos (by omega)).trans ((if_neg (by omega)).trans ((ck_pos gs).trans ((ck_pos (by omega)).trans ((ck_pos (by omega)).trans ((bd_of fm).trans ((ck_pos gs).trans (ck_pos (by omega)))))))))).trans rfl
            · rw [u2_at, if_neg (fun y => x y.1)]; exact d1 a c x
            · rw [u2_at]
              split
              · exact md_b _
              · exact d2 c hcS
            · rw [u2_at, em, ht]
              by_cases e : c = t
              · rw [if_pos ⟨rfl, e⟩, if_pos (by omega)]
                refine cg_tr (cg_mod _) ?_
                obtain ⟨j, hj⟩ := d3 t (by omega)
                rw [e]
                exact ⟨j, by omega⟩
              · rw [if_neg (fun y => e y.2), if_neg (by omega), Int.sub_zero]
                exact d3 c hcS
            · rw [u2_at, if_neg (fun y => by omega)]; exact d4
        · right
          have : k = 5 := by omega
          subst this
          exact ⟨pr4, (ck_pos (by omega)).trans (if_neg (by omega)), d1, d2, d3, d4⟩)
      have old : ∀ t c, t < s → c ≤ S → pr3 (g t) c = pr1 (g t) c := fun t c ht hcS => by
        have ne := inj t s (by omega) hlt (by omega)
        rw [l2 _ c ne, p2 _ c (by omega), if_neg ne]
      refine ⟨((s : Int) + 1, pr3), ?_, ⟨pr3, rfl, by omega, fun t c ht hcS => ?_, fun t c ht hcS => ?_, fun t ht => ?_⟩, hlt⟩
      · unfold F_X2_setUp_L15
        rw [mS, ts, tS]
        refine (ck_pos (by omega)).trans ((if_pos (by omega)).trans ((ck_pos (by omega)).trans ((ck_pos gs).trans ((bd_of (p_fill hn (N := 65) (by omega) (pr1 (g s)) 0)).trans ((ck_pos gs).trans ((ck_pos (by omega)).trans ((ck_pos gs).trans ((ck_pos (by omega)).trans ?_))))))))
        rw [hst]
        exact (bd_of l1).trans rfl
      · by_cases e : t = s
        · rw [e]; exact l3 c hcS
        · rw [old t c (by omega) hcS]; exact c1 t c (by omega) hcS
      · by_cases e : t = s
        · rw [e]; exact l4 c hcS
        · rw [old t c (by omega) (by omega)]; exact c2 t c (by omega) hcS
      · by_cases e : t = s
        · rw [e]; exact l5
        · rw [old t S (by omega) (Nat.le_refl S)]; exact c3 t (by omega)
    · right
      have : s = S := by omega
      subst this
      refine ⟨pr1, ?_, c1, c2, c3⟩
      unfold F_X2_setUp_L15
      rw [mS]
      exact (ck_pos (by omega)).trans (if_neg (by omega)))
  refine ⟨o, ?_, h2⟩
  unfold F_X2_setUp
  rw [mS]
  exact (ck_pos (by omega)).trans ((bd_of h1).trans rfl)
