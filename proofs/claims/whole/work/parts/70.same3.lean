theorem p_sameM {n : Nat} (hn : 1000 ≤ n) {z : Nat} (hz : z ≤ 40) {now met : Nat → Int} (h17 : now 17 = z) (hg : ∀ i, i < z → 0 ≤ now (58 + i) ∧ now (58 + i) < 5) (hm : ∀ i, i < z → r4 (met i)) (o3 : (Nat → Int) × (Nat → Int) × (Nat → Int) × (Nat → Int) × (Nat → Int)) (ho3 : o3.1 = met) : ∃ sz fi : Int, lp_ (fun (q : Int × Int × Int) => F_X12_same_L23 n now o3 q.1 q.2.1 q.2.2) n (0, (-9), 1) = some (sz, fi) ∧ sz = sm_ (fun o => sm_ (fun s => sm_ (fun m => fI_ (ftS ((o + 1 : Nat) : Int) ((s + 1 : Nat) : Int) (fun i => now (58 + i)) met z (m + 1))) (o + 1)) 31) 4 ∧ mnF (fun o m s => vr_ o m s ∧ ftS o s (fun i => now (58 + i)) met z m) fi := by
  have iss := fun (o e m : Nat) (ho : 1 ≤ o ∧ o ≤ 4) (he : 1 ≤ e ∧ e ≤ 31) (hmo : m ≤ 4) => p_isSame hn hz h17 hg hm ho he hmo
  generalize (fun i => now (58 + i)) = sg at iss ⊢
  -- one more set
  have f42 : ∀ (o m : Nat) (sz fi : Int), 1 ≤ m → m ≤ o → o ≤ 4 → mnF (fun o' m' s' => 1000 * o' + 100 * m' + s' < 1000 * o + 100 * m + 1 ∧ vr_ o' m' s' ∧ ftS o' s' sg met z m') fi → ∃ fi' : Int, lp_ (fun (q : Int × Int × Int) => F_X12_same_L42 n now o3 (m : Int) (o : Int) q.1 q.2.1 q.2.2) n (sz, fi, 1) = some (sz + sm_ (fun s => fI_ (ftS (o : Int) ((s + 1 : Nat) : Int) sg met z m)) 31, fi') ∧ mnF (fun o' m' s' => 1000 * o' + 100 * m' + s' < 1000 * o + 100 * m + 32 ∧ vr_ o' m' s' ∧ ftS o' s' sg met z m') fi' := by
    intro o m sz fi hm1 hmo ho4 h0
    obtain ⟨r, h1, fi', rfl, h2⟩ := lp_rule (f := fun (q : Int × Int × Int) => F_X12_same_L42 n now o3 (m : Int) (o : Int) q.1 q.2.1 q.2.2) (fun j q => ∃ fi' : Int, q = (sz + sm_ (fun s => fI_ (ftS (o : Int) ((s + 1 : Nat) : Int) sg met z m)) j, fi', (j : Int) + 1) ∧ j ≤ 31 ∧ mnF (fun o' m' s' => 1000 * o' + 100 * m' + s' < 1000 * o + 100 * m + (j + 1) ∧ vr_ o' m' s' ∧ ftS o' s' sg met z m') fi')
      (fun r => ∃ fi' : Int, r = (sz + sm_ (fun s => fI_ (ftS (o : Int) ((s + 1 : Nat) : Int) sg met z m)) 31, fi') ∧ mnF (fun o' m' s' => 1000 * o' + 100 * m' + s' < 1000 * o + 100 * m + 32 ∧ vr_ o' m' s' ∧ ftS o' s' sg met z m') fi') (N := 31) (n := n) (s := (sz, fi, 1)) (by omega) ⟨fi, by show _ = (sz + 0, fi, ((0 : Nat) : Int) + 1); rw [Int.add_zero]; rfl, by omega, h0⟩ (fun j q hI hj => by
      obtain ⟨fi', rfl, c1, c2⟩ := hI
      dsimp only
      by_cases hlt : j < 31
      · left
        obtain ⟨b, b1, b2, b3⟩ := iss o (j + 1) m (by omega) (by omega) (by omega)
        have ej : ((j + 1 : Nat) : Int) = (j : Int) + 1 := by omega
        have rf := mnF_r c2
        have es : sm_ (fun s => fI_ (ftS (o : Int) ((s + 1 : Nat) : Int) sg met z m)) (j + 1) = sm_ (fun s => fI_ (ftS (o : Int) ((s + 1 : Nat) : Int) sg met z m)) j + fI_ (ftS (o : Int) ((j + 1 : Nat) : Int) sg met z m) := rfl
        have b1' : F_X12_isSame n now o3.1 (m : Int) (o : Int) ((j : Int) + 1) = some b := by rw [ho3, ← ej]; exact b1
        have mono : ∀ o' m' s' : Nat, (1000 * o' + 100 * m' + s' < 1000 * o + 100 * m + (j + 1 + 1) ∧ vr_ o' m' s' ∧ ftS o' s' sg met z m') → (1000 * o' + 100 * m' + s' < 1000 * o + 100 * m + (j + 1) ∧ vr_ o' m' s' ∧ ftS o' s' sg met z m') ∨ o' = o ∧ m' = m ∧ s' = j + 1 := by
          intro o' m' s' h
          obtain ⟨q1, q2, q3⟩ := h.2.1
          by_cases x : 1000 * o' + 100 * m' + s' < 1000 * o + 100 * m + (j + 1)
          · exact Or.inl ⟨x, h.2⟩
          · right
            have := h.1
            omega
        by_cases hb : b = 0
        · have nf : ¬ ftS (o : Int) ((j + 1 : Nat) : Int) sg met z m := fun x => by have := b3.mpr x; omega
          refine ⟨(sz + sm_ (fun s => fI_ (ftS (o : Int) ((s + 1 : Nat) : Int) sg met z m)) j + 0, fi', (j : Int) + 1 + 1), (ck_pos (by omega)).trans ((if_pos (by omega)).trans ((bd_of b1').trans ((bd_of (a := (0 : Int)) ((ck_pos (by omega)).trans (if_pos hb))).trans ((bd_of (a := fi') ((ck_pos (by omega)).trans (if_pos hb))).trans rfl)))), ⟨fi', by rw [es, fI_neg nf, ej]; simp only [Int.add_zero], by omega, mnF_congr (fun o' m' s' => ⟨fun h => ⟨by omega, h.2⟩, fun h => ?_⟩) c2⟩, hlt⟩
          rcases mono o' m' s' h with x | ⟨rfl, rfl, rfl⟩
          · exact x
          · exact absurd h.2.2 nf
        · have yf : ftS (o : Int) ((j + 1 : Nat) : Int) sg met z m := b3.mp (by omega)
          have kv : vr_ o m (j + 1) := ⟨by omega, by omega, by omega⟩
          have nx : ∃ f : Int, (ck (r4 b) (if b = 0 then some fi' else ck (r4 fi') (if fi' = (-9) then some (((1000 * (o : Int)) + (100 * (m : Int))) + ((j : Int) + 1)) else some fi'))) = some f ∧ mnF (fun o' m' s' => 1000 * o' + 100 * m' + s' < 1000 * o + 100 * m + (j + 1 + 1) ∧ vr_ o' m' s' ∧ ftS o' s' sg met z m') f := by
            rcases c2 with ⟨a, b⟩ | ⟨o1, m1, s1, a0, a, b, c⟩
            · refine ⟨_, (ck_pos (by omega)).trans ((if_neg hb).trans ((ck_pos rf).trans (if_pos a))), Or.inr ⟨o, m, j + 1, kv, ⟨by omega, kv, yf⟩, by omega, fun o' m' s' h => ?_⟩⟩
              rcases mono o' m' s' h with x | x
              · exact absurd x (b _ _ _)
              · omega
            · refine ⟨fi', (ck_pos (by omega)).trans ((if_neg hb).trans ((ck_pos rf).trans (if_neg (by omega)))), Or.inr ⟨o1, m1, s1, a0, ⟨by have := a.1; omega, a.2⟩, b, fun o' m' s' h => ?_⟩⟩
              rcases mono o' m' s' h with x | x
              · exact c _ _ _ x
              · have := a.1; omega
          obtain ⟨f, n1, n2⟩ := nx
          refine ⟨(sz + sm_ (fun s => fI_ (ftS (o : Int) ((s + 1 : Nat) : Int) sg met z m)) j + 1, f, (j : Int) + 1 + 1), (ck_pos (by omega)).trans ((if_pos (by omega)).trans ((bd_of b1').trans ((bd_of (a := (1 : Int)) ((ck_pos (by omega)).trans (if_neg hb))).trans ((bd_of n1).trans rfl)))), ⟨f, by rw [es, fI_pos yf, ej, Int.add_assoc], by omega, n2⟩, hlt⟩
      · right
        have : j = 31 := by omega
        subst this
        exact ⟨_, (ck_pos (by omega)).trans (if_neg (by omega)), fi', rfl, c2⟩)
    exact ⟨fi', h1, h2⟩
  -- one more m
  have f32 : ∀ (o : Nat) (sz fi : Int), 1 ≤ o → o ≤ 4 → mnF (fun o' m' s' => o' < o ∧ vr_ o' m' s' ∧ ftS o' s' sg met z m') fi → ∃ fi' : Int, lp_ (fun (q : Int × Int × Int) => F_X12_same_L32 n (o : Int) now o3 q.1 q.2.1 q.2.2) n (sz, fi, 1) = some (sz + sm_ (fun m => sm_ (fun s => fI_ (ftS (o : Int) ((s + 1 : Nat) : Int) sg met z (m + 1))) 31) o, fi') ∧ mnF (fun o' m' s' => o' < o + 1 ∧ vr_ o' m' s' ∧ ftS o' s' sg met z m') fi' := by
    intro o sz fi ho1 ho4 h0
    obtain ⟨r, h1, fi', rfl, h2⟩ := lp_rule (f := fun (q : Int × Int × Int) => F_X12_same_L32 n (o : Int) now o3 q.1 q.2.1 q.2.2) (fun i q => ∃ fi' : Int, q = (sz + sm_ (fun m => sm_ (fun s => fI_ (ftS (o : Int) ((s + 1 : Nat) : Int) sg met z (m + 1))) 31) i, fi', (i : Int) + 1) ∧ i ≤ o ∧ mnF (fun o' m' s' => 1000 * o' + 100 * m' + s' < 1000 * o + 100 * (i + 1) + 1 ∧ vr_ o' m' s' ∧ ftS o' s' sg met z m') fi')
      (fun r => ∃ fi' : Int, r = (sz + sm_ (fun m => sm_ (fun s => fI_ (ftS (o : Int) ((s + 1 : Nat) : Int) sg met z (m + 1))) 31) o, fi') ∧ mnF (fun o' m' s' => o' < o + 1 ∧ vr_ o' m' s' ∧ ftS o' s' sg met z m') fi') (N := o) (n := n) (s := (sz, fi, 1)) (by omega) ⟨fi, by show _ = (sz + 0, fi, ((0 : Nat) : Int) + 1); rw [Int.add_zero]; rfl, by omega, mnF_congr (fun o' m' s' => ⟨fun h => ⟨by obtain ⟨q1, q2, q3⟩ := h.2.1; have := h.1; omega, h.2⟩, fun h => ⟨by obtain ⟨q1, q2, q3⟩ := h.2.1; have := h.1; omega, h.2⟩⟩) h0⟩ (fun i q hI hi => by
      obtain ⟨fi', rfl, c1, c2⟩ := hI
      dsimp only
      by_cases hlt : i < o
      · left
        obtain ⟨f, d1, d2⟩ := f42 o (i + 1) (sz + sm_ (fun m => sm_ (fun s => fI_ (ftS (o : Int) ((s + 1 : Nat) : Int) sg met z (m + 1))) 31) i) fi' (by omega) (by omega) (by omega) c2
        have ei : ((i + 1 : Nat) : Int) = (i : Int) + 1 := by omega
        rw [ei] at d1
        refine ⟨(_, f, (i : Int) + 1 + 1), (ck_pos (by omega)).trans ((if_neg (by omega)).trans ((bd_of d1).trans rfl)), ⟨f, by rw [ei, Int.add_assoc]; rfl, by omega, mnF_congr (fun o' m' s' => ⟨fun h => ⟨by have := h.1; omega, h.2⟩, fun h => ⟨by obtain ⟨q1, q2, q3⟩ := h.2.1; have := h.1; omega, h.2⟩⟩) d2⟩, hlt⟩
      · right
        have : i = o := by omega
        subst this
        exact ⟨_, (ck_pos (by omega)).trans (if_pos (by omega)), fi', rfl, mnF_congr (fun o' m' s' => ⟨fun h => ⟨by obtain ⟨q1, q2, q3⟩ := h.2.1; have := h.1; omega, h.2⟩, fun h => ⟨by obtain ⟨q1, q2, q3⟩ := h.2.1; have := h.1; omega, h.2⟩⟩) c2⟩)
    exact ⟨fi', h1, h2⟩
  obtain ⟨r, h1, fi', rfl, h2⟩ := lp_rule (f := fun (q : Int × Int × Int) => F_X12_same_L23 n now o3 q.1 q.2.1 q.2.2) (fun i q => ∃ fi' : Int, q = (sm_ (fun o => sm_ (fun m => sm_ (fun s => fI_ (ftS ((o + 1 : Nat) : Int) ((s + 1 : Nat) : Int) sg met z (m + 1))) 31) (o + 1)) i, fi', (i : Int) + 1) ∧ i ≤ 4 ∧ mnF (fun o' m' s' => o' < i + 1 ∧ vr_ o' m' s' ∧ ftS o' s' sg met z m') fi')
    (fun r => ∃ fi' : Int, r = (sm_ (fun o => sm_ (fun m => sm_ (fun s => fI_ (ftS ((o + 1 : Nat) : Int) ((s + 1 : Nat) : Int) sg met z (m + 1))) 31) (o + 1)) 4, fi') ∧ mnF (fun o' m' s' => vr_ o' m' s' ∧ ftS o' s' sg met z m') fi') (N := 4) (n := n) (s := (0, -9, 1)) (by omega) ⟨-9, rfl, by omega, Or.inl ⟨rfl, fun o m s h => by have := h.2.1.1; have := h.1; omega⟩⟩ (fun i q hI hi => by
    obtain ⟨fi', rfl, c1, c2⟩ := hI
    dsimp only
    by_cases hlt : i < 4
    · left
      obtain ⟨f, d1, d2⟩ := f32 (i + 1) (sm_ (fun o => sm_ (fun m => sm_ (fun s => fI_ (ftS ((o + 1 : Nat) : Int) ((s + 1 : Nat) : Int) sg met z (m + 1))) 31) (o + 1)) i) fi' (by omega) (by omega) c2
      have ei : ((i + 1 : Nat) : Int) = (i : Int) + 1 := by omega
      have d1' : lp_ (fun (q : Int × Int × Int) => F_X12_same_L32 n ((i : Int) + 1) now o3 q.1 q.2.1 q.2.2) n (sm_ (fun o => sm_ (fun m => sm_ (fun s => fI_ (ftS ((o + 1 : Nat) : Int) ((s + 1 : Nat) : Int) sg met z (m + 1))) 31) (o + 1)) i, fi', 1) = some (sm_ (fun o => sm_ (fun m => sm_ (fun s => fI_ (ftS ((o + 1 : Nat) : Int) ((s + 1 : Nat) : Int) sg met z (m + 1))) 31) (o + 1)) (i + 1), f) := d1
      refine ⟨(_, f, (i : Int) + 1 + 1), (ck_pos (by omega)).trans ((if_neg (by omega)).trans ((bd_of d1').trans rfl)), ⟨f, by rw [ei], by omega, d2⟩, hlt⟩
    · right
      have : i = 4 := by omega
      subst this
      exact ⟨_, (ck_pos (by omega)).trans (if_pos (by omega)), fi', rfl, mnF_congr (fun o' m' s' => ⟨fun h => h.2, fun h => ⟨by have := h.1.1; omega, h⟩⟩) c2⟩)
  refine ⟨_, fi', h1, ?_, h2⟩
  refine sm_congr (N := 4) (fun o ho => ?_) 4 (Nat.le_refl 4)
  exact sm_swap (fun s m => fI_ (ftS ((o + 1 : Nat) : Int) ((s + 1 : Nat) : Int) sg met z (m + 1))) 31 (o + 1)
