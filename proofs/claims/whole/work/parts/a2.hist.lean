/-! what can be undone: the ring against the row -/
def hiI (nx sz : Int) (hs : Nat → TSh) (de : Int) (pa : Nat → Int) : Prop := ∃ d m : Nat, sz = (d : Int) ∧ de = (d : Int) ∧ nx = (m : Int) ∧ d ≤ 6 ∧ m < 6 ∧ ∀ j, j < d → rsI (hs ((m + 6 - d + j) % 6)) (fun i => pa (98 * j + i))
theorem rsI_tk {x y : TSh} {b : Nat → Int} (h : rsI x b) : rsI (tk_ y x) b := by
  refine rsI_x (x := x) rfl (fun r hr => cp_in hr) (fun r hr => cp_in hr) (fun r hr => cp_in hr) (fun r hr => cp_in hr) rfl rfl rfl (fun r hr => cp_in hr) (fun r hr => cp_in hr) h
theorem cp_to {f g : Nat → Int} {a c n j : Nat} (h : j < n) : cp_ f g a c n (c + j) = f (a + j) := by
  unfold cp_
  rw [if_pos (by omega)]
  congr 1
  omega
theorem cp_in' {f g : Nat → Int} {a n j : Nat} (h : j < n) : cp_ f g a 0 n j = f (a + j) := by
  unfold cp_
  rw [if_pos (by omega)]
  congr 1
theorem cp_off {f g : Nat → Int} {a c n j : Nat} (h : j < c ∨ c + n ≤ j) : cp_ f g a c n j = g j := by
  unfold cp_
  rw [if_neg (by omega)]
theorem p_noteM {n : Nat} (hn : 1000 ≤ n) {d : Nat} (hd : d ≤ 6) (pa now : Nat → Int) : ∃ pa', F_X12_note n (d : Int) pa now = some (((min (d + 1) 6 : Nat) : Int), pa') ∧ (∀ i, i < 98 → pa' (98 * (min (d + 1) 6 - 1) + i) = now i) ∧ ∀ j i, j + 1 < min (d + 1) 6 → i < 98 → pa' (98 * j + i) = if d = 6 then pa (98 * (j + 1) + i) else pa (98 * j + i) := by
  by_cases h6 : d = 6
  · subst h6
    have s := p_shift hn pa
    have b := p_bring hn (N0 := 98) (N2 := 588) (a := 0) (c := 490) (by omega) (by omega) now (ov (fun j => pa (j + 98)) pa 490)
    refine ⟨cp_ now (ov (fun j => pa (j + 98)) pa 490) 0 490 98, ?_, fun i hi => ?_, fun j i hj hi => ?_⟩
    · unfold F_X12_note
      refine (bd_of (a := (((6 : Nat) : Int) - 1, ov (fun j => pa (j + 98)) pa 490)) ?_).trans ?_
      · exact (ck_pos (by omega)).trans ((if_pos rfl).trans (bd_of s))
      · exact (bd_of b).trans rfl
    · have := cp_to (f := now) (g := ov (fun j => pa (j + 98)) pa 490) (a := 0) (c := 490) (n := 98) hi
      rw [show 98 * (min (6 + 1) 6 - 1) + i = 490 + i by omega, this, Nat.zero_add]
    · rw [if_pos rfl, cp_off (by omega), ov_in (by omega)]
      show pa (98 * j + i + 98) = _
      congr 1
      omega
  · have b := p_bring hn (N0 := 98) (N2 := 588) (a := 0) (c := 98 * d) (by omega) (by omega) now pa
    refine ⟨cp_ now pa 0 (98 * d) 98, ?_, fun i hi => ?_, fun j i hj hi => ?_⟩
    · refine (bd_of ((ck_pos (by omega)).trans (if_neg (by omega)))).trans ?_
      rw [show (98 : Int) * ((d : Int), pa).1 = ((98 * d : Nat) : Int) by simp]
      refine (bd_of b).trans ?_
      rw [show ((min (d + 1) 6 : Nat) : Int) = (d : Int) + 1 by omega]
    · have := cp_to (f := now) (g := pa) (a := 0) (c := 98 * d) (n := 98) hi
      rw [show 98 * (min (d + 1) 6 - 1) + i = 98 * d + i by omega, this, Nat.zero_add]
    · rw [if_neg h6, cp_off (by omega)]
theorem p_note {n : Nat} (hn : 1000 ≤ n) {x : TSh} {now : Nat → Int} (hx : rsI x now) {nx sz : Int} {hs : Nat → TSh} {de : Int} {pa : Nat → Int} (h : hiI nx sz hs de pa) : ∃ (nx' sz' : Int) (hs' : Nat → TSh) (de' : Int) (pa' : Nat → Int), F_X0_note n nx sz hs x.1.1 x.1.2.2.2.2.2.1 x.1.2.2.2.2.2.2 x.1.2.1 x.1.2.2.1 x.1.2.2.2.1 x.1.2.2.2.2.1 x.2.1 x.2.2.1 x.2.2.2 = some (nx', sz', hs') ∧ F_X12_note n de pa now = some (de', pa') ∧ hiI nx' sz' hs' de' pa' := by
  obtain ⟨d, m, rfl, rfl, rfl, hd, hm, hh⟩ := h
  obtain ⟨pa', e1, e2, e3⟩ := p_noteM hn hd pa now
  have key : ∀ m' : Nat, (m' = m + 1 ∧ m + 1 < 6 ∨ m' = 0 ∧ m = 5) → hiI (m' : Int) (min ((d : Int) + 1) 6) (up_ hs m (tk_ (hs m) x)) ((min (d + 1) 6 : Nat) : Int) pa' := by
    intro m' hm'
    refine ⟨min (d + 1) 6, m', by omega, rfl, rfl, by omega, by omega, fun j hj => ?_⟩
    by_cases hl : j + 1 = min (d + 1) 6
    · rw [show (m' + 6 - min (d + 1) 6 + j) % 6 = m by omega, up_at]
      exact rsI_b (fun i hi => by rw [show j = min (d + 1) 6 - 1 by omega]; exact e2 i hi) (rsI_tk hx)
    · rw [up_off (by omega)]
      by_cases h6 : d = 6
      · have q := hh (j + 1) (by omega)
        rw [show (m + 6 - d + (j + 1)) % 6 = (m' + 6 - min (d + 1) 6 + j) % 6 by omega] at q
        exact rsI_b (fun i hi => by rw [e3 j i (by omega) hi, if_pos h6]) q
      · have q := hh j (by omega)
        rw [show (m + 6 - d + j) % 6 = (m' + 6 - min (d + 1) 6 + j) % 6 by omega] at q
        exact rsI_b (fun i hi => by rw [e3 j i (by omega) hi, if_neg h6]) q
  have tm : ((m : Int)).toNat = m := by omega
  by_cases h5 : m + 1 < 6
  · refine ⟨((m + 1 : Nat) : Int), min ((d : Int) + 1) 6, up_ hs m (tk_ (hs m) x), _, pa', ?_, e1, key (m + 1) (Or.inl ⟨rfl, h5⟩)⟩
    refine (ck_pos (by omega)).trans ((bd_of ((ck_pos (by omega)).trans (if_pos (by omega)))).trans ((ck_pos (by omega)).trans ?_))
    rw [tm]
    rfl
  · refine ⟨((0 : Nat) : Int), min ((d : Int) + 1) 6, up_ hs m (tk_ (hs m) x), _, pa', ?_, e1, key 0 (Or.inr ⟨rfl, by omega⟩)⟩
    refine (ck_pos (by omega)).trans ((bd_of ((ck_pos (by omega)).trans (if_neg (by omega)))).trans ((ck_pos (by omega)).trans ?_))
    rw [tm]
    rfl
/-- the latest is given back -/
theorem p_latest {n : Nat} (hn : 1000 ≤ n) {x : TSh} {now : Nat → Int} {nx sz : Int} {hs : Nat → TSh} {de : Int} {pa : Nat → Int} (h : hiI nx sz hs de pa) (hp : 0 < sz) : ∃ (nx' : Int) (y : TSh) (now' : Nat → Int), F_X0_giveLatest n nx sz hs x.1.1 x.1.2.2.2.2.2.1 x.1.2.2.2.2.2.2 x.1.2.1 x.1.2.2.1 x.1.2.2.2.1 x.1.2.2.2.2.1 x.2.1 x.2.2.1 x.2.2.2 = some (nx', sz - 1, y.1.1, y.1.2.2.2.2.2.1, y.1.2.2.2.2.2.2, y.1.2.1, y.1.2.2.1, y.1.2.2.2.1, y.1.2.2.2.2.1, y.2.1, y.2.2.1, y.2.2.2) ∧ F_X12_bring n 588 98 pa now (98 * (de - 1)) 0 = some now' ∧ rsI y now' ∧ hiI nx' (sz - 1) hs (de - 1) pa ∧ sz - 1 = de - 1 ∧ 0 < de := by
  obtain ⟨d, m, rfl, rfl, rfl, hd, hm, hh⟩ := h
  obtain ⟨e, rfl⟩ : ∃ e : Nat, d = e + 1 := ⟨d - 1, by omega⟩
  have key : ∀ m' : Nat, m' < 6 → (m' + 1) % 6 = m → ∀ (w : Int), w = (m' : Int) → ∃ (nx' : Int) (y : TSh) (now' : Nat → Int), (ck (ix_ w 6) <| some (w, (((e + 1 : Nat) : Int)) - 1, (hs w.toNat).1.1, (hs w.toNat).1.2.2.2.2.2.1, (hs w.toNat).1.2.2.2.2.2.2, cp_ (hs w.toNat).1.2.1 x.1.2.1 0 0 3, cp_ (hs w.toNat).1.2.2.1 x.1.2.2.1 0 0 3, cp_ (hs w.toNat).1.2.2.2.1 x.1.2.2.2.1 0 0 3, cp_ (hs w.toNat).1.2.2.2.2.1 x.1.2.2.2.2.1 0 0 5, (hs w.toNat).2.1, cp_ (hs w.toNat).2.2.1 x.2.2.1 0 0 40, cp_ (hs w.toNat).2.2.2 x.2.2.2 0 0 40)) = some (nx', (((e + 1 : Nat) : Int)) - 1, y.1.1, y.1.2.2.2.2.2.1, y.1.2.2.2.2.2.2, y.1.2.1, y.1.2.2.1, y.1.2.2.2.1, y.1.2.2.2.2.1, y.2.1, y.2.2.1, y.2.2.2) ∧ F_X12_bring n 588 98 pa now (98 * (((e + 1 : Nat) : Int) - 1)) 0 = some now' ∧ rsI y now' ∧ hiI nx' (((e + 1 : Nat) : Int) - 1) hs (((e + 1 : Nat) : Int) - 1) pa ∧ ((e + 1 : Nat) : Int) - 1 = ((e + 1 : Nat) : Int) - 1 ∧ 0 < ((e + 1 : Nat) : Int) := by
    rintro m' h6 hm' w rfl
    have b := p_bring hn (N0 := 588) (N2 := 98) (a := 98 * e) (c := 0) (by omega) (by omega) pa now
    have te : ((m' : Int)).toNat = m' := by omega
    refine ⟨(m' : Int), tk_ x (hs m'), cp_ pa now (98 * e) 0 98, ?_, ?_, ?_, ?_, rfl, by omega⟩
    · refine (ck_pos (by omega)).trans ?_
      rw [te]
      rfl
    · rw [show (98 : Int) * (((e + 1 : Nat) : Int) - 1) = ((98 * e : Nat) : Int) by omega]
      exact b
    · have q := hh e (by omega)
      rw [show (m + 6 - (e + 1) + e) % 6 = m' by omega] at q
      exact rsI_b (fun i hi => by rw [cp_in' hi]) (rsI_tk q)
    · refine ⟨e, m', by omega, by omega, rfl, by omega, h6, fun j hj => ?_⟩
      have q := hh j (by omega)
      rw [show (m + 6 - (e + 1) + j) % 6 = (m' + 6 - e + j) % 6 by omega] at q
      exact q
  by_cases h0 : m = 0
  · obtain ⟨nx', y, now', k1, k2⟩ := key 5 (by omega) (by omega) 5 rfl
    exact ⟨nx', y, now', (ck_pos (by omega)).trans ((if_pos hp).trans ((bd_of ((ck_pos (by omega)).trans (if_neg (by omega)))).trans k1)), k2⟩
  · obtain ⟨nx', y, now', k1, k2⟩ := key (m - 1) (by omega) (by omega) ((m : Int) - 1) (by omega)
    exact ⟨nx', y, now', (ck_pos (by omega)).trans ((if_pos hp).trans ((bd_of ((ck_pos (by omega)).trans (if_pos (by omega)))).trans k1)), k2⟩
