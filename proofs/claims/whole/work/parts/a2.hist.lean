/-! what can be undone: the ring against the row -/
def hiI (u : Nat) (nx sz : Int) (hs : Nat → TSh) (de : Int) (pa : Nat → Int) : Prop := ∃ d m : Nat, sz = (d : Int) ∧ de = (d : Int) ∧ (nx % 6 = (m : Int) ∧ -(u : Int) ≤ nx ∧ nx ≤ (u : Int)) ∧ d ≤ 6 ∧ m < 6 ∧ ∀ j, j < d → rsI (hs ((m + 6 - d + j) % 6)) (fun i => pa (98 * j + i))
theorem hiI.mono {u v : Nat} (huv : u ≤ v) {nx sz : Int} {hs : Nat → TSh} {de : Int} {pa : Nat → Int} (h : hiI u nx sz hs de pa) : hiI v nx sz hs de pa := by
  obtain ⟨d, m, h1, h2, ⟨h3, h4, h5⟩, h6⟩ := h
  exact ⟨d, m, h1, h2, ⟨h3, by omega, by omega⟩, h6⟩
theorem rsI_tk {x y : TSh} {b : Nat → Int} (h : rsI x b) : rsI (tk_ y x) b := by
  refine rsI_x (x := x) rfl (fun r hr => cp_in hr) (fun r hr => cp_in hr) (fun r hr => cp_in hr) (fun r hr => cp_in hr) rfl rfl rfl (fun r hr => cp_in hr) (fun r hr => cp_in hr) h
theorem cp_to {f g : Nat → Int} {a c n j : Nat} (h : j < n) : cp_ f g a c n (c + j) = f (a + j) := by
  unfold cp_
  rw [if_pos (by omega)]
  congr 1
  omega
theorem cp_in' {f g : Nat → Int} {a n j : Nat} (h : j < n) : cp_ f g a 0 n j = f (a + j) := by
  unfold cp_
  rw [if_pos (by omega)]
  congr 1
theorem cp_off {f g : Nat → Int} {a c n j : Nat} (h : j < c ∨ c + n ≤ j) : cp_ f g a c n j = g j := by
  unfold cp_
  rw [if_neg (by omega)]
theorem p_noteM {n : Nat} (hn : 1000 ≤ n) {d : Nat} (hd : d ≤ 6) (pa now : Nat → Int) : ∃ pa', F_X12_note n (d : Int) pa now = some (((min (d + 1) 6 : Nat) : Int), pa') ∧ (∀ i, i < 98 → pa' (98 * (min (d + 1) 6 - 1) + i) = now i) ∧ ∀ j i, j + 1 < min (d + 1) 6 → i < 98 → pa' (98 * j + i) = if d = 6 then pa (98 * (j + 1) + i) else pa (98 * j + i) := by
  by_cases h6 : d = 6
  · subst h6
    have s := p_shift hn pa
    have b := p_bring hn (N0 := 98) (N2 := 588) (a := 0) (c := 490) (by omega) (by omega) now (ov (fun j => pa (j + 98)) pa 490)
    refine ⟨cp_ now (ov (fun j => pa (j + 98)) pa 490) 0 490 98, ?_, fun i hi => ?_, fun j i hj hi => ?_⟩
    · unfold F_X12_note
      refine (bd_of (a := (((6 : Nat) : Int) - 1, ov (fun j => pa (j + 98)) pa 490)) ?_).trans ?_
      · exact (ck_pos (by omega)).trans ((if_pos rfl).trans (bd_of s))
      · exact (bd_of b).trans rfl
    · have := cp_to (f := now) (g := ov (fun j => pa (j + 98)) pa 490) (a := 0) (c := 490) (n := 98) hi
      rw [show 98 * (min (6 + 1) 6 - 1) + i = 490 + i by omega, this, Nat.zero_add]
    · rw [if_pos rfl, cp_off (by omega), ov_in (by omega)]
      show pa (98 * j + i + 98) = _
      congr 1
      omega
  · have b := p_bring hn (N0 := 98) (N2 := 588) (a := 0) (c := 98 * d) (by omega) (by omega) now pa
    refine ⟨cp_ now pa 0 (98 * d) 98, ?_, fun i hi => ?_, fun j i hj hi => ?_⟩
    · refine (bd_of ((ck_pos (by omega)).trans (if_neg (by omega)))).trans ?_
      rw [show (98 : Int) * ((d : Int), pa).1 = ((98 * d : Nat) : Int) by simp]
      refine (bd_of b).trans ?_
      rw [show ((min (d + 1) 6 : Nat) : Int) = (d : Int) + 1 by omega]
    · have := cp_to (f := now) (g := pa) (a := 0) (c := 98 * d) (n := 98) hi
      rw [show 98 * (min (d + 1) 6 - 1) + i = 98 * d + i by omega, this, Nat.zero_add]
    · rw [if_neg h6, cp_off (by omega)]
theorem p_note {n : Nat} (hn : 1000 ≤ n) {u : Nat} (hu : u < 1000000) {x : TSh} {now : Nat → Int} (hx : rsI x now) {nx sz : Int} {hs : Nat → TSh} {de : Int} {pa : Nat → Int} (h : hiI u nx sz hs de pa) : ∃ (nx' sz' : Int) (hs' : Nat → TSh) (de' : Int) (pa' : Nat → Int), F_X0_note n nx sz hs x.1.1 x.1.2.2.2.2.2.1 x.1.2.2.2.2.2.2 x.1.2.1 x.1.2.2.1 x.1.2.2.2.1 x.1.2.2.2.2.1 x.2.1 x.2.2.1 x.2.2.2 = some (nx', sz', hs') ∧ F_X12_note n de pa now = some (de', pa') ∧ hiI (u + 1) nx' sz' hs' de' pa' := by
  obtain ⟨d, m, rfl, rfl, ⟨hm6, hl1, hl2⟩, hd, hm, hh⟩ := h
  obtain ⟨pa', e1, e2, e3⟩ := p_noteM hn hd pa now
  obtain ⟨m', hm'⟩ : ∃ m' : Nat, m' = (m + 1) % 6 := ⟨_, rfl⟩
  have tm : ((m : Int)).toNat = m := by omega
  refine ⟨nx + 1, min ((d : Int) + 1) 6, up_ hs m (tk_ (hs m) x), _, pa', ?_, e1, min (d + 1) 6, m', by omega, rfl, ⟨by omega, by omega, by omega⟩, by omega, by omega, fun j hj => ?_⟩
  · have fm : F_J9_floorMod_7cf53 n nx 6 = some (nx % 6) := ck_pos (by omega)
    rw [hm6] at fm
    refine (bd_of fm).trans ((ck_pos (by omega)).trans ((ck_pos (by omega)).trans ?_))
    rw [tm]
  · by_cases hl : j + 1 = min (d + 1) 6
    · rw [show (m' + 6 - min (d + 1) 6 + j) % 6 = m by omega, up_at]
      exact rsI_b (fun i hi => by rw [show j = min (d + 1) 6 - 1 by omega]; exact e2 i hi) (rsI_tk hx)
    · rw [up_off (by omega)]
      by_cases h6 : d = 6
      · have q := hh (j + 1) (by omega)
        rw [show (m + 6 - d + (j + 1)) % 6 = (m' + 6 - min (d + 1) 6 + j) % 6 by omega] at q
        exact rsI_b (fun i hi => by rw [e3 j i (by omega) hi, if_pos h6]) q
      · have q := hh j (by omega)
        rw [show (m + 6 - d + j) % 6 = (m' + 6 - min (d + 1) 6 + j) % 6 by omega] at q
        exact rsI_b (fun i hi => by rw [e3 j i (by omega) hi, if_neg h6]) q
/-- the latest is given back -/
theorem p_latest {n : Nat} (hn : 1000 ≤ n) {u : Nat} (hu : u < 1000000) {x : TSh} {now : Nat → Int} {nx sz : Int} {hs : Nat → TSh} {de : Int} {pa : Nat → Int} (h : hiI u nx sz hs de pa) (hp : 0 < sz) : ∃ (nx' : Int) (y : TSh) (now' : Nat → Int), F_X0_giveLatest n nx sz hs x.1.1 x.1.2.2.2.2.2.1 x.1.2.2.2.2.2.2 x.1.2.1 x.1.2.2.1 x.1.2.2.2.1 x.1.2.2.2.2.1 x.2.1 x.2.2.1 x.2.2.2 = some (nx', sz - 1, y.1.1, y.1.2.2.2.2.2.1, y.1.2.2.2.2.2.2, y.1.2.1, y.1.2.2.1, y.1.2.2.2.1, y.1.2.2.2.2.1, y.2.1, y.2.2.1, y.2.2.2) ∧ F_X12_bring n 588 98 pa now (98 * (de - 1)) 0 = some now' ∧ rsI y now' ∧ hiI (u + 1) nx' (sz - 1) hs (de - 1) pa ∧ sz - 1 = de - 1 ∧ 0 < de := by
  obtain ⟨d, m, rfl, rfl, ⟨hm6, hl1, hl2⟩, hd, hm, hh⟩ := h
  obtain ⟨e, rfl⟩ : ∃ e : Nat, d = e + 1 := ⟨d - 1, by omega⟩
  have b := p_bring hn (N0 := 588) (N2 := 98) (a := 98 * e) (c := 0) (by omega) (by omega) pa now
  obtain ⟨m', hm'⟩ : ∃ m' : Nat, m' = (m + 5) % 6 := ⟨_, rfl⟩
  have te : ((m' : Int)).toNat = m' := by omega
  have fm : F_J9_floorMod_7cf53 n (nx - 1) 6 = some ((nx - 1) % 6) := ck_pos (by omega)
  rw [show (nx - 1) % 6 = (m' : Int) by omega] at fm
  refine ⟨nx - 1, tk_ x (hs m'), cp_ pa now (98 * e) 0 98, ?_, ?_, ?_, ?_, rfl, by omega⟩
  · refine (ck_pos (by omega)).trans ((if_pos hp).trans ((bd_of fm).trans ((ck_pos (by omega)).trans ?_)))
    rw [te]
    rfl
  · rw [show (98 : Int) * (((e + 1 : Nat) : Int) - 1) = ((98 * e : Nat) : Int) by omega]
    exact b
  · have q := hh e (by omega)
    rw [show (m + 6 - (e + 1) + e) % 6 = m' by omega] at q
    exact rsI_b (fun i hi => by rw [cp_in' hi]) (rsI_tk q)
  · refine ⟨e, m', by omega, by omega, ⟨by omega, by omega, by omega⟩, by omega, by omega, fun j hj => ?_⟩
    have q := hh j (by omega)
    rw [show (m + 6 - (e + 1) + j) % 6 = (m' + 6 - e + j) % 6 by omega] at q
    exact q
