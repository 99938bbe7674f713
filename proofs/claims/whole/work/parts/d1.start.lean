/-! what holds at the law's entry -/
theorem law_SF {s : State} {b : Nat} (hgv : (Jvm.Cond.and given_1 narrow_1).before #[Value.ref b] s = true) (hts : ∀ w ∈ lw_tbl, w.before #[Value.ref b] s = true) : ∃ Z : ZT, SF s.heap.size Z s s.heap := by
  have hs := flat_of_before _ hgv
  have hA : ∀ a : Nat, a < s.heap.size → ¬ (fun q : Nat => s.heap.size ≤ q) a := fun a h => Nat.not_le.mpr h
  obtain ⟨t, ht, hT⟩ := va_Tof (args := #[Value.ref b]) (s := s) (tm := .static "RunWatch" "FIRST_CHANCES" "[I") (ty := .int) (N := 5) (f := fun j => .int (z4 (fc_ j))) (A := fun q : Nat => s.heap.size ≤ q) (by decide) (hs _ (by decide +kernel)) (va_eqt (z := Int32.ofNat 5) (hs _ (by decide +kernel))) (fun j hj => by
    rcases (show j = 0 ∨ j = 1 ∨ j = 2 ∨ j = 3 ∨ j = 4 by omega) with rfl | rfl | rfl | rfl | rfl
    · exact va_eqt (z := z4 (fc_ 0)) (hs _ (by decide +kernel))
    · exact va_eqt (z := z4 (fc_ 1)) (hs _ (by decide +kernel))
    · exact va_eqt (z := z4 (fc_ 2)) (hs _ (by decide +kernel))
    · exact va_eqt (z := z4 (fc_ 3)) (hs _ (by decide +kernel))
    · exact va_eqt (z := z4 (fc_ 4)) (hs _ (by decide +kernel))) hA
  have z1 := va_Zof (A := fun q : Nat => s.heap.size ≤ q) (hts (.laysStatic "RunWatch" "FIRST_CHANCES" "[I") (List.mem_of_getElem? (i := 144) (by decide +kernel))) (hts (.initialized "RunWatch") (List.mem_of_getElem? (i := 68) (by decide +kernel))) ht hA
  have z2 := va_Zof (A := fun q : Nat => s.heap.size ≤ q) (hts (.laysStatic "java/lang/String" "COMPACT_STRINGS" "Z") (List.mem_of_getElem? (i := 563) (by decide +kernel))) (hts (.initialized "java/lang/String") (List.mem_of_getElem? (i := 85) (by decide +kernel))) (va_eqi (z := 1) (hs _ (by decide +kernel))) hA
  have z3 := va_Zqof (A := fun q : Nat => s.heap.size ≤ q) (hts (.laysStatic "jdk/internal/util/Preconditions" "SIOOBE_FORMATTER" "Ljava/util/function/BiFunction;") (List.mem_of_getElem? (i := 579) (by decide +kernel))) (hts (.initialized "jdk/internal/util/Preconditions") (List.mem_of_getElem? (i := 87) (by decide +kernel))) (hs _ (by decide +kernel)) hA
  obtain ⟨adK, adV, k1, k2⟩ := vk_Sof (args := #[Value.ref b]) (s := s) (N := 3) (tm := fun i => .string "RunWatch$Text" ([59, 65, 67].getD i 0)) (len := lenJ) (byt := bytJ) (A := fun q : Nat => s.heap.size ≤ q) (fun i hi => by
    rcases (show i = 0 ∨ i = 1 ∨ i = 2 by omega) with rfl | rfl | rfl <;> decide) (fun i hi => by
    rcases (show i = 0 ∨ i = 1 ∨ i = 2 by omega) with rfl | rfl | rfl <;> exact hs _ (by decide +kernel)) (fun i hi => by
    rcases (show i = 0 ∨ i = 1 ∨ i = 2 by omega) with rfl | rfl | rfl <;> exact hs _ (by decide +kernel)) (fun i hi => by
    rcases (show i = 0 ∨ i = 1 ∨ i = 2 by omega) with rfl | rfl | rfl <;> exact hs _ (by decide +kernel)) (fun i hi => by
    rcases (show i = 0 ∨ i = 1 ∨ i = 2 by omega) with rfl | rfl | rfl <;> exact hs _ (by decide +kernel)) (fun i hi j hj => by
    rcases (show i = 0 ∨ i = 1 ∨ i = 2 by omega) with rfl | rfl | rfl
    · rcases (show j = 0 ∨ j = 1 ∨ j = 2 ∨ j = 3 by have h4 : lenJ.getD 0 0 = 4 := rfl; omega) with rfl | rfl | rfl | rfl <;> exact hs _ (by decide +kernel)
    · rcases (show j = 0 ∨ j = 1 ∨ j = 2 ∨ j = 3 ∨ j = 4 ∨ j = 5 by have h4 : lenJ.getD 1 0 = 6 := rfl; omega) with rfl | rfl | rfl | rfl | rfl | rfl <;> exact hs _ (by decide +kernel)
    · rcases (show j = 0 ∨ j = 1 ∨ j = 2 ∨ j = 3 by have h4 : lenJ.getD 2 0 = 4 := rfl; omega) with rfl | rfl | rfl | rfl <;> exact hs _ (by decide +kernel)) (fun i j hi hj hij => by
    rcases (show i = 0 ∧ j = 1 ∨ i = 0 ∧ j = 2 ∨ i = 1 ∧ j = 0 ∨ i = 1 ∧ j = 2 ∨ i = 2 ∧ j = 0 ∨ i = 2 ∧ j = 1 by omega) with ⟨rfl, rfl⟩ | ⟨rfl, rfl⟩ | ⟨rfl, rfl⟩ | ⟨rfl, rfl⟩ | ⟨rfl, rfl⟩ | ⟨rfl, rfl⟩ <;> first | exact Or.inl (hs _ (by decide +kernel)) | exact Or.inr (hs _ (by decide +kernel))) hA
  exact ⟨(t, adK, adV), z1, hT, z2, z3, k1, vk_R.of (hts (.stringRef "RunWatch$Text" 59 "rule") (List.mem_of_getElem? (i := 549) (by decide +kernel))) (k2 0 (by decide)), vk_R.of (hts (.stringRef "RunWatch$Text" 65 "chance") (List.mem_of_getElem? (i := 602) (by decide +kernel))) (k2 1 (by decide)), vk_R.of (hts (.stringRef "RunWatch$Text" 67 "sums") (List.mem_of_getElem? (i := 603) (by decide +kernel))) (k2 2 (by decide)), va_Nw.of rfl (hts (.fieldLinkNest RX4 31 "RunWatch" "FIRST_CHANCES" "[I" "RunWatch") (List.mem_of_getElem? (i := 143) (by decide +kernel))), va_Nw.of rfl (hts (.methodLinkNest RX11 9 yX5_init "RunWatch") (List.mem_of_getElem? (i := 99) (by decide +kernel))), va_Nw.of rfl (hts (.methodLinkNest RX11 23 yX7_init "RunWatch") (List.mem_of_getElem? (i := 204) (by decide +kernel))), va_Nw.of rfl (hts (.methodLinkNest RX11 45 yX10_init "RunWatch") (List.mem_of_getElem? (i := 266) (by decide +kernel))), va_Nw.of rfl (hts (.methodLinkNest RX11 59 yX3_init "RunWatch") (List.mem_of_getElem? (i := 398) (by decide +kernel))), va_Nw.of rfl (hts (.methodLinkNest RX11 66 yX2_init "RunWatch") (List.mem_of_getElem? (i := 419) (by decide +kernel))), va_Nw.of rfl (hts (.methodLinkNest RX11 73 yX8_init "RunWatch") (List.mem_of_getElem? (i := 453) (by decide +kernel))), va_Nw.of rfl (hts (.methodLinkNest RX0 24 yX7_init "RunWatch") (List.mem_of_getElem? (i := 252) (by decide +kernel))), va_Nw.of rfl (hts (.methodLinkNest RX5 11 yX9_init "RunWatch") (List.mem_of_getElem? (i := 105) (by decide +kernel))), va_Nw.of rfl (hts (.methodLinkNest RX7 18 yX6_init "RunWatch") (List.mem_of_getElem? (i := 212) (by decide +kernel)))⟩
theorem law_KK {s : State} {b : Nat} (hts0 : ∀ w ∈ lw_tbl, w.before #[Value.ref b] s = true) : ∃ (D : va_G) (E : Nat → ClassId), KK D E s := by
  have hts : ∀ w ∈ TT, w.before #[Value.ref b] s = true := fun w h => hts0 w (List.mem_filter.mp h).1
  obtain ⟨c0, j0, u0⟩ := u_known (C := RX0) (T := TX0) (N := 3) (n := 3) hts iT_X0 (hts _ mk_X0)
  obtain ⟨c1, j1, u1⟩ := u_known (C := RX1) (T := TX1) (N := 11) (n := 11) hts iT_X1 (hts _ mk_X1)
  obtain ⟨c2, j2, u2⟩ := u_known (C := RX2) (T := TX2) (N := 7) (n := 7) hts iT_X2 (hts _ mk_X2)
  obtain ⟨c3, j3, u3⟩ := u_known (C := RX3) (T := TX3) (N := 4) (n := 4) hts iT_X3 (hts _ mk_X3)
  obtain ⟨c4, j4, u4⟩ := u_known (C := RX4) (T := TX4) (N := 7) (n := 7) hts iT_X4 (hts _ mk_X4)
  obtain ⟨c5, j5, u5⟩ := u_known (C := RX5) (T := TX5) (N := 5) (n := 5) hts iT_X5 (hts _ mk_X5)
  obtain ⟨c6, j6, u6⟩ := u_known (C := RX6) (T := TX6) (N := 3) (n := 3) hts iT_X6 (hts _ mk_X6)
  obtain ⟨c7, j7, u7⟩ := u_known (C := RX7) (T := TX7) (N := 2) (n := 2) hts iT_X7 (hts _ mk_X7)
  obtain ⟨c8, j8, u8⟩ := u_known (C := RX8) (T := TX8) (N := 5) (n := 5) hts iT_X8 (hts _ mk_X8)
  obtain ⟨c9, j9, u9⟩ := u_known (C := RX9) (T := TX9) (N := 7) (n := 7) hts iT_X9 (hts _ mk_X9)
  obtain ⟨c10, j10, u10⟩ := u_known (C := RX10) (T := TX10) (N := 5) (n := 5) hts iT_X10 (hts _ mk_X10)
  obtain ⟨c11, j11, u11⟩ := u_known (C := RX11) (T := TX11) (N := 11) (n := 11) hts iT_X11 (hts _ mk_X11)
  obtain ⟨c12, j12, u12⟩ := u_known (C := RX12) (T := TX12) (N := 35) (n := 35) hts iT_X12 (hts _ mk_X12)
  obtain ⟨e0, k0, p0, a01, a02, a03⟩ := Cond.arrayClass_spec (hts _ aw_int)
  obtain ⟨e1, k1, p1, a11, a12, a13⟩ := Cond.arrayClass_spec (hts _ aw_boolean)
  obtain ⟨e2, k2, p2, a21, a22, a23⟩ := Cond.arrayClass_spec (hts _ aw_long)
  have ho := hts0 (.arrayOver (.object "RunWatch$Sheet")) (List.mem_of_getElem? (i := 251) (by decide +kernel))
  have hp := hts0 (.arrayOver (.array .int)) (List.mem_of_getElem? (i := 426) (by decide +kernel))
  obtain ⟨q3, e3, k3, a31, -, a32, a33, a34⟩ := Cond.arrayOver_spec ho
  obtain ⟨q4, e4, k4, a41, -, a42, a43, a44⟩ := arrayOverA_spec hp
  refine ⟨(fun k => [c0, c1, c2, c3, c4, c5, c6, c7, c8, c9, c10, c11, c12].getD k 0, fun k => [j0, j1, j2, j3, j4, j5, j6, j7, j8, j9, j10, j11, j12].getD k (fun _ => 0)), fun k => [e0, e1, e2, e3, e4].getD k 0, ⟨fun k q hq => ?_, fun k q hq => ?_⟩, hp, va_AO.of ho, NK.start hts0⟩
  · match k, hq with
    | 0, hq => obtain rfl := Option.some.inj hq; exact u0
    | 1, hq => obtain rfl := Option.some.inj hq; exact u1
    | 2, hq => obtain rfl := Option.some.inj hq; exact u2
    | 3, hq => obtain rfl := Option.some.inj hq; exact u3
    | 4, hq => obtain rfl := Option.some.inj hq; exact u4
    | 5, hq => obtain rfl := Option.some.inj hq; exact u5
    | 6, hq => obtain rfl := Option.some.inj hq; exact u6
    | 7, hq => obtain rfl := Option.some.inj hq; exact u7
    | 8, hq => obtain rfl := Option.some.inj hq; exact u8
    | 9, hq => obtain rfl := Option.some.inj hq; exact u9
    | 10, hq => obtain rfl := Option.some.inj hq; exact u10
    | 11, hq => obtain rfl := Option.some.inj hq; exact u11
    | 12, hq => obtain rfl := Option.some.inj hq; exact u12
    | k + 13, hq => exact absurd hq (by simp)
  · match k, hq with
    | 0, hq => obtain rfl := Option.some.inj hq; exact ⟨fun n z => ⟨fun k h => (by cases h), k0, a02, p0, a03⟩, a01⟩
    | 1, hq => obtain rfl := Option.some.inj hq; exact ⟨fun n z => ⟨fun k h => (by cases h), k1, a12, p1, a13⟩, a11⟩
    | 2, hq => obtain rfl := Option.some.inj hq; exact ⟨fun n z => ⟨fun k h => (by cases h), k2, a22, p2, a23⟩, a21⟩
    | 3, hq => obtain rfl := Option.some.inj hq; exact ⟨fun n z => ⟨fun k h => (by cases h), k3, a32, q3, a33⟩, k3, q3, a32, a33, a31, a34⟩
    | 4, hq => obtain rfl := Option.some.inj hq; exact ⟨fun n z => ⟨fun k h => (by cases h), k4, a42, q4, a43⟩, a44⟩
    | k + 5, hq => exact absurd hq (by simp)
