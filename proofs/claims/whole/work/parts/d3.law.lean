/-! words of the law -/
abbrev RLaw : String := "RunWatchLaw"
theorem lk_law_13 : LnV RLaw yX11_type.cls 13 yX11_type := ⟨TT_in 510 (by decide +kernel) (by decide +kernel), TT_in 511 (by decide +kernel) (by decide +kernel), TT_in 512 (by decide +kernel) (by decide +kernel), TT_in 68 (by decide +kernel) (by decide +kernel)⟩
theorem lk_law_17 : LnV RLaw yX12_type.cls 17 yX12_type := ⟨TT_in 1024 (by decide +kernel) (by decide +kernel), TT_in 1025 (by decide +kernel) (by decide +kernel), TT_in 1026 (by decide +kernel) (by decide +kernel), TT_in 84 (by decide +kernel) (by decide +kernel)⟩
theorem lk_law_18 : LnV RLaw yX11_clear.cls 18 yX11_clear := ⟨TT_in 518 (by decide +kernel) (by decide +kernel), TT_in 519 (by decide +kernel) (by decide +kernel), TT_in 520 (by decide +kernel) (by decide +kernel), TT_in 68 (by decide +kernel) (by decide +kernel)⟩
theorem lk_law_22 : LnV RLaw yX12_clear.cls 22 yX12_clear := ⟨TT_in 1031 (by decide +kernel) (by decide +kernel), TT_in 1032 (by decide +kernel) (by decide +kernel), TT_in 1033 (by decide +kernel) (by decide +kernel), TT_in 84 (by decide +kernel) (by decide +kernel)⟩
theorem lk_law_23 : LnV RLaw yX11_tells.cls 23 yX11_tells := ⟨TT_in 522 (by decide +kernel) (by decide +kernel), TT_in 523 (by decide +kernel) (by decide +kernel), TT_in 524 (by decide +kernel) (by decide +kernel), TT_in 68 (by decide +kernel) (by decide +kernel)⟩
theorem lk_law_26 : LnV RLaw yX12_tells.cls 26 yX12_tells := ⟨TT_in 1035 (by decide +kernel) (by decide +kernel), TT_in 1036 (by decide +kernel) (by decide +kernel), TT_in 1037 (by decide +kernel) (by decide +kernel), TT_in 84 (by decide +kernel) (by decide +kernel)⟩
theorem lk_law_27 : LnV RLaw yX11_comes.cls 27 yX11_comes := ⟨TT_in 702 (by decide +kernel) (by decide +kernel), TT_in 703 (by decide +kernel) (by decide +kernel), TT_in 704 (by decide +kernel) (by decide +kernel), TT_in 68 (by decide +kernel) (by decide +kernel)⟩
theorem lk_law_31 : LnV RLaw yX12_comes.cls 31 yX12_comes := ⟨TT_in 1096 (by decide +kernel) (by decide +kernel), TT_in 1097 (by decide +kernel) (by decide +kernel), TT_in 1098 (by decide +kernel) (by decide +kernel), TT_in 84 (by decide +kernel) (by decide +kernel)⟩
theorem lk_law_32 : LnV RLaw yX11_goes.cls 32 yX11_goes := ⟨TT_in 721 (by decide +kernel) (by decide +kernel), TT_in 722 (by decide +kernel) (by decide +kernel), TT_in 723 (by decide +kernel) (by decide +kernel), TT_in 68 (by decide +kernel) (by decide +kernel)⟩
theorem lk_law_35 : LnV RLaw yX12_goes.cls 35 yX12_goes := ⟨TT_in 1103 (by decide +kernel) (by decide +kernel), TT_in 1104 (by decide +kernel) (by decide +kernel), TT_in 1105 (by decide +kernel) (by decide +kernel), TT_in 84 (by decide +kernel) (by decide +kernel)⟩
theorem lk_law_36 : LnV RLaw yX11_becomes.cls 36 yX11_becomes := ⟨TT_in 729 (by decide +kernel) (by decide +kernel), TT_in 730 (by decide +kernel) (by decide +kernel), TT_in 731 (by decide +kernel) (by decide +kernel), TT_in 68 (by decide +kernel) (by decide +kernel)⟩
theorem lk_law_39 : LnV RLaw yX12_becomes.cls 39 yX12_becomes := ⟨TT_in 1111 (by decide +kernel) (by decide +kernel), TT_in 1112 (by decide +kernel) (by decide +kernel), TT_in 1113 (by decide +kernel) (by decide +kernel), TT_in 84 (by decide +kernel) (by decide +kernel)⟩
theorem lk_law_40 : LnV RLaw yX11_undo.cls 40 yX11_undo := ⟨TT_in 733 (by decide +kernel) (by decide +kernel), TT_in 734 (by decide +kernel) (by decide +kernel), TT_in 735 (by decide +kernel) (by decide +kernel), TT_in 68 (by decide +kernel) (by decide +kernel)⟩
theorem lk_law_43 : LnV RLaw yX12_undo.cls 43 yX12_undo := ⟨TT_in 1092 (by decide +kernel) (by decide +kernel), TT_in 1093 (by decide +kernel) (by decide +kernel), TT_in 1094 (by decide +kernel) (by decide +kernel), TT_in 84 (by decide +kernel) (by decide +kernel)⟩
theorem lk_law_44 : LnV RLaw yX11_rule.cls 44 yX11_rule := ⟨TT_in 741 (by decide +kernel) (by decide +kernel), TT_in 742 (by decide +kernel) (by decide +kernel), TT_in 743 (by decide +kernel) (by decide +kernel), TT_in 68 (by decide +kernel) (by decide +kernel)⟩
theorem lk_law_47 : LnV RLaw yX12_rule.cls 47 yX12_rule := ⟨TT_in 1115 (by decide +kernel) (by decide +kernel), TT_in 1116 (by decide +kernel) (by decide +kernel), TT_in 1117 (by decide +kernel) (by decide +kernel), TT_in 84 (by decide +kernel) (by decide +kernel)⟩
theorem lk_law_48 : LnV RLaw yX11_chance.cls 48 yX11_chance := ⟨TT_in 745 (by decide +kernel) (by decide +kernel), TT_in 746 (by decide +kernel) (by decide +kernel), TT_in 747 (by decide +kernel) (by decide +kernel), TT_in 68 (by decide +kernel) (by decide +kernel)⟩
theorem lk_law_51 : LnV RLaw yX12_chance.cls 51 yX12_chance := ⟨TT_in 1119 (by decide +kernel) (by decide +kernel), TT_in 1120 (by decide +kernel) (by decide +kernel), TT_in 1121 (by decide +kernel) (by decide +kernel), TT_in 84 (by decide +kernel) (by decide +kernel)⟩
theorem lk_law_52 : LnV RLaw yX11_row.cls 52 yX11_row := ⟨TT_in 749 (by decide +kernel) (by decide +kernel), TT_in 750 (by decide +kernel) (by decide +kernel), TT_in 751 (by decide +kernel) (by decide +kernel), TT_in 68 (by decide +kernel) (by decide +kernel)⟩
theorem lk_law_55 : LnV RLaw yX12_row.cls 55 yX12_row := ⟨TT_in 1123 (by decide +kernel) (by decide +kernel), TT_in 1124 (by decide +kernel) (by decide +kernel), TT_in 1125 (by decide +kernel) (by decide +kernel), TT_in 84 (by decide +kernel) (by decide +kernel)⟩
theorem lk_law_56 : LnV RLaw yX11_alarm.cls 56 yX11_alarm := ⟨TT_in 771 (by decide +kernel) (by decide +kernel), TT_in 772 (by decide +kernel) (by decide +kernel), TT_in 773 (by decide +kernel) (by decide +kernel), TT_in 68 (by decide +kernel) (by decide +kernel)⟩
theorem lk_law_59 : LnV RLaw yX12_alarm.cls 59 yX12_alarm := ⟨TT_in 1174 (by decide +kernel) (by decide +kernel), TT_in 1175 (by decide +kernel) (by decide +kernel), TT_in 1176 (by decide +kernel) (by decide +kernel), TT_in 84 (by decide +kernel) (by decide +kernel)⟩
theorem lk_law_60 : LnV RLaw yX11_signal.cls 60 yX11_signal := ⟨TT_in 779 (by decide +kernel) (by decide +kernel), TT_in 780 (by decide +kernel) (by decide +kernel), TT_in 781 (by decide +kernel) (by decide +kernel), TT_in 68 (by decide +kernel) (by decide +kernel)⟩
theorem lk_law_63 : LnV RLaw yX12_signal.cls 63 yX12_signal := ⟨TT_in 1178 (by decide +kernel) (by decide +kernel), TT_in 1179 (by decide +kernel) (by decide +kernel), TT_in 1180 (by decide +kernel) (by decide +kernel), TT_in 84 (by decide +kernel) (by decide +kernel)⟩
theorem lk_law_64 : LnV RLaw yX11_step.cls 64 yX11_step := ⟨TT_in 783 (by decide +kernel) (by decide +kernel), TT_in 784 (by decide +kernel) (by decide +kernel), TT_in 785 (by decide +kernel) (by decide +kernel), TT_in 68 (by decide +kernel) (by decide +kernel)⟩
theorem lk_law_67 : LnV RLaw yX12_step.cls 67 yX12_step := ⟨TT_in 1182 (by decide +kernel) (by decide +kernel), TT_in 1183 (by decide +kernel) (by decide +kernel), TT_in 1184 (by decide +kernel) (by decide +kernel), TT_in 84 (by decide +kernel) (by decide +kernel)⟩
theorem lk_law_68 : LnV RLaw yX11_soonest.cls 68 yX11_soonest := ⟨TT_in 787 (by decide +kernel) (by decide +kernel), TT_in 788 (by decide +kernel) (by decide +kernel), TT_in 789 (by decide +kernel) (by decide +kernel), TT_in 68 (by decide +kernel) (by decide +kernel)⟩
theorem lk_law_71 : LnV RLaw yX12_soonest.cls 71 yX12_soonest := ⟨TT_in 1186 (by decide +kernel) (by decide +kernel), TT_in 1187 (by decide +kernel) (by decide +kernel), TT_in 1188 (by decide +kernel) (by decide +kernel), TT_in 84 (by decide +kernel) (by decide +kernel)⟩
theorem lk_law_72 : LnV RLaw yX11_odds.cls 72 yX11_odds := ⟨TT_in 805 (by decide +kernel) (by decide +kernel), TT_in 806 (by decide +kernel) (by decide +kernel), TT_in 807 (by decide +kernel) (by decide +kernel), TT_in 68 (by decide +kernel) (by decide +kernel)⟩
theorem lk_law_75 : LnV RLaw yX12_odds.cls 75 yX12_odds := ⟨TT_in 1202 (by decide +kernel) (by decide +kernel), TT_in 1203 (by decide +kernel) (by decide +kernel), TT_in 1204 (by decide +kernel) (by decide +kernel), TT_in 84 (by decide +kernel) (by decide +kernel)⟩
theorem lk_law_76 : LnV RLaw yX11_mean.cls 76 yX11_mean := ⟨TT_in 822 (by decide +kernel) (by decide +kernel), TT_in 823 (by decide +kernel) (by decide +kernel), TT_in 824 (by decide +kernel) (by decide +kernel), TT_in 68 (by decide +kernel) (by decide +kernel)⟩
theorem lk_law_79 : LnV RLaw yX12_mean.cls 79 yX12_mean := ⟨TT_in 1210 (by decide +kernel) (by decide +kernel), TT_in 1211 (by decide +kernel) (by decide +kernel), TT_in 1212 (by decide +kernel) (by decide +kernel), TT_in 84 (by decide +kernel) (by decide +kernel)⟩
theorem lk_law_80 : LnV RLaw yX11_same.cls 80 yX11_same := ⟨TT_in 871 (by decide +kernel) (by decide +kernel), TT_in 872 (by decide +kernel) (by decide +kernel), TT_in 873 (by decide +kernel) (by decide +kernel), TT_in 68 (by decide +kernel) (by decide +kernel)⟩
theorem lk_law_83 : LnV RLaw yX12_same.cls 83 yX12_same := ⟨TT_in 1231 (by decide +kernel) (by decide +kernel), TT_in 1232 (by decide +kernel) (by decide +kernel), TT_in 1233 (by decide +kernel) (by decide +kernel), TT_in 84 (by decide +kernel) (by decide +kernel)⟩
theorem lk_law_84 : LnV RLaw yX11_keep.cls 84 yX11_keep := ⟨TT_in 886 (by decide +kernel) (by decide +kernel), TT_in 887 (by decide +kernel) (by decide +kernel), TT_in 888 (by decide +kernel) (by decide +kernel), TT_in 68 (by decide +kernel) (by decide +kernel)⟩
theorem lk_law_87 : LnV RLaw yX12_keep.cls 87 yX12_keep := ⟨TT_in 1239 (by decide +kernel) (by decide +kernel), TT_in 1240 (by decide +kernel) (by decide +kernel), TT_in 1241 (by decide +kernel) (by decide +kernel), TT_in 84 (by decide +kernel) (by decide +kernel)⟩
theorem lk_law_88 : LnV RLaw yX11_back.cls 88 yX11_back := ⟨TT_in 891 (by decide +kernel) (by decide +kernel), TT_in 892 (by decide +kernel) (by decide +kernel), TT_in 893 (by decide +kernel) (by decide +kernel), TT_in 68 (by decide +kernel) (by decide +kernel)⟩
theorem lk_law_91 : LnV RLaw yX12_back.cls 91 yX12_back := ⟨TT_in 1243 (by decide +kernel) (by decide +kernel), TT_in 1244 (by decide +kernel) (by decide +kernel), TT_in 1245 (by decide +kernel) (by decide +kernel), TT_in 84 (by decide +kernel) (by decide +kernel)⟩
theorem lk_law_92 : LnV RLaw yX11_count.cls 92 yX11_count := ⟨TT_in 899 (by decide +kernel) (by decide +kernel), TT_in 900 (by decide +kernel) (by decide +kernel), TT_in 901 (by decide +kernel) (by decide +kernel), TT_in 68 (by decide +kernel) (by decide +kernel)⟩
theorem lk_law_95 : LnV RLaw yX12_count.cls 95 yX12_count := ⟨TT_in 1247 (by decide +kernel) (by decide +kernel), TT_in 1248 (by decide +kernel) (by decide +kernel), TT_in 1249 (by decide +kernel) (by decide +kernel), TT_in 84 (by decide +kernel) (by decide +kernel)⟩
section LAW
variable {p : Program} {l : Launch} {e : Env} {s : State} {m : MethodId} {below : List Frame} {meth : Method} {c_ : Code} {b Ls : Nat} {xs : Nat → Int32} {Q : State → Prop} {D : va_G} {E : Nat → ClassId} {Z : ZT} {n : Nat} {ad : Nat → Nat} {ah ai : Nat → Nat → Nat} {Lp : List Nat} {am : Nat → Nat} {cw : Cond}
/-- the value of the script at a place -/
def sv (xs : Nat → Int32) (i : Int) : Int := (xs i.toNat).toInt
theorem sv_r (xs : Nat → Int32) (i : Int) : r4 (sv xs i) := ⟨by have := Int32.le_toInt (xs i.toNat); unfold sv; omega, by have := Int32.toInt_lt (xs i.toNat); unfold sv; omega⟩
theorem m_sld {R : Room} {args : Array Value} {cc : ByteArray} {pc nL : Nat} {own : String} {H : Heap} {locs : List Loc} {cells slots : Nat} {ls : Array Slot} {rest : List Value} {A : Nat → Prop} (X : CallFix p m c_ cc nL s args (cw :: TT) own) (hX : va_X b Ls xs s s.heap) (hbl : b < s.heap.size) (hbA : ¬ A b) (hLs : Ls ≤ 1536) (hS : va_S A s.heap H locs) {i : Int} (h : 0 ≤ i ∧ i < (Ls : Int)) (d : decode cc pc = .ok (.iaload, 1)) (k : W p l e R s m args below meth c_ H locs cells slots Q (F0 m (pc + 1) ls (.int (z4 (sv xs i)) :: rest))) : W p l e R s m args below meth c_ H locs cells slots Q (F0 m pc ls (.int (z4 i) :: .ref b :: rest)) := by
  refine va_sld X.1 X.2.1 hX hbl hbA hS (z4_in (n := Ls) (by omega) h).1 d ?_
  rw [(z4_in (n := Ls) (by omega) h).2]
  have : xs i.toNat = z4 (sv xs i) := (z4_back _).symm
  rw [this]
  exact k
/-- the walk goes on at a place of the law, whatever both hold, if it is alike -/
def LG (p : Program) (l : Launch) (e : Env) (s : State) (m : MethodId) (below : List Frame) (meth : Method) (c_ : Code) (b : Nat) (Q : State → Prop) (D : va_G) (E : Nat → ClassId) (n : Nat) (ad : Nat → Nat) (ah ai : Nat → Nat → Nat) (Lp : List Nat) (am : Nat → Nat) (i : Int) (u pc : Nat) : Prop := ∀ (c : TC) (mm : TM) (H : Heap) (locs : List Loc) (ls : Array Slot), REL u n Lp c mm → va_P D vwCl (WC E ad ah ai Lp c ++ WM E am mm) H → va_D (fun q : Nat => s.heap.size ≤ q) (WC E ad ah ai Lp c ++ WM E am mm) → va_S (fun q : Nat => s.heap.size ≤ q) s.heap H locs → lv_has ls 4 [(3, .int (z4 i)), (2, .ref (am 0)), (1, .ref (ad 0)), (0, .ref b)] → W p l e room_1 s m #[Value.ref b] below meth c_ H locs 218 13983 Q (F0 m pc ls [])
set_option maxHeartbeats 4000000 in
theorem law_type (X : CallFix p m c_ code 4 s #[Value.ref b] (cw :: TT) RLaw) (hX : va_X b Ls xs s s.heap) (hbl : b < s.heap.size) (hLs : Ls ≤ 1536) (hK : KK D E s) (hF : SF s.heap.size Z s s.heap) {u : Nat} (hu : u < 1000000) (hn : 1000 ≤ n) {i : Int} (hi : 0 ≤ i ∧ i + 2 < (Ls : Int)) (hk : LG p l e s m below meth c_ b Q D E n ad ah ai Lp am i (u + 1) 608) : LG p l e s m below meth c_ b Q D E n ad ah ai Lp am i u 128 := by
  intro c mm H locs ls hR hP hD hS hl
  have hA : ∀ q : Nat, s.heap.size ≤ q → (fun q : Nat => s.heap.size ≤ q) q := fun _ h => h
  have hAB : ∀ q : Nat, (fun q : Nat => s.heap.size ≤ q) q → s.heap.size ≤ q := fun _ h => h
  have hbA : ¬ (fun q : Nat => s.heap.size ≤ q) b := Nat.not_le.mpr hbl
  obtain ⟨r, c', mm', hR', hC, hM⟩ := s_type (l := l) (D := D) (E := E) (B := s.heap.size) (Z := Z) hu hn (ad := ad) (ah := ah) (ai := ai) (am := am) hR (sv xs (i + 1)) (sv_r xs _)
  refine lv_aload_n X.1 X.2.1 d_law_128 rfl (lv_at hl 2 rfl) ?_
  refine lv_aload_n X.1 X.2.1 d_law_129 rfl (lv_at hl 3 rfl) ?_
  refine lv_iload_n X.1 X.2.1 d_law_130 rfl (lv_at hl 0 rfl) ?_
  refine m_iconst X d_law_131 ?_
  refine m_iadd X d_law_132 ?_
  refine m_sld X hX hbl hbA hLs hS (by omega) d_law_133 ?_
  refine m_cVWf (As := [.int (z4 (sv xs (i + 1)))]) (rest := []) X hK hF hAB (Nat.le_refl _) hP hD hS hA hC rfl cl_X11 lk_law_13 co_X11_type dy_X11_type rfl rfl ⟨Nat.le_of_ble_eq_true rfl, Nat.le_of_ble_eq_true rfl⟩ hl.1 rfl (Nat.le_of_ble_eq_true rfl) d_law_134 (Nat.le_of_ble_eq_true rfl) (Nat.le_of_ble_eq_true rfl) (fun H locs hP hD hS => ?_)
  replace hP := hP.perm List.perm_append_comm
  replace hD := hD.perm List.perm_append_comm
  refine lv_aload_n X.1 X.2.1 d_law_137 rfl (lv_at hl 1 rfl) ?_
  refine lv_aload_n X.1 X.2.1 d_law_138 rfl (lv_at hl 3 rfl) ?_
  refine lv_iload_n X.1 X.2.1 d_law_139 rfl (lv_at hl 0 rfl) ?_
  refine m_iconst X d_law_140 ?_
  refine m_iadd X d_law_141 ?_
  refine m_sld X hX hbl hbA hLs hS (by omega) d_law_142 ?_
  refine m_cVWf (As := [.int (z4 (sv xs (i + 1)))]) (rest := [.int (z4 r)]) X hK hF hAB (Nat.le_refl _) hP hD hS hA hM rfl cl_X12 lk_law_17 co_X12_type dy_X12_type rfl rfl ⟨Nat.le_of_ble_eq_true rfl, Nat.le_of_ble_eq_true rfl⟩ hl.1 rfl (Nat.le_of_ble_eq_true rfl) d_law_143 (Nat.le_of_ble_eq_true rfl) (Nat.le_of_ble_eq_true rfl) (fun H locs hP hD hS => ?_)
  replace hP := hP.perm List.perm_append_comm
  replace hD := hD.perm List.perm_append_comm
  refine lv_icmp_eq (tgt := 608) X.1 X.2.1 d_law_146 (by decide) (fun _ => ?_) (fun h_ => absurd rfl h_)
  exact hk c' mm' H locs ls hR' hP hD hS hl
set_option maxHeartbeats 4000000 in
theorem law_clear (X : CallFix p m c_ code 4 s #[Value.ref b] (cw :: TT) RLaw) (hX : va_X b Ls xs s s.heap) (hbl : b < s.heap.size) (hLs : Ls ≤ 1536) (hK : KK D E s) (hF : SF s.heap.size Z s s.heap) {u : Nat} (hu : u < 1000000) (hn : 1000 ≤ n) {i : Int} (hi : 0 ≤ i ∧ i + 2 < (Ls : Int)) (hk : LG p l e s m below meth c_ b Q D E n ad ah ai Lp am i (u + 1) 608) : LG p l e s m below meth c_ b Q D E n ad ah ai Lp am i u 151 := by
  intro c mm H locs ls hR hP hD hS hl
  have hA : ∀ q : Nat, s.heap.size ≤ q → (fun q : Nat => s.heap.size ≤ q) q := fun _ h => h
  have hAB : ∀ q : Nat, (fun q : Nat => s.heap.size ≤ q) q → s.heap.size ≤ q := fun _ h => h
  have hbA : ¬ (fun q : Nat => s.heap.size ≤ q) b := Nat.not_le.mpr hbl
  obtain ⟨r, c', mm', hR', hC, hM⟩ := s_clear (l := l) (D := D) (E := E) (B := s.heap.size) (Z := Z) hu hn (ad := ad) (ah := ah) (ai := ai) (am := am) hR 
  refine lv_aload_n X.1 X.2.1 d_law_151 rfl (lv_at hl 2 rfl) ?_
  refine m_cVWf (As := []) (rest := []) X hK hF hAB (Nat.le_refl _) hP hD hS hA hC rfl cl_X11 lk_law_18 co_X11_clear dy_X11_clear rfl rfl ⟨Nat.le_of_ble_eq_true rfl, Nat.le_of_ble_eq_true rfl⟩ hl.1 rfl (Nat.le_of_ble_eq_true rfl) d_law_152 (Nat.le_of_ble_eq_true rfl) (Nat.le_of_ble_eq_true rfl) (fun H locs hP hD hS => ?_)
  replace hP := hP.perm List.perm_append_comm
  replace hD := hD.perm List.perm_append_comm
  refine lv_aload_n X.1 X.2.1 d_law_155 rfl (lv_at hl 1 rfl) ?_
  refine m_cVWf (As := []) (rest := [.int (z4 r)]) X hK hF hAB (Nat.le_refl _) hP hD hS hA hM rfl cl_X12 lk_law_22 co_X12_clear dy_X12_clear rfl rfl ⟨Nat.le_of_ble_eq_true rfl, Nat.le_of_ble_eq_true rfl⟩ hl.1 rfl (Nat.le_of_ble_eq_true rfl) d_law_156 (Nat.le_of_ble_eq_true rfl) (Nat.le_of_ble_eq_true rfl) (fun H locs hP hD hS => ?_)
  replace hP := hP.perm List.perm_append_comm
  replace hD := hD.perm List.perm_append_comm
  refine lv_icmp_eq (tgt := 608) X.1 X.2.1 d_law_159 (by decide) (fun _ => ?_) (fun h_ => absurd rfl h_)
  exact hk c' mm' H locs ls hR' hP hD hS hl
set_option maxHeartbeats 4000000 in
theorem law_tells (X : CallFix p m c_ code 4 s #[Value.ref b] (cw :: TT) RLaw) (hX : va_X b Ls xs s s.heap) (hbl : b < s.heap.size) (hLs : Ls ≤ 1536) (hK : KK D E s) (hF : SF s.heap.size Z s s.heap) {u : Nat} (hu : u < 1000000) (hn : 1000 ≤ n) {i : Int} (hi : 0 ≤ i ∧ i + 2 < (Ls : Int)) (hk : LG p l e s m below meth c_ b Q D E n ad ah ai Lp am i (u + 1) 608) : LG p l e s m below meth c_ b Q D E n ad ah ai Lp am i u 164 := by
  intro c mm H locs ls hR hP hD hS hl
  have hA : ∀ q : Nat, s.heap.size ≤ q → (fun q : Nat => s.heap.size ≤ q) q := fun _ h => h
  have hAB : ∀ q : Nat, (fun q : Nat => s.heap.size ≤ q) q → s.heap.size ≤ q := fun _ h => h
  have hbA : ¬ (fun q : Nat => s.heap.size ≤ q) b := Nat.not_le.mpr hbl
  obtain ⟨r, c', mm', hR', hC, hM⟩ := s_tells (l := l) (D := D) (E := E) (B := s.heap.size) (Z := Z) hu hn (ad := ad) (ah := ah) (ai := ai) (am := am) hR 
  refine lv_aload_n X.1 X.2.1 d_law_164 rfl (lv_at hl 2 rfl) ?_
  refine m_cVWf (As := []) (rest := []) X hK hF hAB (Nat.le_refl _) hP hD hS hA hC rfl cl_X11 lk_law_23 co_X11_tells dy_X11_tells rfl rfl ⟨Nat.le_of_ble_eq_true rfl, Nat.le_of_ble_eq_true rfl⟩ hl.1 rfl (Nat.le_of_ble_eq_true rfl) d_law_165 (Nat.le_of_ble_eq_true rfl) (Nat.le_of_ble_eq_true rfl) (fun H locs hP hD hS => ?_)
  replace hP := hP.perm List.perm_append_comm
  replace hD := hD.perm List.perm_append_comm
  refine lv_aload_n X.1 X.2.1 d_law_168 rfl (lv_at hl 1 rfl) ?_
  refine m_cVWf (As := []) (rest := [.int (z4 r)]) X hK hF hAB (Nat.le_refl _) hP hD hS hA hM rfl cl_X12 lk_law_26 co_X12_tells dy_X12_tells rfl rfl ⟨Nat.le_of_ble_eq_true rfl, Nat.le_of_ble_eq_true rfl⟩ hl.1 rfl (Nat.le_of_ble_eq_true rfl) d_law_169 (Nat.le_of_ble_eq_true rfl) (Nat.le_of_ble_eq_true rfl) (fun H locs hP hD hS => ?_)
  replace hP := hP.perm List.perm_append_comm
  replace hD := hD.perm List.perm_append_comm
  refine lv_icmp_eq (tgt := 608) X.1 X.2.1 d_law_172 (by decide) (fun _ => ?_) (fun h_ => absurd rfl h_)
  exact hk c' mm' H locs ls hR' hP hD hS hl
set_option maxHeartbeats 4000000 in
theorem law_comes (X : CallFix p m c_ code 4 s #[Value.ref b] (cw :: TT) RLaw) (hX : va_X b Ls xs s s.heap) (hbl : b < s.heap.size) (hLs : Ls ≤ 1536) (hK : KK D E s) (hF : SF s.heap.size Z s s.heap) {u : Nat} (hu : u < 1000000) (hn : 1000 ≤ n) {i : Int} (hi : 0 ≤ i ∧ i + 2 < (Ls : Int)) (hk : LG p l e s m below meth c_ b Q D E n ad ah ai Lp am i (u + 1) 608) : LG p l e s m below meth c_ b Q D E n ad ah ai Lp am i u 177 := by
  intro c mm H locs ls hR hP hD hS hl
  have hA : ∀ q : Nat, s.heap.size ≤ q → (fun q : Nat => s.heap.size ≤ q) q := fun _ h => h
  have hAB : ∀ q : Nat, (fun q : Nat => s.heap.size ≤ q) q → s.heap.size ≤ q := fun _ h => h
  have hbA : ¬ (fun q : Nat => s.heap.size ≤ q) b := Nat.not_le.mpr hbl
  obtain ⟨r, c', mm', hR', hC, hM⟩ := s_comes (l := l) (D := D) (E := E) (B := s.heap.size) (Z := Z) hu hn (ad := ad) (ah := ah) (ai := ai) (am := am) hR (sv xs (i + 1)) (sv_r xs _) (sv xs (i + 2)) (sv_r xs _)
  refine lv_aload_n X.1 X.2.1 d_law_177 rfl (lv_at hl 2 rfl) ?_
  refine lv_aload_n X.1 X.2.1 d_law_178 rfl (lv_at hl 3 rfl) ?_
  refine lv_iload_n X.1 X.2.1 d_law_179 rfl (lv_at hl 0 rfl) ?_
  refine m_iconst X d_law_180 ?_
  refine m_iadd X d_law_181 ?_
  refine m_sld X hX hbl hbA hLs hS (by omega) d_law_182 ?_
  refine lv_aload_n X.1 X.2.1 d_law_183 rfl (lv_at hl 3 rfl) ?_
  refine lv_iload_n X.1 X.2.1 d_law_184 rfl (lv_at hl 0 rfl) ?_
  refine m_iconst X d_law_185 ?_
  refine m_iadd X d_law_186 ?_
  refine m_sld X hX hbl hbA hLs hS (by omega) d_law_187 ?_
  refine m_cVWf (As := [.int (z4 (sv xs (i + 1))), .int (z4 (sv xs (i + 2)))]) (rest := []) X hK hF hAB (Nat.le_refl _) hP hD hS hA hC rfl cl_X11 lk_law_27 co_X11_comes dy_X11_comes rfl rfl ⟨Nat.le_of_ble_eq_true rfl, Nat.le_of_ble_eq_true rfl⟩ hl.1 rfl (Nat.le_of_ble_eq_true rfl) d_law_188 (Nat.le_of_ble_eq_true rfl) (Nat.le_of_ble_eq_true rfl) (fun H locs hP hD hS => ?_)
  replace hP := hP.perm List.perm_append_comm
  replace hD := hD.perm List.perm_append_comm
  refine lv_aload_n X.1 X.2.1 d_law_191 rfl (lv_at hl 1 rfl) ?_
  refine lv_aload_n X.1 X.2.1 d_law_192 rfl (lv_at hl 3 rfl) ?_
  refine lv_iload_n X.1 X.2.1 d_law_193 rfl (lv_at hl 0 rfl) ?_
  refine m_iconst X d_law_194 ?_
  refine m_iadd X d_law_195 ?_
  refine m_sld X hX hbl hbA hLs hS (by omega) d_law_196 ?_
  refine lv_aload_n X.1 X.2.1 d_law_197 rfl (lv_at hl 3 rfl) ?_
  refine lv_iload_n X.1 X.2.1 d_law_198 rfl (lv_at hl 0 rfl) ?_
  refine m_iconst X d_law_199 ?_
  refine m_iadd X d_law_200 ?_
  refine m_sld X hX hbl hbA hLs hS (by omega) d_law_201 ?_
  refine m_cVWf (As := [.int (z4 (sv xs (i + 1))), .int (z4 (sv xs (i + 2)))]) (rest := [.int (z4 r)]) X hK hF hAB (Nat.le_refl _) hP hD hS hA hM rfl cl_X12 lk_law_31 co_X12_comes dy_X12_comes rfl rfl ⟨Nat.le_of_ble_eq_true rfl, Nat.le_of_ble_eq_true rfl⟩ hl.1 rfl (Nat.le_of_ble_eq_true rfl) d_law_202 (Nat.le_of_ble_eq_true rfl) (Nat.le_of_ble_eq_true rfl) (fun H locs hP hD hS => ?_)
  replace hP := hP.perm List.perm_append_comm
  replace hD := hD.perm List.perm_append_comm
  refine lv_icmp_eq (tgt := 608) X.1 X.2.1 d_law_205 (by decide) (fun _ => ?_) (fun h_ => absurd rfl h_)
  exact hk c' mm' H locs ls hR' hP hD hS hl
set_option maxHeartbeats 4000000 in
theorem law_goes (X : CallFix p m c_ code 4 s #[Value.ref b] (cw :: TT) RLaw) (hX : va_X b Ls xs s s.heap) (hbl : b < s.heap.size) (hLs : Ls ≤ 1536) (hK : KK D E s) (hF : SF s.heap.size Z s s.heap) {u : Nat} (hu : u < 1000000) (hn : 1000 ≤ n) {i : Int} (hi : 0 ≤ i ∧ i + 2 < (Ls : Int)) (hk : LG p l e s m below meth c_ b Q D E n ad ah ai Lp am i (u + 1) 608) : LG p l e s m below meth c_ b Q D E n ad ah ai Lp am i u 210 := by
  intro c mm H locs ls hR hP hD hS hl
  have hA : ∀ q : Nat, s.heap.size ≤ q → (fun q : Nat => s.heap.size ≤ q) q := fun _ h => h
  have hAB : ∀ q : Nat, (fun q : Nat => s.heap.size ≤ q) q → s.heap.size ≤ q := fun _ h => h
  have hbA : ¬ (fun q : Nat => s.heap.size ≤ q) b := Nat.not_le.mpr hbl
  obtain ⟨r, c', mm', hR', hC, hM⟩ := s_goes (l := l) (D := D) (E := E) (B := s.heap.size) (Z := Z) hu hn (ad := ad) (ah := ah) (ai := ai) (am := am) hR (sv xs (i + 1)) (sv_r xs _)
  refine lv_aload_n X.1 X.2.1 d_law_210 rfl (lv_at hl 2 rfl) ?_
  refine lv_aload_n X.1 X.2.1 d_law_211 rfl (lv_at hl 3 rfl) ?_
  refine lv_iload_n X.1 X.2.1 d_law_212 rfl (lv_at hl 0 rfl) ?_
  refine m_iconst X d_law_213 ?_
  refine m_iadd X d_law_214 ?_
  refine m_sld X hX hbl hbA hLs hS (by omega) d_law_215 ?_
  refine m_cVWf (As := [.int (z4 (sv xs (i + 1)))]) (rest := []) X hK hF hAB (Nat.le_refl _) hP hD hS hA hC rfl cl_X11 lk_law_32 co_X11_goes dy_X11_goes rfl rfl ⟨Nat.le_of_ble_eq_true rfl, Nat.le_of_ble_eq_true rfl⟩ hl.1 rfl (Nat.le_of_ble_eq_true rfl) d_law_216 (Nat.le_of_ble_eq_true rfl) (Nat.le_of_ble_eq_true rfl) (fun H locs hP hD hS => ?_)
  replace hP := hP.perm List.perm_append_comm
  replace hD := hD.perm List.perm_append_comm
  refine lv_aload_n X.1 X.2.1 d_law_219 rfl (lv_at hl 1 rfl) ?_
  refine lv_aload_n X.1 X.2.1 d_law_220 rfl (lv_at hl 3 rfl) ?_
  refine lv_iload_n X.1 X.2.1 d_law_221 rfl (lv_at hl 0 rfl) ?_
  refine m_iconst X d_law_222 ?_
  refine m_iadd X d_law_223 ?_
  refine m_sld X hX hbl hbA hLs hS (by omega) d_law_224 ?_
  refine m_cVWf (As := [.int (z4 (sv xs (i + 1)))]) (rest := [.int (z4 r)]) X hK hF hAB (Nat.le_refl _) hP hD hS hA hM rfl cl_X12 lk_law_35 co_X12_goes dy_X12_goes rfl rfl ⟨Nat.le_of_ble_eq_true rfl, Nat.le_of_ble_eq_true rfl⟩ hl.1 rfl (Nat.le_of_ble_eq_true rfl) d_law_225 (Nat.le_of_ble_eq_true rfl) (Nat.le_of_ble_eq_true rfl) (fun H locs hP hD hS => ?_)
  replace hP := hP.perm List.perm_append_comm
  replace hD := hD.perm List.perm_append_comm
  refine lv_icmp_eq (tgt := 608) X.1 X.2.1 d_law_228 (by decide) (fun _ => ?_) (fun h_ => absurd rfl h_)
  exact hk c' mm' H locs ls hR' hP hD hS hl
set_option maxHeartbeats 4000000 in
theorem law_becomes (X : CallFix p m c_ code 4 s #[Value.ref b] (cw :: TT) RLaw) (hX : va_X b Ls xs s s.heap) (hbl : b < s.heap.size) (hLs : Ls ≤ 1536) (hK : KK D E s) (hF : SF s.heap.size Z s s.heap) {u : Nat} (hu : u < 1000000) (hn : 1000 ≤ n) {i : Int} (hi : 0 ≤ i ∧ i + 2 < (Ls : Int)) (hk : LG p l e s m below meth c_ b Q D E n ad ah ai Lp am i (u + 1) 608) : LG p l e s m below meth c_ b Q D E n ad ah ai Lp am i u 233 := by
  intro c mm H locs ls hR hP hD hS hl
  have hA : ∀ q : Nat, s.heap.size ≤ q → (fun q : Nat => s.heap.size ≤ q) q := fun _ h => h
  have hAB : ∀ q : Nat, (fun q : Nat => s.heap.size ≤ q) q → s.heap.size ≤ q := fun _ h => h
  have hbA : ¬ (fun q : Nat => s.heap.size ≤ q) b := Nat.not_le.mpr hbl
  obtain ⟨r, c', mm', hR', hC, hM⟩ := s_becomes (l := l) (D := D) (E := E) (B := s.heap.size) (Z := Z) hu hn (ad := ad) (ah := ah) (ai := ai) (am := am) hR (sv xs (i + 1)) (sv_r xs _) (sv xs (i + 2)) (sv_r xs _)
  refine lv_aload_n X.1 X.2.1 d_law_233 rfl (lv_at hl 2 rfl) ?_
  refine lv_aload_n X.1 X.2.1 d_law_234 rfl (lv_at hl 3 rfl) ?_
  refine lv_iload_n X.1 X.2.1 d_law_235 rfl (lv_at hl 0 rfl) ?_
  refine m_iconst X d_law_236 ?_
  refine m_iadd X d_law_237 ?_
  refine m_sld X hX hbl hbA hLs hS (by omega) d_law_238 ?_
  refine lv_aload_n X.1 X.2.1 d_law_239 rfl (lv_at hl 3 rfl) ?_
  refine lv_iload_n X.1 X.2.1 d_law_240 rfl (lv_at hl 0 rfl) ?_
  refine m_iconst X d_law_241 ?_
  refine m_iadd X d_law_242 ?_
  refine m_sld X hX hbl hbA hLs hS (by omega) d_law_243 ?_
  refine m_cVWf (As := [.int (z4 (sv xs (i + 1))), .int (z4 (sv xs (i + 2)))]) (rest := []) X hK hF hAB (Nat.le_refl _) hP hD hS hA hC rfl cl_X11 lk_law_36 co_X11_becomes dy_X11_becomes rfl rfl ⟨Nat.le_of_ble_eq_true rfl, Nat.le_of_ble_eq_true rfl⟩ hl.1 rfl (Nat.le_of_ble_eq_true rfl) d_law_244 (Nat.le_of_ble_eq_true rfl) (Nat.le_of_ble_eq_true rfl) (fun H locs hP hD hS => ?_)
  replace hP := hP.perm List.perm_append_comm
  replace hD := hD.perm List.perm_append_comm
  refine lv_aload_n X.1 X.2.1 d_law_247 rfl (lv_at hl 1 rfl) ?_
  refine lv_aload_n X.1 X.2.1 d_law_248 rfl (lv_at hl 3 rfl) ?_
  refine lv_iload_n X.1 X.2.1 d_law_249 rfl (lv_at hl 0 rfl) ?_
  refine m_iconst X d_law_250 ?_
  refine m_iadd X d_law_251 ?_
  refine m_sld X hX hbl hbA hLs hS (by omega) d_law_252 ?_
  refine lv_aload_n X.1 X.2.1 d_law_253 rfl (lv_at hl 3 rfl) ?_
  refine lv_iload_n X.1 X.2.1 d_law_254 rfl (lv_at hl 0 rfl) ?_
  refine m_iconst X d_law_255 ?_
  refine m_iadd X d_law_256 ?_
  refine m_sld X hX hbl hbA hLs hS (by omega) d_law_257 ?_
  refine m_cVWf (As := [.int (z4 (sv xs (i + 1))), .int (z4 (sv xs (i + 2)))]) (rest := [.int (z4 r)]) X hK hF hAB (Nat.le_refl _) hP hD hS hA hM rfl cl_X12 lk_law_39 co_X12_becomes dy_X12_becomes rfl rfl ⟨Nat.le_of_ble_eq_true rfl, Nat.le_of_ble_eq_true rfl⟩ hl.1 rfl (Nat.le_of_ble_eq_true rfl) d_law_258 (Nat.le_of_ble_eq_true rfl) (Nat.le_of_ble_eq_true rfl) (fun H locs hP hD hS => ?_)
  replace hP := hP.perm List.perm_append_comm
  replace hD := hD.perm List.perm_append_comm
  refine lv_icmp_eq (tgt := 608) X.1 X.2.1 d_law_261 (by decide) (fun _ => ?_) (fun h_ => absurd rfl h_)
  exact hk c' mm' H locs ls hR' hP hD hS hl
set_option maxHeartbeats 4000000 in
theorem law_undo (X : CallFix p m c_ code 4 s #[Value.ref b] (cw :: TT) RLaw) (hX : va_X b Ls xs s s.heap) (hbl : b < s.heap.size) (hLs : Ls ≤ 1536) (hK : KK D E s) (hF : SF s.heap.size Z s s.heap) {u : Nat} (hu : u < 1000000) (hn : 1000 ≤ n) {i : Int} (hi : 0 ≤ i ∧ i + 2 < (Ls : Int)) (hk : LG p l e s m below meth c_ b Q D E n ad ah ai Lp am i (u + 1) 608) : LG p l e s m below meth c_ b Q D E n ad ah ai Lp am i u 266 := by
  intro c mm H locs ls hR hP hD hS hl
  have hA : ∀ q : Nat, s.heap.size ≤ q → (fun q : Nat => s.heap.size ≤ q) q := fun _ h => h
  have hAB : ∀ q : Nat, (fun q : Nat => s.heap.size ≤ q) q → s.heap.size ≤ q := fun _ h => h
  have hbA : ¬ (fun q : Nat => s.heap.size ≤ q) b := Nat.not_le.mpr hbl
  obtain ⟨r, c', mm', hR', hC, hM⟩ := s_undo (l := l) (D := D) (E := E) (B := s.heap.size) (Z := Z) hu hn (ad := ad) (ah := ah) (ai := ai) (am := am) hR 
  refine lv_aload_n X.1 X.2.1 d_law_266 rfl (lv_at hl 2 rfl) ?_
  refine m_cVWf (As := []) (rest := []) X hK hF hAB (Nat.le_refl _) hP hD hS hA hC rfl cl_X11 lk_law_40 co_X11_undo dy_X11_undo rfl rfl ⟨Nat.le_of_ble_eq_true rfl, Nat.le_of_ble_eq_true rfl⟩ hl.1 rfl (Nat.le_of_ble_eq_true rfl) d_law_267 (Nat.le_of_ble_eq_true rfl) (Nat.le_of_ble_eq_true rfl) (fun H locs hP hD hS => ?_)
  replace hP := hP.perm List.perm_append_comm
  replace hD := hD.perm List.perm_append_comm
  refine lv_aload_n X.1 X.2.1 d_law_270 rfl (lv_at hl 1 rfl) ?_
  refine m_cVWf (As := []) (rest := [.int (z4 r)]) X hK hF hAB (Nat.le_refl _) hP hD hS hA hM rfl cl_X12 lk_law_43 co_X12_undo dy_X12_undo rfl rfl ⟨Nat.le_of_ble_eq_true rfl, Nat.le_of_ble_eq_true rfl⟩ hl.1 rfl (Nat.le_of_ble_eq_true rfl) d_law_271 (Nat.le_of_ble_eq_true rfl) (Nat.le_of_ble_eq_true rfl) (fun H locs hP hD hS => ?_)
  replace hP := hP.perm List.perm_append_comm
  replace hD := hD.perm List.perm_append_comm
  refine lv_icmp_eq (tgt := 608) X.1 X.2.1 d_law_274 (by decide) (fun _ => ?_) (fun h_ => absurd rfl h_)
  exact hk c' mm' H locs ls hR' hP hD hS hl
set_option maxHeartbeats 4000000 in
theorem law_rule (X : CallFix p m c_ code 4 s #[Value.ref b] (cw :: TT) RLaw) (hX : va_X b Ls xs s s.heap) (hbl : b < s.heap.size) (hLs : Ls ≤ 1536) (hK : KK D E s) (hF : SF s.heap.size Z s s.heap) {u : Nat} (hu : u < 1000000) (hn : 1000 ≤ n) {i : Int} (hi : 0 ≤ i ∧ i + 2 < (Ls : Int)) (hk : LG p l e s m below meth c_ b Q D E n ad ah ai Lp am i (u + 1) 608) : LG p l e s m below meth c_ b Q D E n ad ah ai Lp am i u 279 := by
  intro c mm H locs ls hR hP hD hS hl
  have hA : ∀ q : Nat, s.heap.size ≤ q → (fun q : Nat => s.heap.size ≤ q) q := fun _ h => h
  have hAB : ∀ q : Nat, (fun q : Nat => s.heap.size ≤ q) q → s.heap.size ≤ q := fun _ h => h
  have hbA : ¬ (fun q : Nat => s.heap.size ≤ q) b := Nat.not_le.mpr hbl
  obtain ⟨r, c', mm', hR', hC, hM⟩ := s_rule (l := l) (D := D) (E := E) (B := s.heap.size) (Z := Z) hu hn (ad := ad) (ah := ah) (ai := ai) (am := am) hR (sv xs (i + 1)) (sv_r xs _) (sv xs (i + 2)) (sv_r xs _)
  refine lv_aload_n X.1 X.2.1 d_law_279 rfl (lv_at hl 2 rfl) ?_
  refine lv_aload_n X.1 X.2.1 d_law_280 rfl (lv_at hl 3 rfl) ?_
  refine lv_iload_n X.1 X.2.1 d_law_281 rfl (lv_at hl 0 rfl) ?_
  refine m_iconst X d_law_282 ?_
  refine m_iadd X d_law_283 ?_
  refine m_sld X hX hbl hbA hLs hS (by omega) d_law_284 ?_
  refine lv_aload_n X.1 X.2.1 d_law_285 rfl (lv_at hl 3 rfl) ?_
  refine lv_iload_n X.1 X.2.1 d_law_286 rfl (lv_at hl 0 rfl) ?_
  refine m_iconst X d_law_287 ?_
  refine m_iadd X d_law_288 ?_
  refine m_sld X hX hbl hbA hLs hS (by omega) d_law_289 ?_
  refine m_cVWf (As := [.int (z4 (sv xs (i + 1))), .int (z4 (sv xs (i + 2)))]) (rest := []) X hK hF hAB (Nat.le_refl _) hP hD hS hA hC rfl cl_X11 lk_law_44 co_X11_rule dy_X11_rule rfl rfl ⟨Nat.le_of_ble_eq_true rfl, Nat.le_of_ble_eq_true rfl⟩ hl.1 rfl (Nat.le_of_ble_eq_true rfl) d_law_290 (Nat.le_of_ble_eq_true rfl) (Nat.le_of_ble_eq_true rfl) (fun H locs hP hD hS => ?_)
  replace hP := hP.perm List.perm_append_comm
  replace hD := hD.perm List.perm_append_comm
  refine lv_aload_n X.1 X.2.1 d_law_293 rfl (lv_at hl 1 rfl) ?_
  refine lv_aload_n X.1 X.2.1 d_law_294 rfl (lv_at hl 3 rfl) ?_
  refine lv_iload_n X.1 X.2.1 d_law_295 rfl (lv_at hl 0 rfl) ?_
  refine m_iconst X d_law_296 ?_
  refine m_iadd X d_law_297 ?_
  refine m_sld X hX hbl hbA hLs hS (by omega) d_law_298 ?_
  refine lv_aload_n X.1 X.2.1 d_law_299 rfl (lv_at hl 3 rfl) ?_
  refine lv_iload_n X.1 X.2.1 d_law_300 rfl (lv_at hl 0 rfl) ?_
  refine m_iconst X d_law_301 ?_
  refine m_iadd X d_law_302 ?_
  refine m_sld X hX hbl hbA hLs hS (by omega) d_law_303 ?_
  refine m_cVWf (As := [.int (z4 (sv xs (i + 1))), .int (z4 (sv xs (i + 2)))]) (rest := [.int (z4 r)]) X hK hF hAB (Nat.le_refl _) hP hD hS hA hM rfl cl_X12 lk_law_47 co_X12_rule dy_X12_rule rfl rfl ⟨Nat.le_of_ble_eq_true rfl, Nat.le_of_ble_eq_true rfl⟩ hl.1 rfl (Nat.le_of_ble_eq_true rfl) d_law_304 (Nat.le_of_ble_eq_true rfl) (Nat.le_of_ble_eq_true rfl) (fun H locs hP hD hS => ?_)
  replace hP := hP.perm List.perm_append_comm
  replace hD := hD.perm List.perm_append_comm
  refine lv_icmp_eq (tgt := 608) X.1 X.2.1 d_law_307 (by decide) (fun _ => ?_) (fun h_ => absurd rfl h_)
  exact hk c' mm' H locs ls hR' hP hD hS hl
set_option maxHeartbeats 4000000 in
theorem law_chance (X : CallFix p m c_ code 4 s #[Value.ref b] (cw :: TT) RLaw) (hX : va_X b Ls xs s s.heap) (hbl : b < s.heap.size) (hLs : Ls ≤ 1536) (hK : KK D E s) (hF : SF s.heap.size Z s s.heap) {u : Nat} (hu : u < 1000000) (hn : 1000 ≤ n) {i : Int} (hi : 0 ≤ i ∧ i + 2 < (Ls : Int)) (hk : LG p l e s m below meth c_ b Q D E n ad ah ai Lp am i (u + 1) 608) : LG p l e s m below meth c_ b Q D E n ad ah ai Lp am i u 312 := by
  intro c mm H locs ls hR hP hD hS hl
  have hA : ∀ q : Nat, s.heap.size ≤ q → (fun q : Nat => s.heap.size ≤ q) q := fun _ h => h
  have hAB : ∀ q : Nat, (fun q : Nat => s.heap.size ≤ q) q → s.heap.size ≤ q := fun _ h => h
  have hbA : ¬ (fun q : Nat => s.heap.size ≤ q) b := Nat.not_le.mpr hbl
  obtain ⟨r, c', mm', hR', hC, hM⟩ := s_chance (l := l) (D := D) (E := E) (B := s.heap.size) (Z := Z) hu hn (ad := ad) (ah := ah) (ai := ai) (am := am) hR (sv xs (i + 1)) (sv_r xs _)
  refine lv_aload_n X.1 X.2.1 d_law_312 rfl (lv_at hl 2 rfl) ?_
  refine lv_aload_n X.1 X.2.1 d_law_313 rfl (lv_at hl 3 rfl) ?_
  refine lv_iload_n X.1 X.2.1 d_law_314 rfl (lv_at hl 0 rfl) ?_
  refine m_iconst X d_law_315 ?_
  refine m_iadd X d_law_316 ?_
  refine m_sld X hX hbl hbA hLs hS (by omega) d_law_317 ?_
  refine m_cVWf (As := [.int (z4 (sv xs (i + 1)))]) (rest := []) X hK hF hAB (Nat.le_refl _) hP hD hS hA hC rfl cl_X11 lk_law_48 co_X11_chance dy_X11_chance rfl rfl ⟨Nat.le_of_ble_eq_true rfl, Nat.le_of_ble_eq_true rfl⟩ hl.1 rfl (Nat.le_of_ble_eq_true rfl) d_law_318 (Nat.le_of_ble_eq_true rfl) (Nat.le_of_ble_eq_true rfl) (fun H locs hP hD hS => ?_)
  replace hP := hP.perm List.perm_append_comm
  replace hD := hD.perm List.perm_append_comm
  refine lv_aload_n X.1 X.2.1 d_law_321 rfl (lv_at hl 1 rfl) ?_
  refine lv_aload_n X.1 X.2.1 d_law_322 rfl (lv_at hl 3 rfl) ?_
  refine lv_iload_n X.1 X.2.1 d_law_323 rfl (lv_at hl 0 rfl) ?_
  refine m_iconst X d_law_324 ?_
  refine m_iadd X d_law_325 ?_
  refine m_sld X hX hbl hbA hLs hS (by omega) d_law_326 ?_
  refine m_cVWf (As := [.int (z4 (sv xs (i + 1)))]) (rest := [.int (z4 r)]) X hK hF hAB (Nat.le_refl _) hP hD hS hA hM rfl cl_X12 lk_law_51 co_X12_chance dy_X12_chance rfl rfl ⟨Nat.le_of_ble_eq_true rfl, Nat.le_of_ble_eq_true rfl⟩ hl.1 rfl (Nat.le_of_ble_eq_true rfl) d_law_327 (Nat.le_of_ble_eq_true rfl) (Nat.le_of_ble_eq_true rfl) (fun H locs hP hD hS => ?_)
  replace hP := hP.perm List.perm_append_comm
  replace hD := hD.perm List.perm_append_comm
  refine lv_icmp_eq (tgt := 608) X.1 X.2.1 d_law_330 (by decide) (fun _ => ?_) (fun h_ => absurd rfl h_)
  exact hk c' mm' H locs ls hR' hP hD hS hl
set_option maxHeartbeats 4000000 in
theorem law_row (X : CallFix p m c_ code 4 s #[Value.ref b] (cw :: TT) RLaw) (hX : va_X b Ls xs s s.heap) (hbl : b < s.heap.size) (hLs : Ls ≤ 1536) (hK : KK D E s) (hF : SF s.heap.size Z s s.heap) {u : Nat} (hu : u < 1000000) (hn : 1000 ≤ n) {i : Int} (hi : 0 ≤ i ∧ i + 2 < (Ls : Int)) (hk : LG p l e s m below meth c_ b Q D E n ad ah ai Lp am i (u + 1) 608) : LG p l e s m below meth c_ b Q D E n ad ah ai Lp am i u 335 := by
  intro c mm H locs ls hR hP hD hS hl
  have hA : ∀ q : Nat, s.heap.size ≤ q → (fun q : Nat => s.heap.size ≤ q) q := fun _ h => h
  have hAB : ∀ q : Nat, (fun q : Nat => s.heap.size ≤ q) q → s.heap.size ≤ q := fun _ h => h
  have hbA : ¬ (fun q : Nat => s.heap.size ≤ q) b := Nat.not_le.mpr hbl
  obtain ⟨r, c', mm', hR', hC, hM⟩ := s_row (l := l) (D := D) (E := E) (B := s.heap.size) (Z := Z) hu hn (ad := ad) (ah := ah) (ai := ai) (am := am) hR (sv xs (i + 1)) (sv_r xs _) (sv xs (i + 2)) (sv_r xs _)
  refine lv_aload_n X.1 X.2.1 d_law_335 rfl (lv_at hl 2 rfl) ?_
  refine lv_aload_n X.1 X.2.1 d_law_336 rfl (lv_at hl 3 rfl) ?_
  refine lv_iload_n X.1 X.2.1 d_law_337 rfl (lv_at hl 0 rfl) ?_
  refine m_iconst X d_law_338 ?_
  refine m_iadd X d_law_339 ?_
  refine m_sld X hX hbl hbA hLs hS (by omega) d_law_340 ?_
  refine lv_aload_n X.1 X.2.1 d_law_341 rfl (lv_at hl 3 rfl) ?_
  refine lv_iload_n X.1 X.2.1 d_law_342 rfl (lv_at hl 0 rfl) ?_
  refine m_iconst X d_law_343 ?_
  refine m_iadd X d_law_344 ?_
  refine m_sld X hX hbl hbA hLs hS (by omega) d_law_345 ?_
  refine m_cVWf (As := [.int (z4 (sv xs (i + 1))), .int (z4 (sv xs (i + 2)))]) (rest := []) X hK hF hAB (Nat.le_refl _) hP hD hS hA hC rfl cl_X11 lk_law_52 co_X11_row dy_X11_row rfl rfl ⟨Nat.le_of_ble_eq_true rfl, Nat.le_of_ble_eq_true rfl⟩ hl.1 rfl (Nat.le_of_ble_eq_true rfl) d_law_346 (Nat.le_of_ble_eq_true rfl) (Nat.le_of_ble_eq_true rfl) (fun H locs hP hD hS => ?_)
  replace hP := hP.perm List.perm_append_comm
  replace hD := hD.perm List.perm_append_comm
  refine lv_aload_n X.1 X.2.1 d_law_349 rfl (lv_at hl 1 rfl) ?_
  refine lv_aload_n X.1 X.2.1 d_law_350 rfl (lv_at hl 3 rfl) ?_
  refine lv_iload_n X.1 X.2.1 d_law_351 rfl (lv_at hl 0 rfl) ?_
  refine m_iconst X d_law_352 ?_
  refine m_iadd X d_law_353 ?_
  refine m_sld X hX hbl hbA hLs hS (by omega) d_law_354 ?_
  refine lv_aload_n X.1 X.2.1 d_law_355 rfl (lv_at hl 3 rfl) ?_
  refine lv_iload_n X.1 X.2.1 d_law_356 rfl (lv_at hl 0 rfl) ?_
  refine m_iconst X d_law_357 ?_
  refine m_iadd X d_law_358 ?_
  refine m_sld X hX hbl hbA hLs hS (by omega) d_law_359 ?_
  refine m_cVWf (As := [.int (z4 (sv xs (i + 1))), .int (z4 (sv xs (i + 2)))]) (rest := [.int (z4 r)]) X hK hF hAB (Nat.le_refl _) hP hD hS hA hM rfl cl_X12 lk_law_55 co_X12_row dy_X12_row rfl rfl ⟨Nat.le_of_ble_eq_true rfl, Nat.le_of_ble_eq_true rfl⟩ hl.1 rfl (Nat.le_of_ble_eq_true rfl) d_law_360 (Nat.le_of_ble_eq_true rfl) (Nat.le_of_ble_eq_true rfl) (fun H locs hP hD hS => ?_)
  replace hP := hP.perm List.perm_append_comm
  replace hD := hD.perm List.perm_append_comm
  refine lv_icmp_eq (tgt := 608) X.1 X.2.1 d_law_363 (by decide) (fun _ => ?_) (fun h_ => absurd rfl h_)
  exact hk c' mm' H locs ls hR' hP hD hS hl
set_option maxHeartbeats 4000000 in
theorem law_alarm (X : CallFix p m c_ code 4 s #[Value.ref b] (cw :: TT) RLaw) (hX : va_X b Ls xs s s.heap) (hbl : b < s.heap.size) (hLs : Ls ≤ 1536) (hK : KK D E s) (hF : SF s.heap.size Z s s.heap) {u : Nat} (hu : u < 1000000) (hn : 1000 ≤ n) {i : Int} (hi : 0 ≤ i ∧ i + 2 < (Ls : Int)) (hk : LG p l e s m below meth c_ b Q D E n ad ah ai Lp am i (u + 1) 608) : LG p l e s m below meth c_ b Q D E n ad ah ai Lp am i u 368 := by
  intro c mm H locs ls hR hP hD hS hl
  have hA : ∀ q : Nat, s.heap.size ≤ q → (fun q : Nat => s.heap.size ≤ q) q := fun _ h => h
  have hAB : ∀ q : Nat, (fun q : Nat => s.heap.size ≤ q) q → s.heap.size ≤ q := fun _ h => h
  have hbA : ¬ (fun q : Nat => s.heap.size ≤ q) b := Nat.not_le.mpr hbl
  obtain ⟨r, c', mm', hR', hC, hM⟩ := s_alarm (l := l) (D := D) (E := E) (B := s.heap.size) (Z := Z) hu hn (ad := ad) (ah := ah) (ai := ai) (am := am) hR (sv xs (i + 1)) (sv_r xs _)
  refine lv_aload_n X.1 X.2.1 d_law_368 rfl (lv_at hl 2 rfl) ?_
  refine lv_aload_n X.1 X.2.1 d_law_369 rfl (lv_at hl 3 rfl) ?_
  refine lv_iload_n X.1 X.2.1 d_law_370 rfl (lv_at hl 0 rfl) ?_
  refine m_iconst X d_law_371 ?_
  refine m_iadd X d_law_372 ?_
  refine m_sld X hX hbl hbA hLs hS (by omega) d_law_373 ?_
  refine m_cVWf (As := [.int (z4 (sv xs (i + 1)))]) (rest := []) X hK hF hAB (Nat.le_refl _) hP hD hS hA hC rfl cl_X11 lk_law_56 co_X11_alarm dy_X11_alarm rfl rfl ⟨Nat.le_of_ble_eq_true rfl, Nat.le_of_ble_eq_true rfl⟩ hl.1 rfl (Nat.le_of_ble_eq_true rfl) d_law_374 (Nat.le_of_ble_eq_true rfl) (Nat.le_of_ble_eq_true rfl) (fun H locs hP hD hS => ?_)
  replace hP := hP.perm List.perm_append_comm
  replace hD := hD.perm List.perm_append_comm
  refine lv_aload_n X.1 X.2.1 d_law_377 rfl (lv_at hl 1 rfl) ?_
  refine lv_aload_n X.1 X.2.1 d_law_378 rfl (lv_at hl 3 rfl) ?_
  refine lv_iload_n X.1 X.2.1 d_law_379 rfl (lv_at hl 0 rfl) ?_
  refine m_iconst X d_law_380 ?_
  refine m_iadd X d_law_381 ?_
  refine m_sld X hX hbl hbA hLs hS (by omega) d_law_382 ?_
  refine m_cVWf (As := [.int (z4 (sv xs (i + 1)))]) (rest := [.int (z4 r)]) X hK hF hAB (Nat.le_refl _) hP hD hS hA hM rfl cl_X12 lk_law_59 co_X12_alarm dy_X12_alarm rfl rfl ⟨Nat.le_of_ble_eq_true rfl, Nat.le_of_ble_eq_true rfl⟩ hl.1 rfl (Nat.le_of_ble_eq_true rfl) d_law_383 (Nat.le_of_ble_eq_true rfl) (Nat.le_of_ble_eq_true rfl) (fun H locs hP hD hS => ?_)
  replace hP := hP.perm List.perm_append_comm
  replace hD := hD.perm List.perm_append_comm
  refine lv_icmp_eq (tgt := 608) X.1 X.2.1 d_law_386 (by decide) (fun _ => ?_) (fun h_ => absurd rfl h_)
  exact hk c' mm' H locs ls hR' hP hD hS hl
set_option maxHeartbeats 4000000 in
theorem law_signal (X : CallFix p m c_ code 4 s #[Value.ref b] (cw :: TT) RLaw) (hX : va_X b Ls xs s s.heap) (hbl : b < s.heap.size) (hLs : Ls ≤ 1536) (hK : KK D E s) (hF : SF s.heap.size Z s s.heap) {u : Nat} (hu : u < 1000000) (hn : 1000 ≤ n) {i : Int} (hi : 0 ≤ i ∧ i + 2 < (Ls : Int)) (hk : LG p l e s m below meth c_ b Q D E n ad ah ai Lp am i (u + 1) 608) : LG p l e s m below meth c_ b Q D E n ad ah ai Lp am i u 391 := by
  intro c mm H locs ls hR hP hD hS hl
  have hA : ∀ q : Nat, s.heap.size ≤ q → (fun q : Nat => s.heap.size ≤ q) q := fun _ h => h
  have hAB : ∀ q : Nat, (fun q : Nat => s.heap.size ≤ q) q → s.heap.size ≤ q := fun _ h => h
  have hbA : ¬ (fun q : Nat => s.heap.size ≤ q) b := Nat.not_le.mpr hbl
  obtain ⟨r, c', mm', hR', hC, hM⟩ := s_signal (l := l) (D := D) (E := E) (B := s.heap.size) (Z := Z) hu hn (ad := ad) (ah := ah) (ai := ai) (am := am) hR (sv xs (i + 1)) (sv_r xs _)
  refine lv_aload_n X.1 X.2.1 d_law_391 rfl (lv_at hl 2 rfl) ?_
  refine lv_aload_n X.1 X.2.1 d_law_392 rfl (lv_at hl 3 rfl) ?_
  refine lv_iload_n X.1 X.2.1 d_law_393 rfl (lv_at hl 0 rfl) ?_
  refine m_iconst X d_law_394 ?_
  refine m_iadd X d_law_395 ?_
  refine m_sld X hX hbl hbA hLs hS (by omega) d_law_396 ?_
  refine m_cVWf (As := [.int (z4 (sv xs (i + 1)))]) (rest := []) X hK hF hAB (Nat.le_refl _) hP hD hS hA hC rfl cl_X11 lk_law_60 co_X11_signal dy_X11_signal rfl rfl ⟨Nat.le_of_ble_eq_true rfl, Nat.le_of_ble_eq_true rfl⟩ hl.1 rfl (Nat.le_of_ble_eq_true rfl) d_law_397 (Nat.le_of_ble_eq_true rfl) (Nat.le_of_ble_eq_true rfl) (fun H locs hP hD hS => ?_)
  replace hP := hP.perm List.perm_append_comm
  replace hD := hD.perm List.perm_append_comm
  refine lv_aload_n X.1 X.2.1 d_law_400 rfl (lv_at hl 1 rfl) ?_
  refine lv_aload_n X.1 X.2.1 d_law_401 rfl (lv_at hl 3 rfl) ?_
  refine lv_iload_n X.1 X.2.1 d_law_402 rfl (lv_at hl 0 rfl) ?_
  refine m_iconst X d_law_403 ?_
  refine m_iadd X d_law_404 ?_
  refine m_sld X hX hbl hbA hLs hS (by omega) d_law_405 ?_
  refine m_cVWf (As := [.int (z4 (sv xs (i + 1)))]) (rest := [.int (z4 r)]) X hK hF hAB (Nat.le_refl _) hP hD hS hA hM rfl cl_X12 lk_law_63 co_X12_signal dy_X12_signal rfl rfl ⟨Nat.le_of_ble_eq_true rfl, Nat.le_of_ble_eq_true rfl⟩ hl.1 rfl (Nat.le_of_ble_eq_true rfl) d_law_406 (Nat.le_of_ble_eq_true rfl) (Nat.le_of_ble_eq_true rfl) (fun H locs hP hD hS => ?_)
  replace hP := hP.perm List.perm_append_comm
  replace hD := hD.perm List.perm_append_comm
  refine lv_icmp_eq (tgt := 608) X.1 X.2.1 d_law_409 (by decide) (fun _ => ?_) (fun h_ => absurd rfl h_)
  exact hk c' mm' H locs ls hR' hP hD hS hl
set_option maxHeartbeats 4000000 in
theorem law_step (X : CallFix p m c_ code 4 s #[Value.ref b] (cw :: TT) RLaw) (hX : va_X b Ls xs s s.heap) (hbl : b < s.heap.size) (hLs : Ls ≤ 1536) (hK : KK D E s) (hF : SF s.heap.size Z s s.heap) {u : Nat} (hu : u < 1000000) (hn : 1000 ≤ n) {i : Int} (hi : 0 ≤ i ∧ i + 2 < (Ls : Int)) (hk : LG p l e s m below meth c_ b Q D E n ad ah ai Lp am i (u + 1) 608) : LG p l e s m below meth c_ b Q D E n ad ah ai Lp am i u 414 := by
  intro c mm H locs ls hR hP hD hS hl
  have hA : ∀ q : Nat, s.heap.size ≤ q → (fun q : Nat => s.heap.size ≤ q) q := fun _ h => h
  have hAB : ∀ q : Nat, (fun q : Nat => s.heap.size ≤ q) q → s.heap.size ≤ q := fun _ h => h
  have hbA : ¬ (fun q : Nat => s.heap.size ≤ q) b := Nat.not_le.mpr hbl
  obtain ⟨r, c', mm', hR', hC, hM⟩ := s_step (l := l) (D := D) (E := E) (B := s.heap.size) (Z := Z) hu hn (ad := ad) (ah := ah) (ai := ai) (am := am) hR (sv xs (i + 1)) (sv_r xs _) (sv xs (i + 2)) (sv_r xs _)
  refine lv_aload_n X.1 X.2.1 d_law_414 rfl (lv_at hl 2 rfl) ?_
  refine lv_aload_n X.1 X.2.1 d_law_415 rfl (lv_at hl 3 rfl) ?_
  refine lv_iload_n X.1 X.2.1 d_law_416 rfl (lv_at hl 0 rfl) ?_
  refine m_iconst X d_law_417 ?_
  refine m_iadd X d_law_418 ?_
  refine m_sld X hX hbl hbA hLs hS (by omega) d_law_419 ?_
  refine lv_aload_n X.1 X.2.1 d_law_420 rfl (lv_at hl 3 rfl) ?_
  refine lv_iload_n X.1 X.2.1 d_law_421 rfl (lv_at hl 0 rfl) ?_
  refine m_iconst X d_law_422 ?_
  refine m_iadd X d_law_423 ?_
  refine m_sld X hX hbl hbA hLs hS (by omega) d_law_424 ?_
  refine m_cVWf (As := [.int (z4 (sv xs (i + 1))), .int (z4 (sv xs (i + 2)))]) (rest := []) X hK hF hAB (Nat.le_refl _) hP hD hS hA hC rfl cl_X11 lk_law_64 co_X11_step dy_X11_step rfl rfl ⟨Nat.le_of_ble_eq_true rfl, Nat.le_of_ble_eq_true rfl⟩ hl.1 rfl (Nat.le_of_ble_eq_true rfl) d_law_425 (Nat.le_of_ble_eq_true rfl) (Nat.le_of_ble_eq_true rfl) (fun H locs hP hD hS => ?_)
  replace hP := hP.perm List.perm_append_comm
  replace hD := hD.perm List.perm_append_comm
  refine lv_aload_n X.1 X.2.1 d_law_428 rfl (lv_at hl 1 rfl) ?_
  refine lv_aload_n X.1 X.2.1 d_law_429 rfl (lv_at hl 3 rfl) ?_
  refine lv_iload_n X.1 X.2.1 d_law_430 rfl (lv_at hl 0 rfl) ?_
  refine m_iconst X d_law_431 ?_
  refine m_iadd X d_law_432 ?_
  refine m_sld X hX hbl hbA hLs hS (by omega) d_law_433 ?_
  refine lv_aload_n X.1 X.2.1 d_law_434 rfl (lv_at hl 3 rfl) ?_
  refine lv_iload_n X.1 X.2.1 d_law_435 rfl (lv_at hl 0 rfl) ?_
  refine m_iconst X d_law_436 ?_
  refine m_iadd X d_law_437 ?_
  refine m_sld X hX hbl hbA hLs hS (by omega) d_law_438 ?_
  refine m_cVWf (As := [.int (z4 (sv xs (i + 1))), .int (z4 (sv xs (i + 2)))]) (rest := [.int (z4 r)]) X hK hF hAB (Nat.le_refl _) hP hD hS hA hM rfl cl_X12 lk_law_67 co_X12_step dy_X12_step rfl rfl ⟨Nat.le_of_ble_eq_true rfl, Nat.le_of_ble_eq_true rfl⟩ hl.1 rfl (Nat.le_of_ble_eq_true rfl) d_law_439 (Nat.le_of_ble_eq_true rfl) (Nat.le_of_ble_eq_true rfl) (fun H locs hP hD hS => ?_)
  replace hP := hP.perm List.perm_append_comm
  replace hD := hD.perm List.perm_append_comm
  refine lv_icmp_eq (tgt := 608) X.1 X.2.1 d_law_442 (by decide) (fun _ => ?_) (fun h_ => absurd rfl h_)
  exact hk c' mm' H locs ls hR' hP hD hS hl
set_option maxHeartbeats 4000000 in
theorem law_soonest (X : CallFix p m c_ code 4 s #[Value.ref b] (cw :: TT) RLaw) (hX : va_X b Ls xs s s.heap) (hbl : b < s.heap.size) (hLs : Ls ≤ 1536) (hK : KK D E s) (hF : SF s.heap.size Z s s.heap) {u : Nat} (hu : u < 1000000) (hn : 1000 ≤ n) {i : Int} (hi : 0 ≤ i ∧ i + 2 < (Ls : Int)) (hk : LG p l e s m below meth c_ b Q D E n ad ah ai Lp am i (u + 1) 608) : LG p l e s m below meth c_ b Q D E n ad ah ai Lp am i u 447 := by
  intro c mm H locs ls hR hP hD hS hl
  have hA : ∀ q : Nat, s.heap.size ≤ q → (fun q : Nat => s.heap.size ≤ q) q := fun _ h => h
  have hAB : ∀ q : Nat, (fun q : Nat => s.heap.size ≤ q) q → s.heap.size ≤ q := fun _ h => h
  have hbA : ¬ (fun q : Nat => s.heap.size ≤ q) b := Nat.not_le.mpr hbl
  obtain ⟨r, c', mm', hR', hC, hM⟩ := s_soonest (l := l) (D := D) (E := E) (B := s.heap.size) (Z := Z) hu hn (ad := ad) (ah := ah) (ai := ai) (am := am) hR (sv xs (i + 1)) (sv_r xs _)
  refine lv_aload_n X.1 X.2.1 d_law_447 rfl (lv_at hl 2 rfl) ?_
  refine lv_aload_n X.1 X.2.1 d_law_448 rfl (lv_at hl 3 rfl) ?_
  refine lv_iload_n X.1 X.2.1 d_law_449 rfl (lv_at hl 0 rfl) ?_
  refine m_iconst X d_law_450 ?_
  refine m_iadd X d_law_451 ?_
  refine m_sld X hX hbl hbA hLs hS (by omega) d_law_452 ?_
  refine m_cVWf (As := [.int (z4 (sv xs (i + 1)))]) (rest := []) X hK hF hAB (Nat.le_refl _) hP hD hS hA hC rfl cl_X11 lk_law_68 co_X11_soonest dy_X11_soonest rfl rfl ⟨Nat.le_of_ble_eq_true rfl, Nat.le_of_ble_eq_true rfl⟩ hl.1 rfl (Nat.le_of_ble_eq_true rfl) d_law_453 (Nat.le_of_ble_eq_true rfl) (Nat.le_of_ble_eq_true rfl) (fun H locs hP hD hS => ?_)
  replace hP := hP.perm List.perm_append_comm
  replace hD := hD.perm List.perm_append_comm
  refine lv_aload_n X.1 X.2.1 d_law_456 rfl (lv_at hl 1 rfl) ?_
  refine lv_aload_n X.1 X.2.1 d_law_457 rfl (lv_at hl 3 rfl) ?_
  refine lv_iload_n X.1 X.2.1 d_law_458 rfl (lv_at hl 0 rfl) ?_
  refine m_iconst X d_law_459 ?_
  refine m_iadd X d_law_460 ?_
  refine m_sld X hX hbl hbA hLs hS (by omega) d_law_461 ?_
  refine m_cVWf (As := [.int (z4 (sv xs (i + 1)))]) (rest := [.int (z4 r)]) X hK hF hAB (Nat.le_refl _) hP hD hS hA hM rfl cl_X12 lk_law_71 co_X12_soonest dy_X12_soonest rfl rfl ⟨Nat.le_of_ble_eq_true rfl, Nat.le_of_ble_eq_true rfl⟩ hl.1 rfl (Nat.le_of_ble_eq_true rfl) d_law_462 (Nat.le_of_ble_eq_true rfl) (Nat.le_of_ble_eq_true rfl) (fun H locs hP hD hS => ?_)
  replace hP := hP.perm List.perm_append_comm
  replace hD := hD.perm List.perm_append_comm
  refine lv_icmp_eq (tgt := 608) X.1 X.2.1 d_law_465 (by decide) (fun _ => ?_) (fun h_ => absurd rfl h_)
  exact hk c' mm' H locs ls hR' hP hD hS hl
set_option maxHeartbeats 4000000 in
theorem law_odds (X : CallFix p m c_ code 4 s #[Value.ref b] (cw :: TT) RLaw) (hX : va_X b Ls xs s s.heap) (hbl : b < s.heap.size) (hLs : Ls ≤ 1536) (hK : KK D E s) (hF : SF s.heap.size Z s s.heap) {u : Nat} (hu : u < 1000000) (hn : 1000 ≤ n) {i : Int} (hi : 0 ≤ i ∧ i + 2 < (Ls : Int)) (hk : LG p l e s m below meth c_ b Q D E n ad ah ai Lp am i (u + 1) 608) : LG p l e s m below meth c_ b Q D E n ad ah ai Lp am i u 470 := by
  intro c mm H locs ls hR hP hD hS hl
  have hA : ∀ q : Nat, s.heap.size ≤ q → (fun q : Nat => s.heap.size ≤ q) q := fun _ h => h
  have hAB : ∀ q : Nat, (fun q : Nat => s.heap.size ≤ q) q → s.heap.size ≤ q := fun _ h => h
  have hbA : ¬ (fun q : Nat => s.heap.size ≤ q) b := Nat.not_le.mpr hbl
  obtain ⟨r, c', mm', hR', hC, hM⟩ := s_odds (l := l) (D := D) (E := E) (B := s.heap.size) (Z := Z) hu hn (ad := ad) (ah := ah) (ai := ai) (am := am) hR (sv xs (i + 1)) (sv_r xs _) (sv xs (i + 2)) (sv_r xs _)
  refine lv_aload_n X.1 X.2.1 d_law_470 rfl (lv_at hl 2 rfl) ?_
  refine lv_aload_n X.1 X.2.1 d_law_471 rfl (lv_at hl 3 rfl) ?_
  refine lv_iload_n X.1 X.2.1 d_law_472 rfl (lv_at hl 0 rfl) ?_
  refine m_iconst X d_law_473 ?_
  refine m_iadd X d_law_474 ?_
  refine m_sld X hX hbl hbA hLs hS (by omega) d_law_475 ?_
  refine lv_aload_n X.1 X.2.1 d_law_476 rfl (lv_at hl 3 rfl) ?_
  refine lv_iload_n X.1 X.2.1 d_law_477 rfl (lv_at hl 0 rfl) ?_
  refine m_iconst X d_law_478 ?_
  refine m_iadd X d_law_479 ?_
  refine m_sld X hX hbl hbA hLs hS (by omega) d_law_480 ?_
  refine m_cVWf (As := [.int (z4 (sv xs (i + 1))), .int (z4 (sv xs (i + 2)))]) (rest := []) X hK hF hAB (Nat.le_refl _) hP hD hS hA hC rfl cl_X11 lk_law_72 co_X11_odds dy_X11_odds rfl rfl ⟨Nat.le_of_ble_eq_true rfl, Nat.le_of_ble_eq_true rfl⟩ hl.1 rfl (Nat.le_of_ble_eq_true rfl) d_law_481 (Nat.le_of_ble_eq_true rfl) (Nat.le_of_ble_eq_true rfl) (fun H locs hP hD hS => ?_)
  replace hP := hP.perm List.perm_append_comm
  replace hD := hD.perm List.perm_append_comm
  refine lv_aload_n X.1 X.2.1 d_law_484 rfl (lv_at hl 1 rfl) ?_
  refine lv_aload_n X.1 X.2.1 d_law_485 rfl (lv_at hl 3 rfl) ?_
  refine lv_iload_n X.1 X.2.1 d_law_486 rfl (lv_at hl 0 rfl) ?_
  refine m_iconst X d_law_487 ?_
  refine m_iadd X d_law_488 ?_
  refine m_sld X hX hbl hbA hLs hS (by omega) d_law_489 ?_
  refine lv_aload_n X.1 X.2.1 d_law_490 rfl (lv_at hl 3 rfl) ?_
  refine lv_iload_n X.1 X.2.1 d_law_491 rfl (lv_at hl 0 rfl) ?_
  refine m_iconst X d_law_492 ?_
  refine m_iadd X d_law_493 ?_
  refine m_sld X hX hbl hbA hLs hS (by omega) d_law_494 ?_
  refine m_cVWf (As := [.int (z4 (sv xs (i + 1))), .int (z4 (sv xs (i + 2)))]) (rest := [.int (z4 r)]) X hK hF hAB (Nat.le_refl _) hP hD hS hA hM rfl cl_X12 lk_law_75 co_X12_odds dy_X12_odds rfl rfl ⟨Nat.le_of_ble_eq_true rfl, Nat.le_of_ble_eq_true rfl⟩ hl.1 rfl (Nat.le_of_ble_eq_true rfl) d_law_495 (Nat.le_of_ble_eq_true rfl) (Nat.le_of_ble_eq_true rfl) (fun H locs hP hD hS => ?_)
  replace hP := hP.perm List.perm_append_comm
  replace hD := hD.perm List.perm_append_comm
  refine lv_icmp_eq (tgt := 608) X.1 X.2.1 d_law_498 (by decide) (fun _ => ?_) (fun h_ => absurd rfl h_)
  exact hk c' mm' H locs ls hR' hP hD hS hl
set_option maxHeartbeats 4000000 in
theorem law_mean (X : CallFix p m c_ code 4 s #[Value.ref b] (cw :: TT) RLaw) (hX : va_X b Ls xs s s.heap) (hbl : b < s.heap.size) (hLs : Ls ≤ 1536) (hK : KK D E s) (hF : SF s.heap.size Z s s.heap) {u : Nat} (hu : u < 1000000) (hn : 1000 ≤ n) {i : Int} (hi : 0 ≤ i ∧ i + 2 < (Ls : Int)) (hk : LG p l e s m below meth c_ b Q D E n ad ah ai Lp am i (u + 1) 608) : LG p l e s m below meth c_ b Q D E n ad ah ai Lp am i u 503 := by
  intro c mm H locs ls hR hP hD hS hl
  have hA : ∀ q : Nat, s.heap.size ≤ q → (fun q : Nat => s.heap.size ≤ q) q := fun _ h => h
  have hAB : ∀ q : Nat, (fun q : Nat => s.heap.size ≤ q) q → s.heap.size ≤ q := fun _ h => h
  have hbA : ¬ (fun q : Nat => s.heap.size ≤ q) b := Nat.not_le.mpr hbl
  obtain ⟨r, c', mm', hR', hC, hM⟩ := s_mean (l := l) (D := D) (E := E) (B := s.heap.size) (Z := Z) hu hn (ad := ad) (ah := ah) (ai := ai) (am := am) hR 
  refine lv_aload_n X.1 X.2.1 d_law_503 rfl (lv_at hl 2 rfl) ?_
  refine m_cVWf (As := []) (rest := []) X hK hF hAB (Nat.le_refl _) hP hD hS hA hC rfl cl_X11 lk_law_76 co_X11_mean dy_X11_mean rfl rfl ⟨Nat.le_of_ble_eq_true rfl, Nat.le_of_ble_eq_true rfl⟩ hl.1 rfl (Nat.le_of_ble_eq_true rfl) d_law_504 (Nat.le_of_ble_eq_true rfl) (Nat.le_of_ble_eq_true rfl) (fun H locs hP hD hS => ?_)
  replace hP := hP.perm List.perm_append_comm
  replace hD := hD.perm List.perm_append_comm
  refine lv_aload_n X.1 X.2.1 d_law_507 rfl (lv_at hl 1 rfl) ?_
  refine m_cVWf (As := []) (rest := [.int (z4 r)]) X hK hF hAB (Nat.le_refl _) hP hD hS hA hM rfl cl_X12 lk_law_79 co_X12_mean dy_X12_mean rfl rfl ⟨Nat.le_of_ble_eq_true rfl, Nat.le_of_ble_eq_true rfl⟩ hl.1 rfl (Nat.le_of_ble_eq_true rfl) d_law_508 (Nat.le_of_ble_eq_true rfl) (Nat.le_of_ble_eq_true rfl) (fun H locs hP hD hS => ?_)
  replace hP := hP.perm List.perm_append_comm
  replace hD := hD.perm List.perm_append_comm
  refine lv_icmp_eq (tgt := 608) X.1 X.2.1 d_law_511 (by decide) (fun _ => ?_) (fun h_ => absurd rfl h_)
  exact hk c' mm' H locs ls hR' hP hD hS hl
set_option maxHeartbeats 4000000 in
theorem law_same (X : CallFix p m c_ code 4 s #[Value.ref b] (cw :: TT) RLaw) (hX : va_X b Ls xs s s.heap) (hbl : b < s.heap.size) (hLs : Ls ≤ 1536) (hK : KK D E s) (hF : SF s.heap.size Z s s.heap) {u : Nat} (hu : u < 1000000) (hn : 1000 ≤ n) {i : Int} (hi : 0 ≤ i ∧ i + 2 < (Ls : Int)) (hk : LG p l e s m below meth c_ b Q D E n ad ah ai Lp am i (u + 1) 608) : LG p l e s m below meth c_ b Q D E n ad ah ai Lp am i u 516 := by
  intro c mm H locs ls hR hP hD hS hl
  have hA : ∀ q : Nat, s.heap.size ≤ q → (fun q : Nat => s.heap.size ≤ q) q := fun _ h => h
  have hAB : ∀ q : Nat, (fun q : Nat => s.heap.size ≤ q) q → s.heap.size ≤ q := fun _ h => h
  have hbA : ¬ (fun q : Nat => s.heap.size ≤ q) b := Nat.not_le.mpr hbl
  obtain ⟨r, c', mm', hR', hC, hM⟩ := s_same (l := l) (D := D) (E := E) (B := s.heap.size) (Z := Z) hu hn (ad := ad) (ah := ah) (ai := ai) (am := am) hR (sv xs (i + 1)) (sv_r xs _)
  refine lv_aload_n X.1 X.2.1 d_law_516 rfl (lv_at hl 2 rfl) ?_
  refine lv_aload_n X.1 X.2.1 d_law_517 rfl (lv_at hl 3 rfl) ?_
  refine lv_iload_n X.1 X.2.1 d_law_518 rfl (lv_at hl 0 rfl) ?_
  refine m_iconst X d_law_519 ?_
  refine m_iadd X d_law_520 ?_
  refine m_sld X hX hbl hbA hLs hS (by omega) d_law_521 ?_
  refine m_cVWf (As := [.int (z4 (sv xs (i + 1)))]) (rest := []) X hK hF hAB (Nat.le_refl _) hP hD hS hA hC rfl cl_X11 lk_law_80 co_X11_same dy_X11_same rfl rfl ⟨Nat.le_of_ble_eq_true rfl, Nat.le_of_ble_eq_true rfl⟩ hl.1 rfl (Nat.le_of_ble_eq_true rfl) d_law_522 (Nat.le_of_ble_eq_true rfl) (Nat.le_of_ble_eq_true rfl) (fun H locs hP hD hS => ?_)
  replace hP := hP.perm List.perm_append_comm
  replace hD := hD.perm List.perm_append_comm
  refine lv_aload_n X.1 X.2.1 d_law_525 rfl (lv_at hl 1 rfl) ?_
  refine lv_aload_n X.1 X.2.1 d_law_526 rfl (lv_at hl 3 rfl) ?_
  refine lv_iload_n X.1 X.2.1 d_law_527 rfl (lv_at hl 0 rfl) ?_
  refine m_iconst X d_law_528 ?_
  refine m_iadd X d_law_529 ?_
  refine m_sld X hX hbl hbA hLs hS (by omega) d_law_530 ?_
  refine m_cVWf (As := [.int (z4 (sv xs (i + 1)))]) (rest := [.int (z4 r)]) X hK hF hAB (Nat.le_refl _) hP hD hS hA hM rfl cl_X12 lk_law_83 co_X12_same dy_X12_same rfl rfl ⟨Nat.le_of_ble_eq_true rfl, Nat.le_of_ble_eq_true rfl⟩ hl.1 rfl (Nat.le_of_ble_eq_true rfl) d_law_531 (Nat.le_of_ble_eq_true rfl) (Nat.le_of_ble_eq_true rfl) (fun H locs hP hD hS => ?_)
  replace hP := hP.perm List.perm_append_comm
  replace hD := hD.perm List.perm_append_comm
  refine lv_icmp_eq (tgt := 608) X.1 X.2.1 d_law_534 (by decide) (fun _ => ?_) (fun h_ => absurd rfl h_)
  exact hk c' mm' H locs ls hR' hP hD hS hl
set_option maxHeartbeats 4000000 in
theorem law_keep (X : CallFix p m c_ code 4 s #[Value.ref b] (cw :: TT) RLaw) (hX : va_X b Ls xs s s.heap) (hbl : b < s.heap.size) (hLs : Ls ≤ 1536) (hK : KK D E s) (hF : SF s.heap.size Z s s.heap) {u : Nat} (hu : u < 1000000) (hn : 1000 ≤ n) {i : Int} (hi : 0 ≤ i ∧ i + 2 < (Ls : Int)) (hk : LG p l e s m below meth c_ b Q D E n ad ah ai Lp am i (u + 1) 608) : LG p l e s m below meth c_ b Q D E n ad ah ai Lp am i u 539 := by
  intro c mm H locs ls hR hP hD hS hl
  have hA : ∀ q : Nat, s.heap.size ≤ q → (fun q : Nat => s.heap.size ≤ q) q := fun _ h => h
  have hAB : ∀ q : Nat, (fun q : Nat => s.heap.size ≤ q) q → s.heap.size ≤ q := fun _ h => h
  have hbA : ¬ (fun q : Nat => s.heap.size ≤ q) b := Nat.not_le.mpr hbl
  obtain ⟨r, c', mm', hR', hC, hM⟩ := s_keep (l := l) (D := D) (E := E) (B := s.heap.size) (Z := Z) hu hn (ad := ad) (ah := ah) (ai := ai) (am := am) hR (sv xs (i + 1)) (sv_r xs _)
  refine lv_aload_n X.1 X.2.1 d_law_539 rfl (lv_at hl 2 rfl) ?_
  refine lv_aload_n X.1 X.2.1 d_law_540 rfl (lv_at hl 3 rfl) ?_
  refine lv_iload_n X.1 X.2.1 d_law_541 rfl (lv_at hl 0 rfl) ?_
  refine m_iconst X d_law_542 ?_
  refine m_iadd X d_law_543 ?_
  refine m_sld X hX hbl hbA hLs hS (by omega) d_law_544 ?_
  refine m_cVWf (As := [.int (z4 (sv xs (i + 1)))]) (rest := []) X hK hF hAB (Nat.le_refl _) hP hD hS hA hC rfl cl_X11 lk_law_84 co_X11_keep dy_X11_keep rfl rfl ⟨Nat.le_of_ble_eq_true rfl, Nat.le_of_ble_eq_true rfl⟩ hl.1 rfl (Nat.le_of_ble_eq_true rfl) d_law_545 (Nat.le_of_ble_eq_true rfl) (Nat.le_of_ble_eq_true rfl) (fun H locs hP hD hS => ?_)
  replace hP := hP.perm List.perm_append_comm
  replace hD := hD.perm List.perm_append_comm
  refine lv_aload_n X.1 X.2.1 d_law_548 rfl (lv_at hl 1 rfl) ?_
  refine lv_aload_n X.1 X.2.1 d_law_549 rfl (lv_at hl 3 rfl) ?_
  refine lv_iload_n X.1 X.2.1 d_law_550 rfl (lv_at hl 0 rfl) ?_
  refine m_iconst X d_law_551 ?_
  refine m_iadd X d_law_552 ?_
  refine m_sld X hX hbl hbA hLs hS (by omega) d_law_553 ?_
  refine m_cVWf (As := [.int (z4 (sv xs (i + 1)))]) (rest := [.int (z4 r)]) X hK hF hAB (Nat.le_refl _) hP hD hS hA hM rfl cl_X12 lk_law_87 co_X12_keep dy_X12_keep rfl rfl ⟨Nat.le_of_ble_eq_true rfl, Nat.le_of_ble_eq_true rfl⟩ hl.1 rfl (Nat.le_of_ble_eq_true rfl) d_law_554 (Nat.le_of_ble_eq_true rfl) (Nat.le_of_ble_eq_true rfl) (fun H locs hP hD hS => ?_)
  replace hP := hP.perm List.perm_append_comm
  replace hD := hD.perm List.perm_append_comm
  refine lv_icmp_eq (tgt := 608) X.1 X.2.1 d_law_557 (by decide) (fun _ => ?_) (fun h_ => absurd rfl h_)
  exact hk c' mm' H locs ls hR' hP hD hS hl
set_option maxHeartbeats 4000000 in
theorem law_back (X : CallFix p m c_ code 4 s #[Value.ref b] (cw :: TT) RLaw) (hX : va_X b Ls xs s s.heap) (hbl : b < s.heap.size) (hLs : Ls ≤ 1536) (hK : KK D E s) (hF : SF s.heap.size Z s s.heap) {u : Nat} (hu : u < 1000000) (hn : 1000 ≤ n) {i : Int} (hi : 0 ≤ i ∧ i + 2 < (Ls : Int)) (hk : LG p l e s m below meth c_ b Q D E n ad ah ai Lp am i (u + 1) 608) : LG p l e s m below meth c_ b Q D E n ad ah ai Lp am i u 562 := by
  intro c mm H locs ls hR hP hD hS hl
  have hA : ∀ q : Nat, s.heap.size ≤ q → (fun q : Nat => s.heap.size ≤ q) q := fun _ h => h
  have hAB : ∀ q : Nat, (fun q : Nat => s.heap.size ≤ q) q → s.heap.size ≤ q := fun _ h => h
  have hbA : ¬ (fun q : Nat => s.heap.size ≤ q) b := Nat.not_le.mpr hbl
  obtain ⟨r, c', mm', hR', hC, hM⟩ := s_back (l := l) (D := D) (E := E) (B := s.heap.size) (Z := Z) hu hn (ad := ad) (ah := ah) (ai := ai) (am := am) hR (sv xs (i + 1)) (sv_r xs _)
  refine lv_aload_n X.1 X.2.1 d_law_562 rfl (lv_at hl 2 rfl) ?_
  refine lv_aload_n X.1 X.2.1 d_law_563 rfl (lv_at hl 3 rfl) ?_
  refine lv_iload_n X.1 X.2.1 d_law_564 rfl (lv_at hl 0 rfl) ?_
  refine m_iconst X d_law_565 ?_
  refine m_iadd X d_law_566 ?_
  refine m_sld X hX hbl hbA hLs hS (by omega) d_law_567 ?_
  refine m_cVWf (As := [.int (z4 (sv xs (i + 1)))]) (rest := []) X hK hF hAB (Nat.le_refl _) hP hD hS hA hC rfl cl_X11 lk_law_88 co_X11_back dy_X11_back rfl rfl ⟨Nat.le_of_ble_eq_true rfl, Nat.le_of_ble_eq_true rfl⟩ hl.1 rfl (Nat.le_of_ble_eq_true rfl) d_law_568 (Nat.le_of_ble_eq_true rfl) (Nat.le_of_ble_eq_true rfl) (fun H locs hP hD hS => ?_)
  replace hP := hP.perm List.perm_append_comm
  replace hD := hD.perm List.perm_append_comm
  refine lv_aload_n X.1 X.2.1 d_law_571 rfl (lv_at hl 1 rfl) ?_
  refine lv_aload_n X.1 X.2.1 d_law_572 rfl (lv_at hl 3 rfl) ?_
  refine lv_iload_n X.1 X.2.1 d_law_573 rfl (lv_at hl 0 rfl) ?_
  refine m_iconst X d_law_574 ?_
  refine m_iadd X d_law_575 ?_
  refine m_sld X hX hbl hbA hLs hS (by omega) d_law_576 ?_
  refine m_cVWf (As := [.int (z4 (sv xs (i + 1)))]) (rest := [.int (z4 r)]) X hK hF hAB (Nat.le_refl _) hP hD hS hA hM rfl cl_X12 lk_law_91 co_X12_back dy_X12_back rfl rfl ⟨Nat.le_of_ble_eq_true rfl, Nat.le_of_ble_eq_true rfl⟩ hl.1 rfl (Nat.le_of_ble_eq_true rfl) d_law_577 (Nat.le_of_ble_eq_true rfl) (Nat.le_of_ble_eq_true rfl) (fun H locs hP hD hS => ?_)
  replace hP := hP.perm List.perm_append_comm
  replace hD := hD.perm List.perm_append_comm
  refine lv_icmp_eq (tgt := 608) X.1 X.2.1 d_law_580 (by decide) (fun _ => ?_) (fun h_ => absurd rfl h_)
  exact hk c' mm' H locs ls hR' hP hD hS hl
set_option maxHeartbeats 4000000 in
theorem law_count (X : CallFix p m c_ code 4 s #[Value.ref b] (cw :: TT) RLaw) (hX : va_X b Ls xs s s.heap) (hbl : b < s.heap.size) (hLs : Ls ≤ 1536) (hK : KK D E s) (hF : SF s.heap.size Z s s.heap) {u : Nat} (hu : u < 1000000) (hn : 1000 ≤ n) {i : Int} (hi : 0 ≤ i ∧ i + 2 < (Ls : Int)) (hk : LG p l e s m below meth c_ b Q D E n ad ah ai Lp am i (u + 1) 608) : LG p l e s m below meth c_ b Q D E n ad ah ai Lp am i u 585 := by
  intro c mm H locs ls hR hP hD hS hl
  have hA : ∀ q : Nat, s.heap.size ≤ q → (fun q : Nat => s.heap.size ≤ q) q := fun _ h => h
  have hAB : ∀ q : Nat, (fun q : Nat => s.heap.size ≤ q) q → s.heap.size ≤ q := fun _ h => h
  have hbA : ¬ (fun q : Nat => s.heap.size ≤ q) b := Nat.not_le.mpr hbl
  obtain ⟨r, c', mm', hR', hC, hM⟩ := s_count (l := l) (D := D) (E := E) (B := s.heap.size) (Z := Z) hu hn (ad := ad) (ah := ah) (ai := ai) (am := am) hR (sv xs (i + 1)) (sv_r xs _)
  refine lv_aload_n X.1 X.2.1 d_law_585 rfl (lv_at hl 2 rfl) ?_
  refine lv_aload_n X.1 X.2.1 d_law_586 rfl (lv_at hl 3 rfl) ?_
  refine lv_iload_n X.1 X.2.1 d_law_587 rfl (lv_at hl 0 rfl) ?_
  refine m_iconst X d_law_588 ?_
  refine m_iadd X d_law_589 ?_
  refine m_sld X hX hbl hbA hLs hS (by omega) d_law_590 ?_
  refine m_cVWf (As := [.int (z4 (sv xs (i + 1)))]) (rest := []) X hK hF hAB (Nat.le_refl _) hP hD hS hA hC rfl cl_X11 lk_law_92 co_X11_count dy_X11_count rfl rfl ⟨Nat.le_of_ble_eq_true rfl, Nat.le_of_ble_eq_true rfl⟩ hl.1 rfl (Nat.le_of_ble_eq_true rfl) d_law_591 (Nat.le_of_ble_eq_true rfl) (Nat.le_of_ble_eq_true rfl) (fun H locs hP hD hS => ?_)
  replace hP := hP.perm List.perm_append_comm
  replace hD := hD.perm List.perm_append_comm
  refine lv_aload_n X.1 X.2.1 d_law_594 rfl (lv_at hl 1 rfl) ?_
  refine lv_aload_n X.1 X.2.1 d_law_595 rfl (lv_at hl 3 rfl) ?_
  refine lv_iload_n X.1 X.2.1 d_law_596 rfl (lv_at hl 0 rfl) ?_
  refine m_iconst X d_law_597 ?_
  refine m_iadd X d_law_598 ?_
  refine m_sld X hX hbl hbA hLs hS (by omega) d_law_599 ?_
  refine m_cVWf (As := [.int (z4 (sv xs (i + 1)))]) (rest := [.int (z4 r)]) X hK hF hAB (Nat.le_refl _) hP hD hS hA hM rfl cl_X12 lk_law_95 co_X12_count dy_X12_count rfl rfl ⟨Nat.le_of_ble_eq_true rfl, Nat.le_of_ble_eq_true rfl⟩ hl.1 rfl (Nat.le_of_ble_eq_true rfl) d_law_600 (Nat.le_of_ble_eq_true rfl) (Nat.le_of_ble_eq_true rfl) (fun H locs hP hD hS => ?_)
  replace hP := hP.perm List.perm_append_comm
  replace hD := hD.perm List.perm_append_comm
  refine lv_icmp_eq (tgt := 608) X.1 X.2.1 d_law_603 (by decide) (fun _ => ?_) (fun h_ => absurd rfl h_)
  exact hk c' mm' H locs ls hR' hP hD hS hl
end LAW
