/-! words of the constructors -/
theorem io_obj : Cond.instanceMethod Lib.objectInit ∈ TT := TT_in 95 (by decide +kernel) (by decide +kernel)
theorem cd_obj : Cond.code Lib.objectInit ⟨#[0xb1]⟩ 1 none ∈ TT := TT_in 96 (by decide +kernel) (by decide +kernel)
theorem aw_int : Cond.arrayClass .int ∈ TT := TT_in 132 (by decide +kernel) (by decide +kernel)
theorem aw_boolean : Cond.arrayClass .boolean ∈ TT := TT_in 291 (by decide +kernel) (by decide +kernel)
theorem aw_long : Cond.arrayClass .long ∈ TT := TT_in 1023 (by decide +kernel) (by decide +kernel)
theorem in_X11 : Cond.initialized RX11 ∈ TT := TT_in 68 (by decide +kernel) (by decide +kernel)
theorem in_X5 : Cond.initialized RX5 ∈ TT := TT_in 69 (by decide +kernel) (by decide +kernel)
theorem in_X9 : Cond.initialized RX9 ∈ TT := TT_in 70 (by decide +kernel) (by decide +kernel)
theorem in_X4 : Cond.initialized RX4 ∈ TT := TT_in 71 (by decide +kernel) (by decide +kernel)
theorem in_X7 : Cond.initialized RX7 ∈ TT := TT_in 73 (by decide +kernel) (by decide +kernel)
theorem in_X6 : Cond.initialized RX6 ∈ TT := TT_in 74 (by decide +kernel) (by decide +kernel)
theorem in_X0 : Cond.initialized RX0 ∈ TT := TT_in 75 (by decide +kernel) (by decide +kernel)
theorem in_X10 : Cond.initialized RX10 ∈ TT := TT_in 76 (by decide +kernel) (by decide +kernel)
theorem in_X1 : Cond.initialized RX1 ∈ TT := TT_in 77 (by decide +kernel) (by decide +kernel)
theorem in_X3 : Cond.initialized RX3 ∈ TT := TT_in 81 (by decide +kernel) (by decide +kernel)
theorem in_X2 : Cond.initialized RX2 ∈ TT := TT_in 82 (by decide +kernel) (by decide +kernel)
theorem in_X8 : Cond.initialized RX8 ∈ TT := TT_in 83 (by decide +kernel) (by decide +kernel)
theorem in_X12 : Cond.initialized RX12 ∈ TT := TT_in 84 (by decide +kernel) (by decide +kernel)
theorem ck__law_7 : Cond.classLink "RunWatchLaw" 7 RX11 ∈ TT := TT_in 89 (by decide +kernel) (by decide +kernel)
theorem mk_X11 : Cond.instantiable RX11 11 ∈ TT := TT_in 90 (by decide +kernel) (by decide +kernel)
theorem il__law_9 : Cond.methodLink "RunWatchLaw" 9 yX11_init ∈ TT := TT_in 91 (by decide +kernel) (by decide +kernel)
theorem im_X11 : Cond.instanceMethod yX11_init ∈ TT := TT_in 92 (by decide +kernel) (by decide +kernel)
theorem il_X11_1 : Cond.methodLink RX11 1 Lib.objectInit ∈ TT := TT_in 94 (by decide +kernel) (by decide +kernel)
theorem ck_X11_7 : Cond.classLink RX11 7 RX5 ∈ TT := TT_in 97 (by decide +kernel) (by decide +kernel)
theorem mk_X5 : Cond.instantiable RX5 5 ∈ TT := TT_in 98 (by decide +kernel) (by decide +kernel)
theorem im_X5 : Cond.instanceMethod yX5_init ∈ TT := TT_in 100 (by decide +kernel) (by decide +kernel)
theorem il_X5_3 : Cond.methodLink RX5 3 Lib.objectInit ∈ TT := TT_in 102 (by decide +kernel) (by decide +kernel)
theorem ck_X5_9 : Cond.classLink RX5 9 RX9 ∈ TT := TT_in 103 (by decide +kernel) (by decide +kernel)
theorem mk_X9 : Cond.instantiable RX9 7 ∈ TT := TT_in 104 (by decide +kernel) (by decide +kernel)
theorem im_X9 : Cond.instanceMethod yX9_init ∈ TT := TT_in 106 (by decide +kernel) (by decide +kernel)
theorem il_X9_3 : Cond.methodLink RX9 3 Lib.objectInit ∈ TT := TT_in 108 (by decide +kernel) (by decide +kernel)
theorem ck_X5_18 : Cond.classLink RX5 18 RX4 ∈ TT := TT_in 133 (by decide +kernel) (by decide +kernel)
theorem mk_X4 : Cond.instantiable RX4 7 ∈ TT := TT_in 134 (by decide +kernel) (by decide +kernel)
theorem il_X5_20 : Cond.methodLink RX5 20 yX4_init ∈ TT := TT_in 135 (by decide +kernel) (by decide +kernel)
theorem im_X4 : Cond.instanceMethod yX4_init ∈ TT := TT_in 136 (by decide +kernel) (by decide +kernel)
theorem il_X4_3 : Cond.methodLink RX4 3 Lib.objectInit ∈ TT := TT_in 138 (by decide +kernel) (by decide +kernel)
theorem ck_X11_21 : Cond.classLink RX11 21 RX7 ∈ TT := TT_in 202 (by decide +kernel) (by decide +kernel)
theorem mk_X7 : Cond.instantiable RX7 2 ∈ TT := TT_in 203 (by decide +kernel) (by decide +kernel)
theorem im_X7 : Cond.instanceMethod yX7_init ∈ TT := TT_in 205 (by decide +kernel) (by decide +kernel)
theorem il_X7_1 : Cond.methodLink RX7 1 Lib.objectInit ∈ TT := TT_in 207 (by decide +kernel) (by decide +kernel)
theorem ck_X7_7 : Cond.classLink RX7 7 RX4 ∈ TT := TT_in 208 (by decide +kernel) (by decide +kernel)
theorem il_X7_9 : Cond.methodLink RX7 9 yX4_init ∈ TT := TT_in 209 (by decide +kernel) (by decide +kernel)
theorem ck_X7_16 : Cond.classLink RX7 16 RX6 ∈ TT := TT_in 210 (by decide +kernel) (by decide +kernel)
theorem mk_X6 : Cond.instantiable RX6 3 ∈ TT := TT_in 211 (by decide +kernel) (by decide +kernel)
theorem im_X6 : Cond.instanceMethod yX6_init ∈ TT := TT_in 213 (by decide +kernel) (by decide +kernel)
theorem il_X6_3 : Cond.methodLink RX6 3 Lib.objectInit ∈ TT := TT_in 215 (by decide +kernel) (by decide +kernel)
theorem ck_X11_28 : Cond.classLink RX11 28 RX0 ∈ TT := TT_in 244 (by decide +kernel) (by decide +kernel)
theorem mk_X0 : Cond.instantiable RX0 3 ∈ TT := TT_in 245 (by decide +kernel) (by decide +kernel)
theorem il_X11_30 : Cond.methodLink RX11 30 yX0_init ∈ TT := TT_in 246 (by decide +kernel) (by decide +kernel)
theorem im_X0 : Cond.instanceMethod yX0_init ∈ TT := TT_in 247 (by decide +kernel) (by decide +kernel)
theorem il_X0_3 : Cond.methodLink RX0 3 Lib.objectInit ∈ TT := TT_in 249 (by decide +kernel) (by decide +kernel)
theorem ck_X0_9 : Cond.classLink RX0 9 RX7 ∈ TT := TT_in 250 (by decide +kernel) (by decide +kernel)
theorem ck_X11_43 : Cond.classLink RX11 43 RX10 ∈ TT := TT_in 264 (by decide +kernel) (by decide +kernel)
theorem mk_X10 : Cond.instantiable RX10 5 ∈ TT := TT_in 265 (by decide +kernel) (by decide +kernel)
theorem im_X10 : Cond.instanceMethod yX10_init ∈ TT := TT_in 267 (by decide +kernel) (by decide +kernel)
theorem il_X10_3 : Cond.methodLink RX10 3 Lib.objectInit ∈ TT := TT_in 269 (by decide +kernel) (by decide +kernel)
theorem ck_X11_50 : Cond.classLink RX11 50 RX1 ∈ TT := TT_in 292 (by decide +kernel) (by decide +kernel)
theorem mk_X1 : Cond.instantiable RX1 11 ∈ TT := TT_in 293 (by decide +kernel) (by decide +kernel)
theorem il_X11_52 : Cond.methodLink RX11 52 yX1_init ∈ TT := TT_in 294 (by decide +kernel) (by decide +kernel)
theorem im_X1 : Cond.instanceMethod yX1_init ∈ TT := TT_in 295 (by decide +kernel) (by decide +kernel)
theorem il_X1_3 : Cond.methodLink RX1 3 Lib.objectInit ∈ TT := TT_in 297 (by decide +kernel) (by decide +kernel)
theorem ck_X1_9 : Cond.classLink RX1 9 RX4 ∈ TT := TT_in 298 (by decide +kernel) (by decide +kernel)
theorem il_X1_11 : Cond.methodLink RX1 11 yX4_init ∈ TT := TT_in 299 (by decide +kernel) (by decide +kernel)
theorem ck_X11_57 : Cond.classLink RX11 57 RX3 ∈ TT := TT_in 396 (by decide +kernel) (by decide +kernel)
theorem mk_X3 : Cond.instantiable RX3 4 ∈ TT := TT_in 397 (by decide +kernel) (by decide +kernel)
theorem im_X3 : Cond.instanceMethod yX3_init ∈ TT := TT_in 399 (by decide +kernel) (by decide +kernel)
theorem il_X3_3 : Cond.methodLink RX3 3 Lib.objectInit ∈ TT := TT_in 401 (by decide +kernel) (by decide +kernel)
theorem ck_X11_64 : Cond.classLink RX11 64 RX2 ∈ TT := TT_in 417 (by decide +kernel) (by decide +kernel)
theorem mk_X2 : Cond.instantiable RX2 7 ∈ TT := TT_in 418 (by decide +kernel) (by decide +kernel)
theorem im_X2 : Cond.instanceMethod yX2_init ∈ TT := TT_in 420 (by decide +kernel) (by decide +kernel)
theorem il_X2_3 : Cond.methodLink RX2 3 Lib.objectInit ∈ TT := TT_in 422 (by decide +kernel) (by decide +kernel)
theorem ck_X2_9 : Cond.classLink RX2 9 RX4 ∈ TT := TT_in 423 (by decide +kernel) (by decide +kernel)
theorem il_X2_11 : Cond.methodLink RX2 11 yX4_init ∈ TT := TT_in 424 (by decide +kernel) (by decide +kernel)
theorem ck_X2_22 : Cond.classLink RX2 22 "[[I" ∈ TT := TT_in 425 (by decide +kernel) (by decide +kernel)
theorem ck_X11_71 : Cond.classLink RX11 71 RX8 ∈ TT := TT_in 451 (by decide +kernel) (by decide +kernel)
theorem mk_X8 : Cond.instantiable RX8 5 ∈ TT := TT_in 452 (by decide +kernel) (by decide +kernel)
theorem im_X8 : Cond.instanceMethod yX8_init ∈ TT := TT_in 454 (by decide +kernel) (by decide +kernel)
theorem il_X8_3 : Cond.methodLink RX8 3 Lib.objectInit ∈ TT := TT_in 456 (by decide +kernel) (by decide +kernel)
theorem ck__law_10 : Cond.classLink "RunWatchLaw" 10 RX12 ∈ TT := TT_in 903 (by decide +kernel) (by decide +kernel)
theorem mk_X12 : Cond.instantiable RX12 35 ∈ TT := TT_in 904 (by decide +kernel) (by decide +kernel)
theorem il__law_12 : Cond.methodLink "RunWatchLaw" 12 yX12_init ∈ TT := TT_in 905 (by decide +kernel) (by decide +kernel)
theorem im_X12 : Cond.instanceMethod yX12_init ∈ TT := TT_in 906 (by decide +kernel) (by decide +kernel)
theorem il_X12_1 : Cond.methodLink RX12 1 Lib.objectInit ∈ TT := TT_in 908 (by decide +kernel) (by decide +kernel)
theorem df_X0 : ∀ j, j < 3 → defaultValue (tyX0 j) = vp_V [.null, .int (z4 0), .int (z4 0)] j := fun j hj => by
  rcases (show j = 0 ∨ j = 1 ∨ j = 2 by omega) with rfl | rfl | rfl <;> rfl
theorem df_X1 : ∀ j, j < 11 → defaultValue (tyX1 j) = vp_V [.null, .int (z4 0), .null, .null, .null, .null, .null, .null, .int (z4 0), .null, .null] j := fun j hj => by
  rcases (show j = 0 ∨ j = 1 ∨ j = 2 ∨ j = 3 ∨ j = 4 ∨ j = 5 ∨ j = 6 ∨ j = 7 ∨ j = 8 ∨ j = 9 ∨ j = 10 by omega) with rfl | rfl | rfl | rfl | rfl | rfl | rfl | rfl | rfl | rfl | rfl <;> rfl
theorem df_X2 : ∀ j, j < 7 → defaultValue (tyX2 j) = vp_V [.null, .int (z4 0), .int (z4 0), .null, .null, .null, .int (z4 0)] j := fun j hj => by
  rcases (show j = 0 ∨ j = 1 ∨ j = 2 ∨ j = 3 ∨ j = 4 ∨ j = 5 ∨ j = 6 by omega) with rfl | rfl | rfl | rfl | rfl | rfl | rfl <;> rfl
theorem df_X3 : ∀ j, j < 4 → defaultValue (tyX3 j) = vp_V [.null, .null, .int (z4 0), .int (z4 0)] j := fun j hj => by
  rcases (show j = 0 ∨ j = 1 ∨ j = 2 ∨ j = 3 by omega) with rfl | rfl | rfl | rfl <;> rfl
theorem df_X4 : ∀ j, j < 7 → defaultValue (tyX4 j) = vp_V [.int (z4 0), .null, .null, .null, .null, .int (z4 0), .int (z4 0)] j := fun j hj => by
  rcases (show j = 0 ∨ j = 1 ∨ j = 2 ∨ j = 3 ∨ j = 4 ∨ j = 5 ∨ j = 6 by omega) with rfl | rfl | rfl | rfl | rfl | rfl | rfl <;> rfl
theorem df_X5 : ∀ j, j < 5 → defaultValue (tyX5 j) = vp_V [.null, .null, .int (z4 0), .int (z4 0), .int (z4 0)] j := fun j hj => by
  rcases (show j = 0 ∨ j = 1 ∨ j = 2 ∨ j = 3 ∨ j = 4 by omega) with rfl | rfl | rfl | rfl | rfl <;> rfl
theorem df_X6 : ∀ j, j < 3 → defaultValue (tyX6 j) = vp_V [.int (z4 0), .null, .null] j := fun j hj => by
  rcases (show j = 0 ∨ j = 1 ∨ j = 2 by omega) with rfl | rfl | rfl <;> rfl
theorem df_X7 : ∀ j, j < 2 → defaultValue (tyX7 j) = vp_V [.null, .null] j := fun j hj => by
  rcases (show j = 0 ∨ j = 1 by omega) with rfl | rfl <;> rfl
theorem df_X8 : ∀ j, j < 5 → defaultValue (tyX8 j) = vp_V [.int (z4 0), .int (z4 0), .int (z4 0), .int (z4 0), .int (z4 0)] j := fun j hj => by
  rcases (show j = 0 ∨ j = 1 ∨ j = 2 ∨ j = 3 ∨ j = 4 by omega) with rfl | rfl | rfl | rfl | rfl <;> rfl
theorem df_X9 : ∀ j, j < 7 → defaultValue (tyX9 j) = vp_V [.null, .int (z4 0), .int (z4 0), .int (z4 0), .null, .null, .null] j := fun j hj => by
  rcases (show j = 0 ∨ j = 1 ∨ j = 2 ∨ j = 3 ∨ j = 4 ∨ j = 5 ∨ j = 6 by omega) with rfl | rfl | rfl | rfl | rfl | rfl | rfl <;> rfl
theorem df_X10 : ∀ j, j < 5 → defaultValue (tyX10 j) = vp_V [.null, .null, .null, .null, .null] j := fun j hj => by
  rcases (show j = 0 ∨ j = 1 ∨ j = 2 ∨ j = 3 ∨ j = 4 by omega) with rfl | rfl | rfl | rfl | rfl <;> rfl
theorem df_X11 : ∀ j, j < 11 → defaultValue (tyX11 j) = vp_V [.null, .null, .null, .null, .null, .null, .null, .null, .null, .null, .null] j := fun j hj => by
  rcases (show j = 0 ∨ j = 1 ∨ j = 2 ∨ j = 3 ∨ j = 4 ∨ j = 5 ∨ j = 6 ∨ j = 7 ∨ j = 8 ∨ j = 9 ∨ j = 10 by omega) with rfl | rfl | rfl | rfl | rfl | rfl | rfl | rfl | rfl | rfl | rfl <;> rfl
theorem df_X12 : ∀ j, j < 35 → defaultValue (tyX12 j) = vp_V [.null, .null, .null, .int (z4 0), .null, .null, .null, .int (z4 0), .int (z4 0), .int (z4 0), .int (z4 0), .int (z4 0), .int (z4 0), .int (z4 0), .int (z4 0), .null, .null, .null, .null, .null, .null, .null, .null, .int (z4 0), .null, .null, .int (z4 0), .null, .null, .null, .int (z4 0), .null, .null, .null, .null] j := fun j hj => by
  rcases (show j = 0 ∨ j = 1 ∨ j = 2 ∨ j = 3 ∨ j = 4 ∨ j = 5 ∨ j = 6 ∨ j = 7 ∨ j = 8 ∨ j = 9 ∨ j = 10 ∨ j = 11 ∨ j = 12 ∨ j = 13 ∨ j = 14 ∨ j = 15 ∨ j = 16 ∨ j = 17 ∨ j = 18 ∨ j = 19 ∨ j = 20 ∨ j = 21 ∨ j = 22 ∨ j = 23 ∨ j = 24 ∨ j = 25 ∨ j = 26 ∨ j = 27 ∨ j = 28 ∨ j = 29 ∨ j = 30 ∨ j = 31 ∨ j = 32 ∨ j = 33 ∨ j = 34 by omega) with rfl | rfl | rfl | rfl | rfl | rfl | rfl | rfl | rfl | rfl | rfl | rfl | rfl | rfl | rfl | rfl | rfl | rfl | rfl | rfl | rfl | rfl | rfl | rfl | rfl | rfl | rfl | rfl | rfl | rfl | rfl | rfl | rfl | rfl | rfl <;> rfl
