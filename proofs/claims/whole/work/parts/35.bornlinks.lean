theorem ry_fvr {G : ro_G} {c id k r : Nat} {μ : ro_Mem} (hk : ∃ q, (ro_fk c k).1 = q + 1) (hr : r + 1 < 2 ^ 31) : ry_fv G c id (ro_set μ id k (nI (r + 1))) k = .ref (ro_ad G r) := by
  obtain ⟨q, hq⟩ := hk
  have hne : ¬ nI (r + 1) = 0 := nI_ne0 (by omega) hr
  simp only [ry_fv, hq, ro_set_same, upd, if_pos, hne, if_false, nI_clamp hr]
  rfl
theorem ry_fvg {G : ro_G} {c id k r : Nat} {μ : ro_Mem} (hk : ∃ q, (ro_fk c k).1 = q + 1) (hv : μ id k = nI (r + 1)) (hr : r + 1 < 2 ^ 31) : ry_fv G c id μ k = .ref (ro_ad G r) := by
  obtain ⟨q, hq⟩ := hk
  have hne : ¬ nI (r + 1) = 0 := nI_ne0 (by omega) hr
  simp only [ry_fv, hq, hv, hne, if_false, nI_clamp hr]
  rfl
theorem ry_fvi {G : ro_G} {c id k : Nat} {μ : ro_Mem} {x : Int32} (hk : (ro_fk c k).1 = 0) : ry_fv G c id (ro_set μ id k x) k = .int x := by
  simp only [ry_fv, hk, ro_set_same, upd, if_pos]
theorem ka_boolean : Cond.arrayClass (newarray.typeOf .boolean) ∈ ro_WT := ro_tb 128 (by decide +kernel) rfl
theorem ka_int : Cond.arrayClass (newarray.typeOf .int) ∈ ro_WT := ro_tb 129 (by decide +kernel) rfl
theorem ka_byte : Cond.arrayClass (newarray.typeOf .byte) ∈ ro_WT := ro_tb 667 (by decide +kernel) rfl
theorem ko_in : Cond.instanceMethod objectInit ∈ ro_WT := ro_tb 29 (by decide +kernel) rfl
theorem ko_cd : Cond.code objectInit ⟨#[0xb1]⟩ 1 none ∈ ro_WT := ro_tb 30 (by decide +kernel) rfl
theorem ob_X11_1 : Cond.methodLink RX11 1 objectInit ∈ ro_WT := ro_tb 28 (by decide +kernel) rfl
theorem cl_X11_7 : Cond.classLink RX11 7 RX9 ∈ ro_WT := ro_tb 31 (by decide +kernel) rfl
theorem is_9 : Cond.instantiable RX9 4 ∈ ro_WT := ro_tb 32 (by decide +kernel) rfl
theorem it_9 : Cond.initialized RX9 ∈ ro_WT := ro_tb 2 (by decide +kernel) rfl
theorem df_9 : ∀ k, k < 4 → defaultValue (tyX9 k) = if (ro_fk 9 k).1 = 0 then .int 0 else .null := by decide +kernel
theorem ob_X9_3 : Cond.methodLink RX9 3 objectInit ∈ ro_WT := ro_tb 36 (by decide +kernel) rfl
theorem cl_X9_9 : Cond.classLink RX9 9 RX1 ∈ ro_WT := ro_tb 37 (by decide +kernel) rfl
theorem is_1 : Cond.instantiable RX1 18 ∈ ro_WT := ro_tb 38 (by decide +kernel) rfl
theorem it_1 : Cond.initialized RX1 ∈ ro_WT := ro_tb 3 (by decide +kernel) rfl
theorem df_1 : ∀ k, k < 18 → defaultValue (tyX1 k) = if (ro_fk 1 k).1 = 0 then .int 0 else .null := by decide +kernel
theorem ob_X1_3 : Cond.methodLink RX1 3 objectInit ∈ ro_WT := ro_tb 42 (by decide +kernel) rfl
theorem mw_J7_fill_53178 : ry_MW yJ7_fill_53178 cJ7_fill_53178 4 2 := ⟨ro_tb 4 (by decide +kernel) rfl, ro_tk1 45 rfl rfl, by decide +kernel, by decide⟩
theorem ml_X1_49 : Cond.methodLink RX1 49 yJ7_fill_53178 ∈ ro_WT := ro_tb 43 (by decide +kernel) rfl
theorem st_J7_fill_53178 : Cond.static yJ7_fill_53178 ∈ ro_WT := ro_tb 44 (by decide +kernel) rfl
theorem mw_X1_init : ry_MW yX1_init cX1_init 1 0 := ⟨ro_tb 3 (by decide +kernel) rfl, ro_tk1 41 rfl rfl, by decide +kernel, by decide⟩
theorem im_X1_init : Cond.instanceMethod yX1_init ∈ ro_WT := ro_tb 40 (by decide +kernel) rfl
theorem ml_X9_11 : Cond.methodLink RX9 11 yX1_init ∈ ro_WT := ro_tb 39 (by decide +kernel) rfl
theorem cl_X9_18 : Cond.classLink RX9 18 RX5 ∈ ro_WT := ro_tb 130 (by decide +kernel) rfl
theorem is_5 : Cond.instantiable RX5 8 ∈ ro_WT := ro_tb 131 (by decide +kernel) rfl
theorem it_5 : Cond.initialized RX5 ∈ ro_WT := ro_tb 5 (by decide +kernel) rfl
theorem df_5 : ∀ k, k < 8 → defaultValue (tyX5 k) = if (ro_fk 5 k).1 = 0 then .int 0 else .null := by decide +kernel
theorem ob_X5_3 : Cond.methodLink RX5 3 objectInit ∈ ro_WT := ro_tb 135 (by decide +kernel) rfl
theorem mw_X5_init : ry_MW yX5_init cX5_init 1 0 := ⟨ro_tb 5 (by decide +kernel) rfl, ro_tk1 134 rfl rfl, by decide +kernel, by decide⟩
theorem im_X5_init : Cond.instanceMethod yX5_init ∈ ro_WT := ro_tb 133 (by decide +kernel) rfl
theorem cl_X9_25 : Cond.classLink RX9 25 RX2 ∈ ro_WT := ro_tb 181 (by decide +kernel) rfl
theorem is_2 : Cond.instantiable RX2 10 ∈ ro_WT := ro_tb 182 (by decide +kernel) rfl
theorem it_2 : Cond.initialized RX2 ∈ ro_WT := ro_tb 6 (by decide +kernel) rfl
theorem df_2 : ∀ k, k < 10 → defaultValue (tyX2 k) = if (ro_fk 2 k).1 = 0 then .int 0 else .null := by decide +kernel
theorem ob_X2_3 : Cond.methodLink RX2 3 objectInit ∈ ro_WT := ro_tb 186 (by decide +kernel) rfl
theorem mw_X2_init : ry_MW yX2_init cX2_init 1 0 := ⟨ro_tb 6 (by decide +kernel) rfl, ro_tk1 185 rfl rfl, by decide +kernel, by decide⟩
theorem im_X2_init : Cond.instanceMethod yX2_init ∈ ro_WT := ro_tb 184 (by decide +kernel) rfl
theorem mw_X9_init : ry_MW yX9_init cX9_init 1 0 := ⟨ro_tb 2 (by decide +kernel) rfl, ro_tk1 35 rfl rfl, by decide +kernel, by decide⟩
theorem im_X9_init : Cond.instanceMethod yX9_init ∈ ro_WT := ro_tb 34 (by decide +kernel) rfl
theorem cl_X11_16 : Cond.classLink RX11 16 RX1 ∈ ro_WT := ro_tb 246 (by decide +kernel) rfl
theorem ml_X11_18 : Cond.methodLink RX11 18 yX1_init ∈ ro_WT := ro_tb 247 (by decide +kernel) rfl
theorem cl_X11_23 : Cond.classLink RX11 23 RX5 ∈ ro_WT := ro_tb 248 (by decide +kernel) rfl
theorem cl_X11_30 : Cond.classLink RX11 30 RX3 ∈ ro_WT := ro_tb 250 (by decide +kernel) rfl
theorem is_3 : Cond.instantiable RX3 1 ∈ ro_WT := ro_tb 251 (by decide +kernel) rfl
theorem it_3 : Cond.initialized RX3 ∈ ro_WT := ro_tb 7 (by decide +kernel) rfl
theorem df_3 : ∀ k, k < 1 → defaultValue (tyX3 k) = if (ro_fk 3 k).1 = 0 then .int 0 else .null := by decide +kernel
theorem ob_X3_3 : Cond.methodLink RX3 3 objectInit ∈ ro_WT := ro_tb 255 (by decide +kernel) rfl
theorem cl_X3_9 : Cond.classLink RX3 9 RX2 ∈ ro_WT := ro_tb 256 (by decide +kernel) rfl
theorem mw_X3_init : ry_MW yX3_init cX3_init 1 0 := ⟨ro_tb 7 (by decide +kernel) rfl, ro_tk2 14 rfl rfl, by decide +kernel, by decide⟩
theorem im_X3_init : Cond.instanceMethod yX3_init ∈ ro_WT := ro_tb 253 (by decide +kernel) rfl
theorem cl_X11_37 : Cond.classLink RX11 37 RX8 ∈ ro_WT := ro_tb 263 (by decide +kernel) rfl
theorem is_8 : Cond.instantiable RX8 5 ∈ ro_WT := ro_tb 264 (by decide +kernel) rfl
theorem it_8 : Cond.initialized RX8 ∈ ro_WT := ro_tb 8 (by decide +kernel) rfl
theorem df_8 : ∀ k, k < 5 → defaultValue (tyX8 k) = if (ro_fk 8 k).1 = 0 then .int 0 else .null := by decide +kernel
theorem ob_X8_3 : Cond.methodLink RX8 3 objectInit ∈ ro_WT := ro_tb 268 (by decide +kernel) rfl
theorem mw_X8_init : ry_MW yX8_init cX8_init 1 0 := ⟨ro_tb 8 (by decide +kernel) rfl, ro_tk2 27 rfl rfl, by decide +kernel, by decide⟩
theorem im_X8_init : Cond.instanceMethod yX8_init ∈ ro_WT := ro_tb 266 (by decide +kernel) rfl
theorem cl_X11_44 : Cond.classLink RX11 44 RX0 ∈ ro_WT := ro_tb 292 (by decide +kernel) rfl
theorem is_0 : Cond.instantiable RX0 6 ∈ ro_WT := ro_tb 293 (by decide +kernel) rfl
theorem it_0 : Cond.initialized RX0 ∈ ro_WT := ro_tb 9 (by decide +kernel) rfl
theorem df_0 : ∀ k, k < 6 → defaultValue (tyX0 k) = if (ro_fk 0 k).1 = 0 then .int 0 else .null := by decide +kernel
theorem ob_X0_3 : Cond.methodLink RX0 3 objectInit ∈ ro_WT := ro_tb 297 (by decide +kernel) rfl
theorem mw_X0_init : ry_MW yX0_init cX0_init 1 0 := ⟨ro_tb 9 (by decide +kernel) rfl, ro_tk2 56 rfl rfl, by decide +kernel, by decide⟩
theorem im_X0_init : Cond.instanceMethod yX0_init ∈ ro_WT := ro_tb 295 (by decide +kernel) rfl
theorem cl_X11_55 : Cond.classLink RX11 55 RX6 ∈ ro_WT := ro_tb 322 (by decide +kernel) rfl
theorem is_6 : Cond.instantiable RX6 7 ∈ ro_WT := ro_tb 323 (by decide +kernel) rfl
theorem it_6 : Cond.initialized RX6 ∈ ro_WT := ro_tb 10 (by decide +kernel) rfl
theorem df_6 : ∀ k, k < 7 → defaultValue (tyX6 k) = if (ro_fk 6 k).1 = 0 then .int 0 else .null := by decide +kernel
theorem ob_X6_3 : Cond.methodLink RX6 3 objectInit ∈ ro_WT := ro_tb 327 (by decide +kernel) rfl
theorem mw_X6_init : ry_MW yX6_init cX6_init 1 0 := ⟨ro_tb 10 (by decide +kernel) rfl, ro_tk2 86 rfl rfl, by decide +kernel, by decide⟩
theorem im_X6_init : Cond.instanceMethod yX6_init ∈ ro_WT := ro_tb 325 (by decide +kernel) rfl
theorem cl_X11_62 : Cond.classLink RX11 62 RX4 ∈ ro_WT := ro_tb 353 (by decide +kernel) rfl
theorem is_4 : Cond.instantiable RX4 4 ∈ ro_WT := ro_tb 354 (by decide +kernel) rfl
theorem it_4 : Cond.initialized RX4 ∈ ro_WT := ro_tb 11 (by decide +kernel) rfl
theorem df_4 : ∀ k, k < 4 → defaultValue (tyX4 k) = if (ro_fk 4 k).1 = 0 then .int 0 else .null := by decide +kernel
theorem ob_X4_3 : Cond.methodLink RX4 3 objectInit ∈ ro_WT := ro_tb 358 (by decide +kernel) rfl
theorem cl_X4_9 : Cond.classLink RX4 9 "RainOpera$Weights" ∈ ro_WT := ro_tb 359 (by decide +kernel) rfl
theorem is_10 : Cond.instantiable RX10 2 ∈ ro_WT := ro_tb 361 (by decide +kernel) rfl
theorem it_10 : Cond.initialized RX10 ∈ ro_WT := ro_tb 12 (by decide +kernel) rfl
theorem df_10 : ∀ k, k < 2 → defaultValue (tyX10 k) = if (ro_fk 10 k).1 = 0 then .int 0 else .null := by decide +kernel
theorem ob_X10_3 : Cond.methodLink RX10 3 objectInit ∈ ro_WT := ro_tb 365 (by decide +kernel) rfl
theorem ml_X10_9 : Cond.methodLink RX10 9 Lib.Math.max.name ∈ ro_WT := ro_tb 366 (by decide +kernel) rfl
theorem mw_X10_init : ry_MW yX10_init cX10_init 2 1 := ⟨ro_tb 12 (by decide +kernel) rfl, ro_tk2 124 rfl rfl, by decide +kernel, by decide⟩
theorem im_X10_init : Cond.instanceMethod yX10_init ∈ ro_WT := ro_tb 363 (by decide +kernel) rfl
theorem ml_X4_21 : Cond.methodLink RX4 21 yX10_init ∈ ro_WT := ro_tb 362 (by decide +kernel) rfl
theorem mw_X4_init : ry_MW yX4_init cX4_init 2 0 := ⟨ro_tb 11 (by decide +kernel) rfl, ro_tk2 117 rfl rfl, by decide +kernel, by decide⟩
theorem im_X4_init : Cond.instanceMethod yX4_init ∈ ro_WT := ro_tb 356 (by decide +kernel) rfl
theorem ml_X11_64 : Cond.methodLink RX11 64 yX4_init ∈ ro_WT := ro_tb 355 (by decide +kernel) rfl
theorem cl_X11_69 : Cond.classLink RX11 69 RX7 ∈ ro_WT := ro_tb 391 (by decide +kernel) rfl
theorem is_7 : Cond.instantiable RX7 11 ∈ ro_WT := ro_tb 392 (by decide +kernel) rfl
theorem it_7 : Cond.initialized RX7 ∈ ro_WT := ro_tb 14 (by decide +kernel) rfl
theorem df_7 : ∀ k, k < 11 → defaultValue (tyX7 k) = if (ro_fk 7 k).1 = 0 then .int 0 else .null := by decide +kernel
theorem ob_X7_3 : Cond.methodLink RX7 3 objectInit ∈ ro_WT := ro_tb 396 (by decide +kernel) rfl
theorem mw_X7_init : ry_MW yX7_init cX7_init 1 0 := ⟨ro_tb 14 (by decide +kernel) rfl, ro_tk2 155 rfl rfl, by decide +kernel, by decide⟩
theorem im_X7_init : Cond.instanceMethod yX7_init ∈ ro_WT := ro_tb 394 (by decide +kernel) rfl
theorem cl_X11_76 : Cond.classLink RX11 76 RX10 ∈ ro_WT := ro_tb 434 (by decide +kernel) rfl
theorem ml_X11_78 : Cond.methodLink RX11 78 yX10_init ∈ ro_WT := ro_tb 435 (by decide +kernel) rfl
theorem ob_X12_1 : Cond.methodLink RX12 1 objectInit ∈ ro_WT := ro_tb 1082 (by decide +kernel) rfl
