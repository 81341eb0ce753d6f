-- ===== X12_pours =====
theorem dX12_pours_0 : decode cX12_pours 0 = .ok (.iload_n 3, 1) := by decide +kernel
theorem dX12_pours_1 : decode cX12_pours 1 = .ok (.aload_n 0, 1) := by decide +kernel
theorem dX12_pours_2 : decode cX12_pours 2 = .ok (.getfield 117, 3) := by decide +kernel
theorem dX12_pours_5 : decode cX12_pours 5 = .ok (.iload_n 2, 1) := by decide +kernel
theorem dX12_pours_6 : decode cX12_pours 6 = .ok (.iaload, 1) := by decide +kernel
theorem dX12_pours_7 : decode cX12_pours 7 = .ok (.invokestatic 435, 3) := by decide +kernel
theorem dX12_pours_10 : decode cX12_pours 10 = .ok (.istore 6, 2) := by decide +kernel
theorem dX12_pours_12 : decode cX12_pours 12 = .ok (.aload_n 0, 1) := by decide +kernel
theorem dX12_pours_13 : decode cX12_pours 13 = .ok (.getfield 117, 3) := by decide +kernel
theorem dX12_pours_16 : decode cX12_pours 16 = .ok (.iload_n 2, 1) := by decide +kernel
theorem dX12_pours_17 : decode cX12_pours 17 = .ok (.aload_n 0, 1) := by decide +kernel
theorem dX12_pours_18 : decode cX12_pours 18 = .ok (.getfield 117, 3) := by decide +kernel
theorem dX12_pours_21 : decode cX12_pours 21 = .ok (.iload_n 2, 1) := by decide +kernel
theorem dX12_pours_22 : decode cX12_pours 22 = .ok (.iaload, 1) := by decide +kernel
theorem dX12_pours_23 : decode cX12_pours 23 = .ok (.iload 6, 2) := by decide +kernel
theorem dX12_pours_25 : decode cX12_pours 25 = .ok (.isub, 1) := by decide +kernel
theorem dX12_pours_26 : decode cX12_pours 26 = .ok (.iastore, 1) := by decide +kernel
theorem dX12_pours_27 : decode cX12_pours 27 = .ok (.aload_n 0, 1) := by decide +kernel
theorem dX12_pours_28 : decode cX12_pours 28 = .ok (.getfield 120, 3) := by decide +kernel
theorem dX12_pours_31 : decode cX12_pours 31 = .ok (.bipush 96, 2) := by decide +kernel
theorem dX12_pours_33 : decode cX12_pours 33 = .ok (.iload_n 1, 1) := by decide +kernel
theorem dX12_pours_34 : decode cX12_pours 34 = .ok (.imul, 1) := by decide +kernel
theorem dX12_pours_35 : decode cX12_pours 35 = .ok (.iload_n 2, 1) := by decide +kernel
theorem dX12_pours_36 : decode cX12_pours 36 = .ok (.iadd, 1) := by decide +kernel
theorem dX12_pours_37 : decode cX12_pours 37 = .ok (.aload_n 0, 1) := by decide +kernel
theorem dX12_pours_38 : decode cX12_pours 38 = .ok (.getfield 120, 3) := by decide +kernel
theorem dX12_pours_41 : decode cX12_pours 41 = .ok (.bipush 96, 2) := by decide +kernel
theorem dX12_pours_43 : decode cX12_pours 43 = .ok (.iload_n 1, 1) := by decide +kernel
theorem dX12_pours_44 : decode cX12_pours 44 = .ok (.imul, 1) := by decide +kernel
theorem dX12_pours_45 : decode cX12_pours 45 = .ok (.iload_n 2, 1) := by decide +kernel
theorem dX12_pours_46 : decode cX12_pours 46 = .ok (.iadd, 1) := by decide +kernel
theorem dX12_pours_47 : decode cX12_pours 47 = .ok (.iaload, 1) := by decide +kernel
theorem dX12_pours_48 : decode cX12_pours 48 = .ok (.iload_n 3, 1) := by decide +kernel
theorem dX12_pours_49 : decode cX12_pours 49 = .ok (.iadd, 1) := by decide +kernel
theorem dX12_pours_50 : decode cX12_pours 50 = .ok (.iload 6, 2) := by decide +kernel
theorem dX12_pours_52 : decode cX12_pours 52 = .ok (.isub, 1) := by decide +kernel
theorem dX12_pours_53 : decode cX12_pours 53 = .ok (.iastore, 1) := by decide +kernel
theorem dX12_pours_54 : decode cX12_pours 54 = .ok (.aload_n 0, 1) := by decide +kernel
theorem dX12_pours_55 : decode cX12_pours 55 = .ok (.getfield 123, 3) := by decide +kernel
theorem dX12_pours_58 : decode cX12_pours 58 = .ok (.iload 4, 2) := by decide +kernel
theorem dX12_pours_60 : decode cX12_pours 60 = .ok (.aload_n 0, 1) := by decide +kernel
theorem dX12_pours_61 : decode cX12_pours 61 = .ok (.getfield 123, 3) := by decide +kernel
theorem dX12_pours_64 : decode cX12_pours 64 = .ok (.iload 4, 2) := by decide +kernel
theorem dX12_pours_66 : decode cX12_pours 66 = .ok (.iaload, 1) := by decide +kernel
theorem dX12_pours_67 : decode cX12_pours 67 = .ok (.iload_n 3, 1) := by decide +kernel
theorem dX12_pours_68 : decode cX12_pours 68 = .ok (.iadd, 1) := by decide +kernel
theorem dX12_pours_69 : decode cX12_pours 69 = .ok (.iload 6, 2) := by decide +kernel
theorem dX12_pours_71 : decode cX12_pours 71 = .ok (.isub, 1) := by decide +kernel
theorem dX12_pours_72 : decode cX12_pours 72 = .ok (.iastore, 1) := by decide +kernel
theorem dX12_pours_73 : decode cX12_pours 73 = .ok (.aload_n 0, 1) := by decide +kernel
theorem dX12_pours_74 : decode cX12_pours 74 = .ok (.getfield 126, 3) := by decide +kernel
theorem dX12_pours_77 : decode cX12_pours 77 = .ok (.iload 5, 2) := by decide +kernel
theorem dX12_pours_79 : decode cX12_pours 79 = .ok (.aload_n 0, 1) := by decide +kernel
theorem dX12_pours_80 : decode cX12_pours 80 = .ok (.getfield 126, 3) := by decide +kernel
theorem dX12_pours_83 : decode cX12_pours 83 = .ok (.iload 5, 2) := by decide +kernel
theorem dX12_pours_85 : decode cX12_pours 85 = .ok (.iaload, 1) := by decide +kernel
theorem dX12_pours_86 : decode cX12_pours 86 = .ok (.iload_n 3, 1) := by decide +kernel
theorem dX12_pours_87 : decode cX12_pours 87 = .ok (.iadd, 1) := by decide +kernel
theorem dX12_pours_88 : decode cX12_pours 88 = .ok (.iload 6, 2) := by decide +kernel
theorem dX12_pours_90 : decode cX12_pours 90 = .ok (.isub, 1) := by decide +kernel
theorem dX12_pours_91 : decode cX12_pours 91 = .ok (.iastore, 1) := by decide +kernel
theorem dX12_pours_92 : decode cX12_pours 92 = .ok (.return_, 1) := by decide +kernel
def fn_X12_pours (v1 : Int32) (v2 : Int32) (v3 : Int32) (v4 : Int32) (v5 : Int32) (μ : ro_Mem) : Option ro_Mem :=
  if ro_in v2 96 then
  ((fn_X12_min v3 (μ 243 v2.toNatClampNeg)).bind fun q2 =>
  ro_lt (ro_set μ 243 v2.toNatClampNeg ((μ 243 v2.toNatClampNeg) - q2)) fun m4 =>
  if ro_in ((96 * v1) + v2) 384 then
  (ro_lt (ro_set m4 244 ((96 * v1) + v2).toNatClampNeg (((m4 244 ((96 * v1) + v2).toNatClampNeg) + v3) - q2)) fun m7 =>
  if ro_in v4 32 then
  (ro_lt (ro_set m7 245 v4.toNatClampNeg (((m7 245 v4.toNatClampNeg) + v3) - q2)) fun m10 =>
  if ro_in v5 16 then
  (ro_lt (ro_set m10 246 v5.toNatClampNeg (((m10 246 v5.toNatClampNeg) + v3) - q2)) fun m13 =>
  some m13) else none) else none) else none) else none
theorem be_X12_pours {K : ro_K} (hK : ro_C K RX12 cX12_pours 7 1) (hR : ro_R K none) {v1 : Int32} {v2 : Int32} {v3 : Int32} {v4 : Int32} {v5 : Int32}  {μ : ro_Mem} {out : ro_Mem} (hf : fn_X12_pours v1 v2 v3 v4 v5 μ = some out) (hq : kQ K none out) : ro_X K 0 [(0, .ref (ro_ad (kG K) 207)), (1, .int v1), (2, .int v2), (3, .int v3), (4, .int v4), (5, .int v5)] [] μ := by
  unfold fn_X12_pours at hf
  refine ro_iload_n hK 3 rfl dX12_pours_0 rfl ?_
  refine ro_aload_n hK 0 rfl dX12_pours_1 rfl ?_
  refine ro_getr hK fl_X12_117 sh_207 dX12_pours_2 ?_
  refine ro_iload_n hK 2 rfl dX12_pours_5 rfl ?_
  obtain ⟨g1, hf⟩ := ro_gd hf
  refine ro_iald hK sh_243 g1 dX12_pours_6 ?_
  obtain ⟨q2, e3, hf⟩ := ro_bd hf
  refine ro_callsi hK [.int v3, .int (μ 243 v2.toNatClampNeg)] ml_X12_435 ms_X12_min (mt_X12_min (kl K) (kG K)  e3) (by decide) rfl rfl (Nat.le_of_ble_eq_true rfl) dX12_pours_7 ?_
  refine ro_istore (L' := [(6, .int q2), (0, .ref (ro_ad (kG K) 207)), (1, .int v1), (2, .int v2), (3, .int v3), (4, .int v4), (5, .int v5)]) hK dX12_pours_10 (by decide) rfl ?_
  refine ro_aload_n hK 1 rfl dX12_pours_12 rfl ?_
  refine ro_getr hK fl_X12_117 sh_207 dX12_pours_13 ?_
  refine ro_iload_n hK 3 rfl dX12_pours_16 rfl ?_
  refine ro_aload_n hK 1 rfl dX12_pours_17 rfl ?_
  refine ro_getr hK fl_X12_117 sh_207 dX12_pours_18 ?_
  refine ro_iload_n hK 3 rfl dX12_pours_21 rfl ?_
  refine ro_iald hK sh_243 g1 dX12_pours_22 ?_
  refine ro_iload hK 0 rfl dX12_pours_23 ?_
  refine ro_isub hK dX12_pours_25 ?_
  obtain ⟨m4, e5, hf⟩ := ro_ld hf
  refine ro_iast hK sh_243 g1 dX12_pours_26 ?_
  refine ro_mv e5 ?_
  refine ro_aload_n hK 1 rfl dX12_pours_27 rfl ?_
  refine ro_getr hK fl_X12_120 sh_207 dX12_pours_28 ?_
  refine ro_bipush (v := 96) hK dX12_pours_31 (by decide) ?_
  refine ro_iload_n hK 2 rfl dX12_pours_33 rfl ?_
  refine ro_imul hK dX12_pours_34 ?_
  refine ro_iload_n hK 3 rfl dX12_pours_35 rfl ?_
  refine ro_iadd hK dX12_pours_36 ?_
  refine ro_aload_n hK 1 rfl dX12_pours_37 rfl ?_
  refine ro_getr hK fl_X12_120 sh_207 dX12_pours_38 ?_
  refine ro_bipush (v := 96) hK dX12_pours_41 (by decide) ?_
  refine ro_iload_n hK 2 rfl dX12_pours_43 rfl ?_
  refine ro_imul hK dX12_pours_44 ?_
  refine ro_iload_n hK 3 rfl dX12_pours_45 rfl ?_
  refine ro_iadd hK dX12_pours_46 ?_
  obtain ⟨g6, hf⟩ := ro_gd hf
  refine ro_iald hK sh_244 g6 dX12_pours_47 ?_
  refine ro_iload_n hK 4 rfl dX12_pours_48 rfl ?_
  refine ro_iadd hK dX12_pours_49 ?_
  refine ro_iload hK 0 rfl dX12_pours_50 ?_
  refine ro_isub hK dX12_pours_52 ?_
  obtain ⟨m7, e8, hf⟩ := ro_ld hf
  refine ro_iast hK sh_244 g6 dX12_pours_53 ?_
  refine ro_mv e8 ?_
  refine ro_aload_n hK 1 rfl dX12_pours_54 rfl ?_
  refine ro_getr hK fl_X12_123 sh_207 dX12_pours_55 ?_
  refine ro_iload hK 5 rfl dX12_pours_58 ?_
  refine ro_aload_n hK 1 rfl dX12_pours_60 rfl ?_
  refine ro_getr hK fl_X12_123 sh_207 dX12_pours_61 ?_
  refine ro_iload hK 5 rfl dX12_pours_64 ?_
  obtain ⟨g9, hf⟩ := ro_gd hf
  refine ro_iald hK sh_245 g9 dX12_pours_66 ?_
  refine ro_iload_n hK 4 rfl dX12_pours_67 rfl ?_
  refine ro_iadd hK dX12_pours_68 ?_
  refine ro_iload hK 0 rfl dX12_pours_69 ?_
  refine ro_isub hK dX12_pours_71 ?_
  obtain ⟨m10, e11, hf⟩ := ro_ld hf
  refine ro_iast hK sh_245 g9 dX12_pours_72 ?_
  refine ro_mv e11 ?_
  refine ro_aload_n hK 1 rfl dX12_pours_73 rfl ?_
  refine ro_getr hK fl_X12_126 sh_207 dX12_pours_74 ?_
  refine ro_iload hK 6 rfl dX12_pours_77 ?_
  refine ro_aload_n hK 1 rfl dX12_pours_79 rfl ?_
  refine ro_getr hK fl_X12_126 sh_207 dX12_pours_80 ?_
  refine ro_iload hK 6 rfl dX12_pours_83 ?_
  obtain ⟨g12, hf⟩ := ro_gd hf
  refine ro_iald hK sh_246 g12 dX12_pours_85 ?_
  refine ro_iload_n hK 4 rfl dX12_pours_86 rfl ?_
  refine ro_iadd hK dX12_pours_87 ?_
  refine ro_iload hK 0 rfl dX12_pours_88 ?_
  refine ro_isub hK dX12_pours_90 ?_
  obtain ⟨m13, e14, hf⟩ := ro_ld hf
  refine ro_iast hK sh_246 g12 dX12_pours_91 ?_
  refine ro_mv e14 ?_
  obtain rfl := Option.some.inj hf
  exact ro_vret hK hR dX12_pours_92 hq
theorem mt_X12_pours (l : Launch) (G : ro_G) {v1 : Int32} {v2 : Int32} {v3 : Int32} {v4 : Int32} {v5 : Int32}  {μ : ro_Mem} {out : ro_Mem} (hf : fn_X12_pours v1 v2 v3 v4 v5 μ = some out) : ro_MX l G yX12_pours cX12_pours 7 none 1 [.ref (ro_ad G 207), .int v1, .int v2, .int v3, .int v4, .int v5] μ none out := by
  refine ro_MX.of (by decide +kernel) (Nat.le_of_ble_eq_true rfl) (fun K hG hl hq hK hR => ?_)
  subst hG
  exact be_X12_pours hK hR  hf hq
-- ===== X12_falls =====
theorem dX12_falls_0 : decode cX12_falls 0 = .ok (.aload_n 0, 1) := by decide +kernel
theorem dX12_falls_1 : decode cX12_falls 1 = .ok (.getfield 20, 3) := by decide +kernel
theorem dX12_falls_4 : decode cX12_falls 4 = .ok (.iload_n 3, 1) := by decide +kernel
theorem dX12_falls_5 : decode cX12_falls 5 = .ok (.iaload, 1) := by decide +kernel
theorem dX12_falls_6 : decode cX12_falls 6 = .ok (.istore 4, 2) := by decide +kernel
theorem dX12_falls_8 : decode cX12_falls 8 = .ok (.aload_n 0, 1) := by decide +kernel
theorem dX12_falls_9 : decode cX12_falls 9 = .ok (.getfield 111, 3) := by decide +kernel
theorem dX12_falls_12 : decode cX12_falls 12 = .ok (.bipush 16, 2) := by decide +kernel
theorem dX12_falls_14 : decode cX12_falls 14 = .ok (.iload_n 2, 1) := by decide +kernel
theorem dX12_falls_15 : decode cX12_falls 15 = .ok (.imul, 1) := by decide +kernel
theorem dX12_falls_16 : decode cX12_falls 16 = .ok (.iload_n 3, 1) := by decide +kernel
theorem dX12_falls_17 : decode cX12_falls 17 = .ok (.iadd, 1) := by decide +kernel
theorem dX12_falls_18 : decode cX12_falls 18 = .ok (.iaload, 1) := by decide +kernel
theorem dX12_falls_19 : decode cX12_falls 19 = .ok (.istore 5, 2) := by decide +kernel
theorem dX12_falls_21 : decode cX12_falls 21 = .ok (.aload_n 0, 1) := by decide +kernel
theorem dX12_falls_22 : decode cX12_falls 22 = .ok (.getfield 7, 3) := by decide +kernel
theorem dX12_falls_25 : decode cX12_falls 25 = .ok (.iload 4, 2) := by decide +kernel
theorem dX12_falls_27 : decode cX12_falls 27 = .ok (.baload, 1) := by decide +kernel
theorem dX12_falls_28 : decode cX12_falls 28 = .ok (.ifCond .ne 15, 3) := by decide +kernel
theorem dX12_falls_31 : decode cX12_falls 31 = .ok (.aload_n 0, 1) := by decide +kernel
theorem dX12_falls_32 : decode cX12_falls 32 = .ok (.iload_n 1, 1) := by decide +kernel
theorem dX12_falls_33 : decode cX12_falls 33 = .ok (.iload 4, 2) := by decide +kernel
theorem dX12_falls_35 : decode cX12_falls 35 = .ok (.iload 5, 2) := by decide +kernel
theorem dX12_falls_37 : decode cX12_falls 37 = .ok (.iload_n 2, 1) := by decide +kernel
theorem dX12_falls_38 : decode cX12_falls 38 = .ok (.iload_n 3, 1) := by decide +kernel
theorem dX12_falls_39 : decode cX12_falls 39 = .ok (.invokevirtual 438, 3) := by decide +kernel
theorem dX12_falls_42 : decode cX12_falls 42 = .ok (.return_, 1) := by decide +kernel
theorem dX12_falls_43 : decode cX12_falls 43 = .ok (.iload 4, 2) := by decide +kernel
theorem dX12_falls_45 : decode cX12_falls 45 = .ok (.bipush 12, 2) := by decide +kernel
theorem dX12_falls_47 : decode cX12_falls 47 = .ok (.irem, 1) := by decide +kernel
theorem dX12_falls_48 : decode cX12_falls 48 = .ok (.ifCond .le 18, 3) := by decide +kernel
theorem dX12_falls_51 : decode cX12_falls 51 = .ok (.aload_n 0, 1) := by decide +kernel
theorem dX12_falls_52 : decode cX12_falls 52 = .ok (.iload_n 1, 1) := by decide +kernel
theorem dX12_falls_53 : decode cX12_falls 53 = .ok (.iload 4, 2) := by decide +kernel
theorem dX12_falls_55 : decode cX12_falls 55 = .ok (.iconst 1, 1) := by decide +kernel
theorem dX12_falls_56 : decode cX12_falls 56 = .ok (.isub, 1) := by decide +kernel
theorem dX12_falls_57 : decode cX12_falls 57 = .ok (.iload 5, 2) := by decide +kernel
theorem dX12_falls_59 : decode cX12_falls 59 = .ok (.iconst 3, 1) := by decide +kernel
theorem dX12_falls_60 : decode cX12_falls 60 = .ok (.idiv, 1) := by decide +kernel
theorem dX12_falls_61 : decode cX12_falls 61 = .ok (.iload_n 2, 1) := by decide +kernel
theorem dX12_falls_62 : decode cX12_falls 62 = .ok (.iload_n 3, 1) := by decide +kernel
theorem dX12_falls_63 : decode cX12_falls 63 = .ok (.invokevirtual 438, 3) := by decide +kernel
theorem dX12_falls_66 : decode cX12_falls 66 = .ok (.iload 4, 2) := by decide +kernel
theorem dX12_falls_68 : decode cX12_falls 68 = .ok (.bipush 12, 2) := by decide +kernel
theorem dX12_falls_70 : decode cX12_falls 70 = .ok (.irem, 1) := by decide +kernel
theorem dX12_falls_71 : decode cX12_falls 71 = .ok (.bipush 11, 2) := by decide +kernel
theorem dX12_falls_73 : decode cX12_falls 73 = .ok (.if_icmp .ge 18, 3) := by decide +kernel
theorem dX12_falls_76 : decode cX12_falls 76 = .ok (.aload_n 0, 1) := by decide +kernel
theorem dX12_falls_77 : decode cX12_falls 77 = .ok (.iload_n 1, 1) := by decide +kernel
theorem dX12_falls_78 : decode cX12_falls 78 = .ok (.iload 4, 2) := by decide +kernel
theorem dX12_falls_80 : decode cX12_falls 80 = .ok (.iconst 1, 1) := by decide +kernel
theorem dX12_falls_81 : decode cX12_falls 81 = .ok (.iadd, 1) := by decide +kernel
theorem dX12_falls_82 : decode cX12_falls 82 = .ok (.iload 5, 2) := by decide +kernel
theorem dX12_falls_84 : decode cX12_falls 84 = .ok (.iconst 3, 1) := by decide +kernel
theorem dX12_falls_85 : decode cX12_falls 85 = .ok (.idiv, 1) := by decide +kernel
theorem dX12_falls_86 : decode cX12_falls 86 = .ok (.iload_n 2, 1) := by decide +kernel
theorem dX12_falls_87 : decode cX12_falls 87 = .ok (.iload_n 3, 1) := by decide +kernel
theorem dX12_falls_88 : decode cX12_falls 88 = .ok (.invokevirtual 438, 3) := by decide +kernel
theorem dX12_falls_91 : decode cX12_falls 91 = .ok (.return_, 1) := by decide +kernel
def fj_X12_falls_66 (v1 : Int32) (v2 : Int32) (v3 : Int32) (v4 : Int32) (v5 : Int32) (μ : ro_Mem) : Option ro_Mem :=
  if 11 ≤ (ro_rem v4 12) then
  (some μ)
  else
  ((fn_X12_pours v1 (v4 + 1) (v5 / 3) v2 v3 μ).bind fun q11 =>
  some q11)
theorem bj_X12_falls_66 {K : ro_K} (hK : ro_C K RX12 cX12_falls 6 2) (hR : ro_R K none) {v1 : Int32} {v2 : Int32} {v3 : Int32} {v4 : Int32} {v5 : Int32}   {μ : ro_Mem}  {out : ro_Mem} (hf : fj_X12_falls_66 v1 v2 v3 v4 v5 μ = some out) (hq : kQ K none out) : ro_X K 66 [(0, .ref (ro_ad (kG K) 207)), (1, .int v1), (2, .int v2), (3, .int v3), (4, .int v4), (5, .int v5)] [] μ := by
  unfold fj_X12_falls_66 at hf
  refine ro_iload hK 4 rfl dX12_falls_66 ?_
  refine ro_bipush (v := 12) hK dX12_falls_68 (by decide) ?_
  refine ro_irem hK dX12_falls_70 (by decide) ?_
  refine ro_bipush (v := 11) hK dX12_falls_71 (by decide) ?_
  refine ro_icmp_ge hK 91 dX12_falls_73 (by decide) (fun c10 => ?_) (fun c10 => ?_)
  · have hf := ro_it hf c10
    obtain rfl := Option.some.inj hf
    exact ro_vret hK hR dX12_falls_91 hq
  · have hf := ro_ie hf c10
    refine ro_aload_n hK 0 rfl dX12_falls_76 rfl ?_
    refine ro_iload_n hK 1 rfl dX12_falls_77 rfl ?_
    refine ro_iload hK 4 rfl dX12_falls_78 ?_
    refine ro_iconst (v := 1) hK dX12_falls_80 (by decide) ?_
    refine ro_iadd hK dX12_falls_81 ?_
    refine ro_iload hK 5 rfl dX12_falls_82 ?_
    refine ro_iconst (v := 3) hK dX12_falls_84 (by decide) ?_
    refine ro_idiv hK dX12_falls_85 (by decide) ?_
    refine ro_iload_n hK 2 rfl dX12_falls_86 rfl ?_
    refine ro_iload_n hK 3 rfl dX12_falls_87 rfl ?_
    obtain ⟨q11, e12, hf⟩ := ro_bd hf
    refine ro_callvv hK [.int v1, .int (v4 + 1), .int (v5 / 3), .int v2, .int v3] ml_X12_438 mv_X12_pours (mt_X12_pours (kl K) (kG K)  e12) sh_207 ⟨_, rfl, rfl⟩ (by decide) rfl rfl (Nat.le_of_ble_eq_true rfl) dX12_falls_88 ?_
    obtain rfl := Option.some.inj hf
    exact ro_vret hK hR dX12_falls_91 hq
def fn_X12_falls (v1 : Int32) (v2 : Int32) (v3 : Int32) (μ : ro_Mem) : Option ro_Mem :=
  if ro_in v3 16 then
  (ro_lt (μ 211 v3.toNatClampNeg) fun z2 =>
  if ro_in ((16 * v2) + v3) 512 then
  (ro_lt (μ 241 ((16 * v2) + v3).toNatClampNeg) fun z5 =>
  if ro_in z2 96 then
  (if (μ 208 z2.toNatClampNeg) = 0 then
  ((fn_X12_pours v1 z2 z5 v2 v3 μ).bind fun q15 =>
  some q15)
  else
  (if (ro_rem z2 12) ≤ 0 then
  (fj_X12_falls_66 v1 v2 v3 z2 z5 μ)
  else
  ((fn_X12_pours v1 (z2 - 1) (z5 / 3) v2 v3 μ).bind fun q13 =>
  fj_X12_falls_66 v1 v2 v3 z2 z5 q13))) else none) else none) else none
theorem be_X12_falls {K : ro_K} (hK : ro_C K RX12 cX12_falls 6 2) (hR : ro_R K none) {v1 : Int32} {v2 : Int32} {v3 : Int32}  {μ : ro_Mem} {out : ro_Mem} (hf : fn_X12_falls v1 v2 v3 μ = some out) (hq : kQ K none out) : ro_X K 0 [(0, .ref (ro_ad (kG K) 207)), (1, .int v1), (2, .int v2), (3, .int v3)] [] μ := by
  unfold fn_X12_falls at hf
  refine ro_aload_n hK 0 rfl dX12_falls_0 rfl ?_
  refine ro_getr hK fl_X12_20 sh_207 dX12_falls_1 ?_
  refine ro_iload_n hK 3 rfl dX12_falls_4 rfl ?_
  obtain ⟨g1, hf⟩ := ro_gd hf
  refine ro_iald hK sh_211 g1 dX12_falls_5 ?_
  obtain ⟨z2, e3, hf⟩ := ro_ld hf
  refine ro_iv e3 ?_
  refine ro_istore (L' := [(4, .int z2), (0, .ref (ro_ad (kG K) 207)), (1, .int v1), (2, .int v2), (3, .int v3)]) hK dX12_falls_6 (by decide) rfl ?_
  refine ro_aload_n hK 1 rfl dX12_falls_8 rfl ?_
  refine ro_getr hK fl_X12_111 sh_207 dX12_falls_9 ?_
  refine ro_bipush (v := 16) hK dX12_falls_12 (by decide) ?_
  refine ro_iload_n hK 3 rfl dX12_falls_14 rfl ?_
  refine ro_imul hK dX12_falls_15 ?_
  refine ro_iload_n hK 4 rfl dX12_falls_16 rfl ?_
  refine ro_iadd hK dX12_falls_17 ?_
  obtain ⟨g4, hf⟩ := ro_gd hf
  refine ro_iald hK sh_241 g4 dX12_falls_18 ?_
  obtain ⟨z5, e6, hf⟩ := ro_ld hf
  refine ro_iv e6 ?_
  refine ro_istore (L' := [(5, .int z5), (4, .int z2), (0, .ref (ro_ad (kG K) 207)), (1, .int v1), (2, .int v2), (3, .int v3)]) hK dX12_falls_19 (by decide) rfl ?_
  refine ro_aload_n hK 2 rfl dX12_falls_21 rfl ?_
  refine ro_getr hK fl_X12_7 sh_207 dX12_falls_22 ?_
  refine ro_iload hK 1 rfl dX12_falls_25 ?_
  obtain ⟨g7, hf⟩ := ro_gd hf
  refine ro_zald hK sh_208 g7 dX12_falls_27 ?_
  refine ro_if_ne hK 43 dX12_falls_28 (by decide) (fun c8 => ?_) (fun c8 => ?_)
  · have hf := ro_ie hf c8
    refine ro_iload hK 1 rfl dX12_falls_43 ?_
    refine ro_bipush (v := 12) hK dX12_falls_45 (by decide) ?_
    refine ro_irem hK dX12_falls_47 (by decide) ?_
    refine ro_if_le hK 66 dX12_falls_48 (by decide) (fun c9 => ?_) (fun c9 => ?_)
    · have hf := ro_it hf c9
      refine ro_sub (L' := [(0, .ref (ro_ad (kG K) 207)), (1, .int v1), (2, .int v2), (3, .int v3), (4, .int z2), (5, .int z5)]) [2, 3, 4, 5, 1, 0] rfl ?_
      exact bj_X12_falls_66 hK hR  hf hq
    · have hf := ro_ie hf c9
      refine ro_aload_n hK 2 rfl dX12_falls_51 rfl ?_
      refine ro_iload_n hK 3 rfl dX12_falls_52 rfl ?_
      refine ro_iload hK 1 rfl dX12_falls_53 ?_
      refine ro_iconst (v := 1) hK dX12_falls_55 (by decide) ?_
      refine ro_isub hK dX12_falls_56 ?_
      refine ro_iload hK 0 rfl dX12_falls_57 ?_
      refine ro_iconst (v := 3) hK dX12_falls_59 (by decide) ?_
      refine ro_idiv hK dX12_falls_60 (by decide) ?_
      refine ro_iload_n hK 4 rfl dX12_falls_61 rfl ?_
      refine ro_iload_n hK 5 rfl dX12_falls_62 rfl ?_
      obtain ⟨q13, e14, hf⟩ := ro_bd hf
      refine ro_callvv hK [.int v1, .int (z2 - 1), .int (z5 / 3), .int v2, .int v3] ml_X12_438 mv_X12_pours (mt_X12_pours (kl K) (kG K)  e14) sh_207 ⟨_, rfl, rfl⟩ (by decide) rfl rfl (Nat.le_of_ble_eq_true rfl) dX12_falls_63 ?_
      refine ro_sub (L' := [(0, .ref (ro_ad (kG K) 207)), (1, .int v1), (2, .int v2), (3, .int v3), (4, .int z2), (5, .int z5)]) [2, 3, 4, 5, 1, 0] rfl ?_
      exact bj_X12_falls_66 hK hR  hf hq
  · have hf := ro_it hf c8
    refine ro_aload_n hK 2 rfl dX12_falls_31 rfl ?_
    refine ro_iload_n hK 3 rfl dX12_falls_32 rfl ?_
    refine ro_iload hK 1 rfl dX12_falls_33 ?_
    refine ro_iload hK 0 rfl dX12_falls_35 ?_
    refine ro_iload_n hK 4 rfl dX12_falls_37 rfl ?_
    refine ro_iload_n hK 5 rfl dX12_falls_38 rfl ?_
    obtain ⟨q15, e16, hf⟩ := ro_bd hf
    refine ro_callvv hK [.int v1, .int z2, .int z5, .int v2, .int v3] ml_X12_438 mv_X12_pours (mt_X12_pours (kl K) (kG K)  e16) sh_207 ⟨_, rfl, rfl⟩ (by decide) rfl rfl (Nat.le_of_ble_eq_true rfl) dX12_falls_39 ?_
    obtain rfl := Option.some.inj hf
    exact ro_vret hK hR dX12_falls_42 hq
theorem mt_X12_falls (l : Launch) (G : ro_G) {v1 : Int32} {v2 : Int32} {v3 : Int32}  {μ : ro_Mem} {out : ro_Mem} (hf : fn_X12_falls v1 v2 v3 μ = some out) : ro_MX l G yX12_falls cX12_falls 6 none 2 [.ref (ro_ad G 207), .int v1, .int v2, .int v3] μ none out := by
  refine ro_MX.of (by decide +kernel) (Nat.le_of_ble_eq_true rfl) (fun K hG hl hq hK hR => ?_)
  subst hG
  exact be_X12_falls hK hR  hf hq
-- ===== X12_fallsOf =====
theorem dX12_fallsOf_0 : decode cX12_fallsOf 0 = .ok (.iconst 0, 1) := by decide +kernel
theorem dX12_fallsOf_1 : decode cX12_fallsOf 1 = .ok (.istore 4, 2) := by decide +kernel
theorem dX12_fallsOf_3 : decode cX12_fallsOf 3 = .ok (.iload 4, 2) := by decide +kernel
theorem dX12_fallsOf_5 : decode cX12_fallsOf 5 = .ok (.aload_n 0, 1) := by decide +kernel
theorem dX12_fallsOf_6 : decode cX12_fallsOf 6 = .ok (.getfield 300, 3) := by decide +kernel
theorem dX12_fallsOf_9 : decode cX12_fallsOf 9 = .ok (.if_icmp .ge 78, 3) := by decide +kernel
theorem dX12_fallsOf_12 : decode cX12_fallsOf 12 = .ok (.iconst 0, 1) := by decide +kernel
theorem dX12_fallsOf_13 : decode cX12_fallsOf 13 = .ok (.istore 5, 2) := by decide +kernel
theorem dX12_fallsOf_15 : decode cX12_fallsOf 15 = .ok (.iload 5, 2) := by decide +kernel
theorem dX12_fallsOf_17 : decode cX12_fallsOf 17 = .ok (.bipush 16, 2) := by decide +kernel
theorem dX12_fallsOf_19 : decode cX12_fallsOf 19 = .ok (.if_icmp .ge 62, 3) := by decide +kernel
theorem dX12_fallsOf_22 : decode cX12_fallsOf 22 = .ok (.aload_n 0, 1) := by decide +kernel
theorem dX12_fallsOf_23 : decode cX12_fallsOf 23 = .ok (.getfield 54, 3) := by decide +kernel
theorem dX12_fallsOf_26 : decode cX12_fallsOf 26 = .ok (.iload 4, 2) := by decide +kernel
theorem dX12_fallsOf_28 : decode cX12_fallsOf 28 = .ok (.iaload, 1) := by decide +kernel
theorem dX12_fallsOf_29 : decode cX12_fallsOf 29 = .ok (.iload_n 2, 1) := by decide +kernel
theorem dX12_fallsOf_30 : decode cX12_fallsOf 30 = .ok (.if_icmp .ne 45, 3) := by decide +kernel
theorem dX12_fallsOf_33 : decode cX12_fallsOf 33 = .ok (.aload_n 0, 1) := by decide +kernel
theorem dX12_fallsOf_34 : decode cX12_fallsOf 34 = .ok (.getfield 111, 3) := by decide +kernel
theorem dX12_fallsOf_37 : decode cX12_fallsOf 37 = .ok (.bipush 16, 2) := by decide +kernel
theorem dX12_fallsOf_39 : decode cX12_fallsOf 39 = .ok (.iload 4, 2) := by decide +kernel
theorem dX12_fallsOf_41 : decode cX12_fallsOf 41 = .ok (.imul, 1) := by decide +kernel
theorem dX12_fallsOf_42 : decode cX12_fallsOf 42 = .ok (.iload 5, 2) := by decide +kernel
theorem dX12_fallsOf_44 : decode cX12_fallsOf 44 = .ok (.iadd, 1) := by decide +kernel
theorem dX12_fallsOf_45 : decode cX12_fallsOf 45 = .ok (.iaload, 1) := by decide +kernel
theorem dX12_fallsOf_46 : decode cX12_fallsOf 46 = .ok (.ifCond .le 29, 3) := by decide +kernel
theorem dX12_fallsOf_49 : decode cX12_fallsOf 49 = .ok (.aload_n 0, 1) := by decide +kernel
theorem dX12_fallsOf_50 : decode cX12_fallsOf 50 = .ok (.getfield 114, 3) := by decide +kernel
theorem dX12_fallsOf_53 : decode cX12_fallsOf 53 = .ok (.bipush 16, 2) := by decide +kernel
theorem dX12_fallsOf_55 : decode cX12_fallsOf 55 = .ok (.iload 4, 2) := by decide +kernel
theorem dX12_fallsOf_57 : decode cX12_fallsOf 57 = .ok (.imul, 1) := by decide +kernel
theorem dX12_fallsOf_58 : decode cX12_fallsOf 58 = .ok (.iload 5, 2) := by decide +kernel
theorem dX12_fallsOf_60 : decode cX12_fallsOf 60 = .ok (.iadd, 1) := by decide +kernel
theorem dX12_fallsOf_61 : decode cX12_fallsOf 61 = .ok (.baload, 1) := by decide +kernel
theorem dX12_fallsOf_62 : decode cX12_fallsOf 62 = .ok (.iload_n 3, 1) := by decide +kernel
theorem dX12_fallsOf_63 : decode cX12_fallsOf 63 = .ok (.if_icmp .ne 12, 3) := by decide +kernel
theorem dX12_fallsOf_66 : decode cX12_fallsOf 66 = .ok (.aload_n 0, 1) := by decide +kernel
theorem dX12_fallsOf_67 : decode cX12_fallsOf 67 = .ok (.iload_n 1, 1) := by decide +kernel
theorem dX12_fallsOf_68 : decode cX12_fallsOf 68 = .ok (.iload 4, 2) := by decide +kernel
theorem dX12_fallsOf_70 : decode cX12_fallsOf 70 = .ok (.iload 5, 2) := by decide +kernel
theorem dX12_fallsOf_72 : decode cX12_fallsOf 72 = .ok (.invokevirtual 442, 3) := by decide +kernel
theorem dX12_fallsOf_75 : decode cX12_fallsOf 75 = .ok (.iinc 5 1, 3) := by decide +kernel
theorem dX12_fallsOf_78 : decode cX12_fallsOf 78 = .ok (.goto (-63), 3) := by decide +kernel
theorem dX12_fallsOf_81 : decode cX12_fallsOf 81 = .ok (.iinc 4 1, 3) := by decide +kernel
theorem dX12_fallsOf_84 : decode cX12_fallsOf 84 = .ok (.goto (-81), 3) := by decide +kernel
theorem dX12_fallsOf_87 : decode cX12_fallsOf 87 = .ok (.return_, 1) := by decide +kernel
def ok_X12_fallsOf_3 (K : ro_K) (v1 : Int32) (v2 : Int32) (v3 : Int32) : ro_Mem → Prop := fun e => ro_X K 87 [] [] e
def ok_X12_fallsOf_15 (K : ro_K) (v1 : Int32) (v2 : Int32) (v3 : Int32) (v4 : Int32) : ro_Mem → Prop := fun e => ro_X K 81 [(0, .ref (ro_ad (kG K) 207)), (1, .int v1), (2, .int v2), (3, .int v3), (4, .int v4)] [] e
def fb_X12_fallsOf_15 (v1 : Int32) (v2 : Int32) (v3 : Int32) (v4 : Int32) (rec : (Int32 × ro_Mem) → Option ro_Mem) (v5 : Int32) (μ : ro_Mem) : Option ro_Mem :=
  if 16 ≤ v5 then
  (some μ)
  else
  (if ro_in v4 32 then
  (if (μ 222 v4.toNatClampNeg) = v2 then
  (if ro_in ((16 * v4) + v5) 512 then
  (if (μ 241 ((16 * v4) + v5).toNatClampNeg) ≤ 0 then
  (rec (v5 + 1, μ))
  else
  (if (μ 242 ((16 * v4) + v5).toNatClampNeg) = v3 then
  ((fn_X12_falls v1 v4 v5 μ).bind fun q8 =>
  rec (v5 + 1, q8))
  else
  (rec (v5 + 1, μ)))) else none)
  else
  (rec (v5 + 1, μ))) else none)
theorem bb_X12_fallsOf_15 {K : ro_K} (hK : ro_C K RX12 cX12_fallsOf 6 3) (hR : ro_R K none) {v1 : Int32} {v2 : Int32} {v3 : Int32} {v4 : Int32}  {μ : ro_Mem} {rec : (Int32 × ro_Mem) → Option ro_Mem} {v5 : Int32} {q : ro_Mem} (hrec : ∀ (s : Int32 × ro_Mem) (q : ro_Mem), rec s = some q → ok_X12_fallsOf_15 K v1 v2 v3 v4 q → ro_X K 15 [(0, .ref (ro_ad (kG K) 207)), (1, .int v1), (2, .int v2), (3, .int v3), (4, .int v4), (5, .int s.1)] [] s.2) (hf : fb_X12_fallsOf_15 v1 v2 v3 v4 rec v5 μ = some q) (hq : ok_X12_fallsOf_15 K v1 v2 v3 v4 q) : ro_X K 15 [(0, .ref (ro_ad (kG K) 207)), (1, .int v1), (2, .int v2), (3, .int v3), (4, .int v4), (5, .int v5)] [] μ := by
  unfold fb_X12_fallsOf_15 at hf
  refine ro_iload hK 5 rfl dX12_fallsOf_15 ?_
  refine ro_bipush (v := 16) hK dX12_fallsOf_17 (by decide) ?_
  refine ro_icmp_ge hK 81 dX12_fallsOf_19 (by decide) (fun c2 => ?_) (fun c2 => ?_)
  · have hf := ro_it hf c2
    refine ro_sub (L' := [(0, .ref (ro_ad (kG K) 207)), (1, .int v1), (2, .int v2), (3, .int v3), (4, .int v4)]) [0, 1, 2, 3, 4] rfl ?_
    obtain rfl := Option.some.inj hf
    exact hq
  · have hf := ro_ie hf c2
    refine ro_aload_n hK 0 rfl dX12_fallsOf_22 rfl ?_
    refine ro_getr hK fl_X12_54 sh_207 dX12_fallsOf_23 ?_
    refine ro_iload hK 4 rfl dX12_fallsOf_26 ?_
    obtain ⟨g3, hf⟩ := ro_gd hf
    refine ro_iald hK sh_222 g3 dX12_fallsOf_28 ?_
    refine ro_iload_n hK 2 rfl dX12_fallsOf_29 rfl ?_
    refine ro_icmp_ne hK 75 dX12_fallsOf_30 (by decide) (fun c4 => ?_) (fun c4 => ?_)
    · have hf := ro_ie hf c4
      refine ro_iinc (v := v5 + 1) (L' := [(5, .int (v5 + 1)), (0, .ref (ro_ad (kG K) 207)), (1, .int v1), (2, .int v2), (3, .int v3), (4, .int v4)]) hK 5 rfl dX12_fallsOf_75 rfl (by decide) rfl ?_
      refine ro_goto hK 15 dX12_fallsOf_78 (by decide) ?_
      refine ro_sub (L' := [(0, .ref (ro_ad (kG K) 207)), (1, .int v1), (2, .int v2), (3, .int v3), (4, .int v4), (5, .int (v5 + 1))]) [1, 2, 3, 4, 5, 0] rfl ?_
      exact hrec (v5 + 1, μ) _ hf hq
    · have hf := ro_it hf c4
      refine ro_aload_n hK 0 rfl dX12_fallsOf_33 rfl ?_
      refine ro_getr hK fl_X12_111 sh_207 dX12_fallsOf_34 ?_
      refine ro_bipush (v := 16) hK dX12_fallsOf_37 (by decide) ?_
      refine ro_iload hK 4 rfl dX12_fallsOf_39 ?_
      refine ro_imul hK dX12_fallsOf_41 ?_
      refine ro_iload hK 5 rfl dX12_fallsOf_42 ?_
      refine ro_iadd hK dX12_fallsOf_44 ?_
      obtain ⟨g5, hf⟩ := ro_gd hf
      refine ro_iald hK sh_241 g5 dX12_fallsOf_45 ?_
      refine ro_if_le hK 75 dX12_fallsOf_46 (by decide) (fun c6 => ?_) (fun c6 => ?_)
      · have hf := ro_it hf c6
        refine ro_iinc (v := v5 + 1) (L' := [(5, .int (v5 + 1)), (0, .ref (ro_ad (kG K) 207)), (1, .int v1), (2, .int v2), (3, .int v3), (4, .int v4)]) hK 5 rfl dX12_fallsOf_75 rfl (by decide) rfl ?_
        refine ro_goto hK 15 dX12_fallsOf_78 (by decide) ?_
        refine ro_sub (L' := [(0, .ref (ro_ad (kG K) 207)), (1, .int v1), (2, .int v2), (3, .int v3), (4, .int v4), (5, .int (v5 + 1))]) [1, 2, 3, 4, 5, 0] rfl ?_
        exact hrec (v5 + 1, μ) _ hf hq
      · have hf := ro_ie hf c6
        refine ro_aload_n hK 0 rfl dX12_fallsOf_49 rfl ?_
        refine ro_getr hK fl_X12_114 sh_207 dX12_fallsOf_50 ?_
        refine ro_bipush (v := 16) hK dX12_fallsOf_53 (by decide) ?_
        refine ro_iload hK 4 rfl dX12_fallsOf_55 ?_
        refine ro_imul hK dX12_fallsOf_57 ?_
        refine ro_iload hK 5 rfl dX12_fallsOf_58 ?_
        refine ro_iadd hK dX12_fallsOf_60 ?_
        refine ro_zald hK sh_242 g5 dX12_fallsOf_61 ?_
        refine ro_iload_n hK 3 rfl dX12_fallsOf_62 rfl ?_
        refine ro_icmp_ne hK 75 dX12_fallsOf_63 (by decide) (fun c7 => ?_) (fun c7 => ?_)
        · have hf := ro_ie hf c7
          refine ro_iinc (v := v5 + 1) (L' := [(5, .int (v5 + 1)), (0, .ref (ro_ad (kG K) 207)), (1, .int v1), (2, .int v2), (3, .int v3), (4, .int v4)]) hK 5 rfl dX12_fallsOf_75 rfl (by decide) rfl ?_
          refine ro_goto hK 15 dX12_fallsOf_78 (by decide) ?_
          refine ro_sub (L' := [(0, .ref (ro_ad (kG K) 207)), (1, .int v1), (2, .int v2), (3, .int v3), (4, .int v4), (5, .int (v5 + 1))]) [1, 2, 3, 4, 5, 0] rfl ?_
          exact hrec (v5 + 1, μ) _ hf hq
        · have hf := ro_it hf c7
          refine ro_aload_n hK 0 rfl dX12_fallsOf_66 rfl ?_
          refine ro_iload_n hK 1 rfl dX12_fallsOf_67 rfl ?_
          refine ro_iload hK 4 rfl dX12_fallsOf_68 ?_
          refine ro_iload hK 5 rfl dX12_fallsOf_70 ?_
          obtain ⟨q8, e9, hf⟩ := ro_bd hf
          refine ro_callvv hK [.int v1, .int v4, .int v5] ml_X12_442 mv_X12_falls (mt_X12_falls (kl K) (kG K)  e9) sh_207 ⟨_, rfl, rfl⟩ (by decide) rfl rfl (Nat.le_of_ble_eq_true rfl) dX12_fallsOf_72 ?_
          refine ro_iinc (v := v5 + 1) (L' := [(5, .int (v5 + 1)), (0, .ref (ro_ad (kG K) 207)), (1, .int v1), (2, .int v2), (3, .int v3), (4, .int v4)]) hK 5 rfl dX12_fallsOf_75 rfl (by decide) rfl ?_
          refine ro_goto hK 15 dX12_fallsOf_78 (by decide) ?_
          refine ro_sub (L' := [(0, .ref (ro_ad (kG K) 207)), (1, .int v1), (2, .int v2), (3, .int v3), (4, .int v4), (5, .int (v5 + 1))]) [1, 2, 3, 4, 5, 0] rfl ?_
          exact hrec (v5 + 1, q8) _ hf hq
def fl_X12_fallsOf_15 (v1 : Int32) (v2 : Int32) (v3 : Int32) (v4 : Int32) : (Int32 × ro_Mem) → Option ro_Mem :=
  ro_loop (fun rec s => fb_X12_fallsOf_15 v1 v2 v3 v4 rec s.1 s.2) ro_FU
theorem lp_X12_fallsOf_15 {K : ro_K} (hK : ro_C K RX12 cX12_fallsOf 6 3) (hR : ro_R K none) {v1 : Int32} {v2 : Int32} {v3 : Int32} {v4 : Int32}  {s : Int32 × ro_Mem} {q : ro_Mem} (hf : fl_X12_fallsOf_15 v1 v2 v3 v4 s = some q) (hq : ok_X12_fallsOf_15 K v1 v2 v3 v4 q) : ro_X K 15 [(0, .ref (ro_ad (kG K) 207)), (1, .int v1), (2, .int v2), (3, .int v3), (4, .int v4), (5, .int s.1)] [] s.2 :=
  ro_loopX (b := fun rec s => fb_X12_fallsOf_15 v1 v2 v3 v4 rec s.1 s.2) (X := fun s => ro_X K 15 [(0, .ref (ro_ad (kG K) 207)), (1, .int v1), (2, .int v2), (3, .int v3), (4, .int v4), (5, .int s.1)] [] s.2) (OK := ok_X12_fallsOf_15 K v1 v2 v3 v4) (fun rec s q hrec hb ho => bb_X12_fallsOf_15 hK hR  hrec hb ho) ro_FU s q hf hq
def fb_X12_fallsOf_3 (v1 : Int32) (v2 : Int32) (v3 : Int32) (rec : (Int32 × ro_Mem) → Option ro_Mem) (v4 : Int32) (μ : ro_Mem) : Option ro_Mem :=
  if (μ 207 18) ≤ v4 then
  (some μ)
  else
  ((fl_X12_fallsOf_15 v1 v2 v3 v4 (0, μ)).bind fun q10 =>
  rec (v4 + 1, q10))
theorem bb_X12_fallsOf_3 {K : ro_K} (hK : ro_C K RX12 cX12_fallsOf 6 3) (hR : ro_R K none) {v1 : Int32} {v2 : Int32} {v3 : Int32}  {μ : ro_Mem} {rec : (Int32 × ro_Mem) → Option ro_Mem} {v4 : Int32} {q : ro_Mem} (hrec : ∀ (s : Int32 × ro_Mem) (q : ro_Mem), rec s = some q → ok_X12_fallsOf_3 K v1 v2 v3 q → ro_X K 3 [(0, .ref (ro_ad (kG K) 207)), (1, .int v1), (2, .int v2), (3, .int v3), (4, .int s.1)] [] s.2) (hf : fb_X12_fallsOf_3 v1 v2 v3 rec v4 μ = some q) (hq : ok_X12_fallsOf_3 K v1 v2 v3 q) : ro_X K 3 [(0, .ref (ro_ad (kG K) 207)), (1, .int v1), (2, .int v2), (3, .int v3), (4, .int v4)] [] μ := by
  unfold fb_X12_fallsOf_3 at hf
  refine ro_iload hK 4 rfl dX12_fallsOf_3 ?_
  refine ro_aload_n hK 0 rfl dX12_fallsOf_5 rfl ?_
  refine ro_geti hK fl_X12_300 sh_207 dX12_fallsOf_6 ?_
  refine ro_icmp_ge hK 87 dX12_fallsOf_9 (by decide) (fun c1 => ?_) (fun c1 => ?_)
  · have hf := ro_it hf c1
    refine ro_sub (L' := []) [] rfl ?_
    obtain rfl := Option.some.inj hf
    exact hq
  · have hf := ro_ie hf c1
    refine ro_iconst (v := 0) hK dX12_fallsOf_12 (by decide) ?_
    refine ro_istore (L' := [(5, .int 0), (0, .ref (ro_ad (kG K) 207)), (1, .int v1), (2, .int v2), (3, .int v3), (4, .int v4)]) hK dX12_fallsOf_13 (by decide) rfl ?_
    obtain ⟨q10, e11, hf⟩ := ro_bd hf
    refine ro_sub (L' := [(0, .ref (ro_ad (kG K) 207)), (1, .int v1), (2, .int v2), (3, .int v3), (4, .int v4), (5, .int 0)]) [1, 2, 3, 4, 5, 0] rfl ?_
    refine lp_X12_fallsOf_15 hK hR  e11 ?_
    show ro_X K 81 [(0, .ref (ro_ad (kG K) 207)), (1, .int v1), (2, .int v2), (3, .int v3), (4, .int v4)] [] q10
    refine ro_iinc (v := v4 + 1) (L' := [(4, .int (v4 + 1)), (0, .ref (ro_ad (kG K) 207)), (1, .int v1), (2, .int v2), (3, .int v3)]) hK 4 rfl dX12_fallsOf_81 rfl (by decide) rfl ?_
    refine ro_goto hK 3 dX12_fallsOf_84 (by decide) ?_
    refine ro_sub (L' := [(0, .ref (ro_ad (kG K) 207)), (1, .int v1), (2, .int v2), (3, .int v3), (4, .int (v4 + 1))]) [1, 2, 3, 4, 0] rfl ?_
    exact hrec (v4 + 1, q10) _ hf hq
def fl_X12_fallsOf_3 (v1 : Int32) (v2 : Int32) (v3 : Int32) : (Int32 × ro_Mem) → Option ro_Mem :=
  ro_loop (fun rec s => fb_X12_fallsOf_3 v1 v2 v3 rec s.1 s.2) ro_FU
theorem lp_X12_fallsOf_3 {K : ro_K} (hK : ro_C K RX12 cX12_fallsOf 6 3) (hR : ro_R K none) {v1 : Int32} {v2 : Int32} {v3 : Int32}  {s : Int32 × ro_Mem} {q : ro_Mem} (hf : fl_X12_fallsOf_3 v1 v2 v3 s = some q) (hq : ok_X12_fallsOf_3 K v1 v2 v3 q) : ro_X K 3 [(0, .ref (ro_ad (kG K) 207)), (1, .int v1), (2, .int v2), (3, .int v3), (4, .int s.1)] [] s.2 :=
  ro_loopX (b := fun rec s => fb_X12_fallsOf_3 v1 v2 v3 rec s.1 s.2) (X := fun s => ro_X K 3 [(0, .ref (ro_ad (kG K) 207)), (1, .int v1), (2, .int v2), (3, .int v3), (4, .int s.1)] [] s.2) (OK := ok_X12_fallsOf_3 K v1 v2 v3) (fun rec s q hrec hb ho => bb_X12_fallsOf_3 hK hR  hrec hb ho) ro_FU s q hf hq
def fn_X12_fallsOf (v1 : Int32) (v2 : Int32) (v3 : Int32) (μ : ro_Mem) : Option ro_Mem :=
  (fl_X12_fallsOf_3 v1 v2 v3 (0, μ)).bind fun q12 =>
  some q12
theorem be_X12_fallsOf {K : ro_K} (hK : ro_C K RX12 cX12_fallsOf 6 3) (hR : ro_R K none) {v1 : Int32} {v2 : Int32} {v3 : Int32}  {μ : ro_Mem} {out : ro_Mem} (hf : fn_X12_fallsOf v1 v2 v3 μ = some out) (hq : kQ K none out) : ro_X K 0 [(0, .ref (ro_ad (kG K) 207)), (1, .int v1), (2, .int v2), (3, .int v3)] [] μ := by
  unfold fn_X12_fallsOf at hf
  refine ro_iconst (v := 0) hK dX12_fallsOf_0 (by decide) ?_
  refine ro_istore (L' := [(4, .int 0), (0, .ref (ro_ad (kG K) 207)), (1, .int v1), (2, .int v2), (3, .int v3)]) hK dX12_fallsOf_1 (by decide) rfl ?_
  obtain ⟨q12, e13, hf⟩ := ro_bd hf
  refine ro_sub (L' := [(0, .ref (ro_ad (kG K) 207)), (1, .int v1), (2, .int v2), (3, .int v3), (4, .int 0)]) [1, 2, 3, 4, 0] rfl ?_
  refine lp_X12_fallsOf_3 hK hR  e13 ?_
  show ro_X K 87 [] [] q12
  obtain rfl := Option.some.inj hf
  exact ro_vret hK hR dX12_fallsOf_87 hq
theorem mt_X12_fallsOf (l : Launch) (G : ro_G) {v1 : Int32} {v2 : Int32} {v3 : Int32}  {μ : ro_Mem} {out : ro_Mem} (hf : fn_X12_fallsOf v1 v2 v3 μ = some out) : ro_MX l G yX12_fallsOf cX12_fallsOf 6 none 3 [.ref (ro_ad G 207), .int v1, .int v2, .int v3] μ none out := by
  refine ro_MX.of (by decide +kernel) (Nat.le_of_ble_eq_true rfl) (fun K hG hl hq hK hR => ?_)
  subst hG
  exact be_X12_fallsOf hK hR  hf hq
-- ===== X12_evening =====
theorem dX12_evening_0 : decode cX12_evening 0 = .ok (.aload_n 0, 1) := by decide +kernel
theorem dX12_evening_1 : decode cX12_evening 1 = .ok (.invokevirtual 426, 3) := by decide +kernel
theorem dX12_evening_4 : decode cX12_evening 4 = .ok (.iconst 0, 1) := by decide +kernel
theorem dX12_evening_5 : decode cX12_evening 5 = .ok (.istore_n 1, 1) := by decide +kernel
theorem dX12_evening_6 : decode cX12_evening 6 = .ok (.iload_n 1, 1) := by decide +kernel
theorem dX12_evening_7 : decode cX12_evening 7 = .ok (.sipush 384, 3) := by decide +kernel
theorem dX12_evening_10 : decode cX12_evening 10 = .ok (.if_icmp .ge 16, 3) := by decide +kernel
theorem dX12_evening_13 : decode cX12_evening 13 = .ok (.aload_n 0, 1) := by decide +kernel
theorem dX12_evening_14 : decode cX12_evening 14 = .ok (.getfield 120, 3) := by decide +kernel
theorem dX12_evening_17 : decode cX12_evening 17 = .ok (.iload_n 1, 1) := by decide +kernel
theorem dX12_evening_18 : decode cX12_evening 18 = .ok (.iconst 0, 1) := by decide +kernel
theorem dX12_evening_19 : decode cX12_evening 19 = .ok (.iastore, 1) := by decide +kernel
theorem dX12_evening_20 : decode cX12_evening 20 = .ok (.iinc 1 1, 3) := by decide +kernel
theorem dX12_evening_23 : decode cX12_evening 23 = .ok (.goto (-17), 3) := by decide +kernel
theorem dX12_evening_26 : decode cX12_evening 26 = .ok (.iconst 0, 1) := by decide +kernel
theorem dX12_evening_27 : decode cX12_evening 27 = .ok (.istore_n 1, 1) := by decide +kernel
theorem dX12_evening_28 : decode cX12_evening 28 = .ok (.iload_n 1, 1) := by decide +kernel
theorem dX12_evening_29 : decode cX12_evening 29 = .ok (.bipush 32, 2) := by decide +kernel
theorem dX12_evening_31 : decode cX12_evening 31 = .ok (.if_icmp .ge 16, 3) := by decide +kernel
theorem dX12_evening_34 : decode cX12_evening 34 = .ok (.aload_n 0, 1) := by decide +kernel
theorem dX12_evening_35 : decode cX12_evening 35 = .ok (.getfield 123, 3) := by decide +kernel
theorem dX12_evening_38 : decode cX12_evening 38 = .ok (.iload_n 1, 1) := by decide +kernel
theorem dX12_evening_39 : decode cX12_evening 39 = .ok (.iconst 0, 1) := by decide +kernel
theorem dX12_evening_40 : decode cX12_evening 40 = .ok (.iastore, 1) := by decide +kernel
theorem dX12_evening_41 : decode cX12_evening 41 = .ok (.iinc 1 1, 3) := by decide +kernel
theorem dX12_evening_44 : decode cX12_evening 44 = .ok (.goto (-16), 3) := by decide +kernel
theorem dX12_evening_47 : decode cX12_evening 47 = .ok (.iconst 0, 1) := by decide +kernel
theorem dX12_evening_48 : decode cX12_evening 48 = .ok (.istore_n 1, 1) := by decide +kernel
theorem dX12_evening_49 : decode cX12_evening 49 = .ok (.iload_n 1, 1) := by decide +kernel
theorem dX12_evening_50 : decode cX12_evening 50 = .ok (.bipush 16, 2) := by decide +kernel
theorem dX12_evening_52 : decode cX12_evening 52 = .ok (.if_icmp .ge 16, 3) := by decide +kernel
theorem dX12_evening_55 : decode cX12_evening 55 = .ok (.aload_n 0, 1) := by decide +kernel
theorem dX12_evening_56 : decode cX12_evening 56 = .ok (.getfield 126, 3) := by decide +kernel
theorem dX12_evening_59 : decode cX12_evening 59 = .ok (.iload_n 1, 1) := by decide +kernel
theorem dX12_evening_60 : decode cX12_evening 60 = .ok (.iconst 0, 1) := by decide +kernel
theorem dX12_evening_61 : decode cX12_evening 61 = .ok (.iastore, 1) := by decide +kernel
theorem dX12_evening_62 : decode cX12_evening 62 = .ok (.iinc 1 1, 3) := by decide +kernel
theorem dX12_evening_65 : decode cX12_evening 65 = .ok (.goto (-16), 3) := by decide +kernel
theorem dX12_evening_68 : decode cX12_evening 68 = .ok (.iconst 0, 1) := by decide +kernel
theorem dX12_evening_69 : decode cX12_evening 69 = .ok (.istore_n 1, 1) := by decide +kernel
theorem dX12_evening_70 : decode cX12_evening 70 = .ok (.iload_n 1, 1) := by decide +kernel
theorem dX12_evening_71 : decode cX12_evening 71 = .ok (.iconst 4, 1) := by decide +kernel
theorem dX12_evening_72 : decode cX12_evening 72 = .ok (.if_icmp .ge 51, 3) := by decide +kernel
theorem dX12_evening_75 : decode cX12_evening 75 = .ok (.iconst 0, 1) := by decide +kernel
theorem dX12_evening_76 : decode cX12_evening 76 = .ok (.istore_n 2, 1) := by decide +kernel
theorem dX12_evening_77 : decode cX12_evening 77 = .ok (.iload_n 2, 1) := by decide +kernel
theorem dX12_evening_78 : decode cX12_evening 78 = .ok (.bipush 96, 2) := by decide +kernel
theorem dX12_evening_80 : decode cX12_evening 80 = .ok (.if_icmp .ge 21, 3) := by decide +kernel
theorem dX12_evening_83 : decode cX12_evening 83 = .ok (.aload_n 0, 1) := by decide +kernel
theorem dX12_evening_84 : decode cX12_evening 84 = .ok (.getfield 117, 3) := by decide +kernel
theorem dX12_evening_87 : decode cX12_evening 87 = .ok (.iload_n 2, 1) := by decide +kernel
theorem dX12_evening_88 : decode cX12_evening 88 = .ok (.aload_n 0, 1) := by decide +kernel
theorem dX12_evening_89 : decode cX12_evening 89 = .ok (.getfield 13, 3) := by decide +kernel
theorem dX12_evening_92 : decode cX12_evening 92 = .ok (.iload_n 2, 1) := by decide +kernel
theorem dX12_evening_93 : decode cX12_evening 93 = .ok (.iaload, 1) := by decide +kernel
theorem dX12_evening_94 : decode cX12_evening 94 = .ok (.iastore, 1) := by decide +kernel
theorem dX12_evening_95 : decode cX12_evening 95 = .ok (.iinc 2 1, 3) := by decide +kernel
theorem dX12_evening_98 : decode cX12_evening 98 = .ok (.goto (-21), 3) := by decide +kernel
theorem dX12_evening_101 : decode cX12_evening 101 = .ok (.aload_n 0, 1) := by decide +kernel
theorem dX12_evening_102 : decode cX12_evening 102 = .ok (.iload_n 1, 1) := by decide +kernel
theorem dX12_evening_103 : decode cX12_evening 103 = .ok (.iload_n 1, 1) := by decide +kernel
theorem dX12_evening_104 : decode cX12_evening 104 = .ok (.iconst 1, 1) := by decide +kernel
theorem dX12_evening_105 : decode cX12_evening 105 = .ok (.isub, 1) := by decide +kernel
theorem dX12_evening_106 : decode cX12_evening 106 = .ok (.iconst 1, 1) := by decide +kernel
theorem dX12_evening_107 : decode cX12_evening 107 = .ok (.invokevirtual 446, 3) := by decide +kernel
theorem dX12_evening_110 : decode cX12_evening 110 = .ok (.aload_n 0, 1) := by decide +kernel
theorem dX12_evening_111 : decode cX12_evening 111 = .ok (.iload_n 1, 1) := by decide +kernel
theorem dX12_evening_112 : decode cX12_evening 112 = .ok (.iload_n 1, 1) := by decide +kernel
theorem dX12_evening_113 : decode cX12_evening 113 = .ok (.iconst 0, 1) := by decide +kernel
theorem dX12_evening_114 : decode cX12_evening 114 = .ok (.invokevirtual 446, 3) := by decide +kernel
theorem dX12_evening_117 : decode cX12_evening 117 = .ok (.iinc 1 1, 3) := by decide +kernel
theorem dX12_evening_120 : decode cX12_evening 120 = .ok (.goto (-50), 3) := by decide +kernel
theorem dX12_evening_123 : decode cX12_evening 123 = .ok (.return_, 1) := by decide +kernel
def ok_X12_evening_6 (K : ro_K)  : ro_Mem → Prop := fun e => ro_X K 26 [(0, .ref (ro_ad (kG K) 207))] [] e
def fb_X12_evening_6  (rec : (Int32 × ro_Mem) → Option ro_Mem) (v1 : Int32) (μ : ro_Mem) : Option ro_Mem :=
  if 384 ≤ v1 then
  (some μ)
  else
  (if ro_in v1 384 then
  (ro_lt (ro_set μ 244 v1.toNatClampNeg 0) fun m5 =>
  rec (v1 + 1, m5)) else none)
theorem bb_X12_evening_6 {K : ro_K} (hK : ro_C K RX12 cX12_evening 3 5) (hR : ro_R K none)   {μ : ro_Mem} {rec : (Int32 × ro_Mem) → Option ro_Mem} {v1 : Int32} {q : ro_Mem} (hrec : ∀ (s : Int32 × ro_Mem) (q : ro_Mem), rec s = some q → ok_X12_evening_6 K q → ro_X K 6 [(0, .ref (ro_ad (kG K) 207)), (1, .int s.1)] [] s.2) (hf : fb_X12_evening_6 rec v1 μ = some q) (hq : ok_X12_evening_6 K q) : ro_X K 6 [(0, .ref (ro_ad (kG K) 207)), (1, .int v1)] [] μ := by
  unfold fb_X12_evening_6 at hf
  refine ro_iload_n hK 1 rfl dX12_evening_6 rfl ?_
  refine ro_sipush (v := 384) hK dX12_evening_7 (by decide) ?_
  refine ro_icmp_ge hK 26 dX12_evening_10 (by decide) (fun c3 => ?_) (fun c3 => ?_)
  · have hf := ro_it hf c3
    refine ro_sub (L' := [(0, .ref (ro_ad (kG K) 207))]) [0] rfl ?_
    obtain rfl := Option.some.inj hf
    exact hq
  · have hf := ro_ie hf c3
    refine ro_aload_n hK 0 rfl dX12_evening_13 rfl ?_
    refine ro_getr hK fl_X12_120 sh_207 dX12_evening_14 ?_
    refine ro_iload_n hK 1 rfl dX12_evening_17 rfl ?_
    refine ro_iconst (v := 0) hK dX12_evening_18 (by decide) ?_
    obtain ⟨g4, hf⟩ := ro_gd hf
    obtain ⟨m5, e6, hf⟩ := ro_ld hf
    refine ro_iast hK sh_244 g4 dX12_evening_19 ?_
    refine ro_mv e6 ?_
    refine ro_iinc (v := v1 + 1) (L' := [(1, .int (v1 + 1)), (0, .ref (ro_ad (kG K) 207))]) hK 1 rfl dX12_evening_20 rfl (by decide) rfl ?_
    refine ro_goto hK 6 dX12_evening_23 (by decide) ?_
    refine ro_sub (L' := [(0, .ref (ro_ad (kG K) 207)), (1, .int (v1 + 1))]) [1, 0] rfl ?_
    exact hrec (v1 + 1, m5) _ hf hq
def fl_X12_evening_6  : (Int32 × ro_Mem) → Option ro_Mem :=
  ro_loop (fun rec s => fb_X12_evening_6 rec s.1 s.2) ro_FU
theorem lp_X12_evening_6 {K : ro_K} (hK : ro_C K RX12 cX12_evening 3 5) (hR : ro_R K none)   {s : Int32 × ro_Mem} {q : ro_Mem} (hf : fl_X12_evening_6 s = some q) (hq : ok_X12_evening_6 K q) : ro_X K 6 [(0, .ref (ro_ad (kG K) 207)), (1, .int s.1)] [] s.2 :=
  ro_loopX (b := fun rec s => fb_X12_evening_6 rec s.1 s.2) (X := fun s => ro_X K 6 [(0, .ref (ro_ad (kG K) 207)), (1, .int s.1)] [] s.2) (OK := ok_X12_evening_6 K) (fun rec s q hrec hb ho => bb_X12_evening_6 hK hR  hrec hb ho) ro_FU s q hf hq
def ok_X12_evening_28 (K : ro_K)  : ro_Mem → Prop := fun e => ro_X K 47 [(0, .ref (ro_ad (kG K) 207))] [] e
def fb_X12_evening_28  (rec : (Int32 × ro_Mem) → Option ro_Mem) (v1 : Int32) (μ : ro_Mem) : Option ro_Mem :=
  if 32 ≤ v1 then
  (some μ)
  else
  (if ro_in v1 32 then
  (ro_lt (ro_set μ 245 v1.toNatClampNeg 0) fun m11 =>
  rec (v1 + 1, m11)) else none)
theorem bb_X12_evening_28 {K : ro_K} (hK : ro_C K RX12 cX12_evening 3 5) (hR : ro_R K none)   {μ : ro_Mem} {rec : (Int32 × ro_Mem) → Option ro_Mem} {v1 : Int32} {q : ro_Mem} (hrec : ∀ (s : Int32 × ro_Mem) (q : ro_Mem), rec s = some q → ok_X12_evening_28 K q → ro_X K 28 [(0, .ref (ro_ad (kG K) 207)), (1, .int s.1)] [] s.2) (hf : fb_X12_evening_28 rec v1 μ = some q) (hq : ok_X12_evening_28 K q) : ro_X K 28 [(0, .ref (ro_ad (kG K) 207)), (1, .int v1)] [] μ := by
  unfold fb_X12_evening_28 at hf
  refine ro_iload_n hK 1 rfl dX12_evening_28 rfl ?_
  refine ro_bipush (v := 32) hK dX12_evening_29 (by decide) ?_
  refine ro_icmp_ge hK 47 dX12_evening_31 (by decide) (fun c9 => ?_) (fun c9 => ?_)
  · have hf := ro_it hf c9
    refine ro_sub (L' := [(0, .ref (ro_ad (kG K) 207))]) [0] rfl ?_
    obtain rfl := Option.some.inj hf
    exact hq
  · have hf := ro_ie hf c9
    refine ro_aload_n hK 0 rfl dX12_evening_34 rfl ?_
    refine ro_getr hK fl_X12_123 sh_207 dX12_evening_35 ?_
    refine ro_iload_n hK 1 rfl dX12_evening_38 rfl ?_
    refine ro_iconst (v := 0) hK dX12_evening_39 (by decide) ?_
    obtain ⟨g10, hf⟩ := ro_gd hf
    obtain ⟨m11, e12, hf⟩ := ro_ld hf
    refine ro_iast hK sh_245 g10 dX12_evening_40 ?_
    refine ro_mv e12 ?_
    refine ro_iinc (v := v1 + 1) (L' := [(1, .int (v1 + 1)), (0, .ref (ro_ad (kG K) 207))]) hK 1 rfl dX12_evening_41 rfl (by decide) rfl ?_
    refine ro_goto hK 28 dX12_evening_44 (by decide) ?_
    refine ro_sub (L' := [(0, .ref (ro_ad (kG K) 207)), (1, .int (v1 + 1))]) [1, 0] rfl ?_
    exact hrec (v1 + 1, m11) _ hf hq
def fl_X12_evening_28  : (Int32 × ro_Mem) → Option ro_Mem :=
  ro_loop (fun rec s => fb_X12_evening_28 rec s.1 s.2) ro_FU
theorem lp_X12_evening_28 {K : ro_K} (hK : ro_C K RX12 cX12_evening 3 5) (hR : ro_R K none)   {s : Int32 × ro_Mem} {q : ro_Mem} (hf : fl_X12_evening_28 s = some q) (hq : ok_X12_evening_28 K q) : ro_X K 28 [(0, .ref (ro_ad (kG K) 207)), (1, .int s.1)] [] s.2 :=
  ro_loopX (b := fun rec s => fb_X12_evening_28 rec s.1 s.2) (X := fun s => ro_X K 28 [(0, .ref (ro_ad (kG K) 207)), (1, .int s.1)] [] s.2) (OK := ok_X12_evening_28 K) (fun rec s q hrec hb ho => bb_X12_evening_28 hK hR  hrec hb ho) ro_FU s q hf hq
def ok_X12_evening_49 (K : ro_K)  : ro_Mem → Prop := fun e => ro_X K 68 [(0, .ref (ro_ad (kG K) 207))] [] e
def fb_X12_evening_49  (rec : (Int32 × ro_Mem) → Option ro_Mem) (v1 : Int32) (μ : ro_Mem) : Option ro_Mem :=
  if 16 ≤ v1 then
  (some μ)
  else
  (if ro_in v1 16 then
  (ro_lt (ro_set μ 246 v1.toNatClampNeg 0) fun m17 =>
  rec (v1 + 1, m17)) else none)
theorem bb_X12_evening_49 {K : ro_K} (hK : ro_C K RX12 cX12_evening 3 5) (hR : ro_R K none)   {μ : ro_Mem} {rec : (Int32 × ro_Mem) → Option ro_Mem} {v1 : Int32} {q : ro_Mem} (hrec : ∀ (s : Int32 × ro_Mem) (q : ro_Mem), rec s = some q → ok_X12_evening_49 K q → ro_X K 49 [(0, .ref (ro_ad (kG K) 207)), (1, .int s.1)] [] s.2) (hf : fb_X12_evening_49 rec v1 μ = some q) (hq : ok_X12_evening_49 K q) : ro_X K 49 [(0, .ref (ro_ad (kG K) 207)), (1, .int v1)] [] μ := by
  unfold fb_X12_evening_49 at hf
  refine ro_iload_n hK 1 rfl dX12_evening_49 rfl ?_
  refine ro_bipush (v := 16) hK dX12_evening_50 (by decide) ?_
  refine ro_icmp_ge hK 68 dX12_evening_52 (by decide) (fun c15 => ?_) (fun c15 => ?_)
  · have hf := ro_it hf c15
    refine ro_sub (L' := [(0, .ref (ro_ad (kG K) 207))]) [0] rfl ?_
    obtain rfl := Option.some.inj hf
    exact hq
  · have hf := ro_ie hf c15
    refine ro_aload_n hK 0 rfl dX12_evening_55 rfl ?_
    refine ro_getr hK fl_X12_126 sh_207 dX12_evening_56 ?_
    refine ro_iload_n hK 1 rfl dX12_evening_59 rfl ?_
    refine ro_iconst (v := 0) hK dX12_evening_60 (by decide) ?_
    obtain ⟨g16, hf⟩ := ro_gd hf
    obtain ⟨m17, e18, hf⟩ := ro_ld hf
    refine ro_iast hK sh_246 g16 dX12_evening_61 ?_
    refine ro_mv e18 ?_
    refine ro_iinc (v := v1 + 1) (L' := [(1, .int (v1 + 1)), (0, .ref (ro_ad (kG K) 207))]) hK 1 rfl dX12_evening_62 rfl (by decide) rfl ?_
    refine ro_goto hK 49 dX12_evening_65 (by decide) ?_
    refine ro_sub (L' := [(0, .ref (ro_ad (kG K) 207)), (1, .int (v1 + 1))]) [1, 0] rfl ?_
    exact hrec (v1 + 1, m17) _ hf hq
def fl_X12_evening_49  : (Int32 × ro_Mem) → Option ro_Mem :=
  ro_loop (fun rec s => fb_X12_evening_49 rec s.1 s.2) ro_FU
theorem lp_X12_evening_49 {K : ro_K} (hK : ro_C K RX12 cX12_evening 3 5) (hR : ro_R K none)   {s : Int32 × ro_Mem} {q : ro_Mem} (hf : fl_X12_evening_49 s = some q) (hq : ok_X12_evening_49 K q) : ro_X K 49 [(0, .ref (ro_ad (kG K) 207)), (1, .int s.1)] [] s.2 :=
  ro_loopX (b := fun rec s => fb_X12_evening_49 rec s.1 s.2) (X := fun s => ro_X K 49 [(0, .ref (ro_ad (kG K) 207)), (1, .int s.1)] [] s.2) (OK := ok_X12_evening_49 K) (fun rec s q hrec hb ho => bb_X12_evening_49 hK hR  hrec hb ho) ro_FU s q hf hq
def ok_X12_evening_70 (K : ro_K)  : ro_Mem → Prop := fun e => ro_X K 123 [] [] e
def ok_X12_evening_77 (K : ro_K) (v1 : Int32) : ro_Mem → Prop := fun e => ro_X K 101 [(0, .ref (ro_ad (kG K) 207)), (1, .int v1)] [] e
def fb_X12_evening_77 (v1 : Int32) (rec : (Int32 × ro_Mem) → Option ro_Mem) (v2 : Int32) (μ : ro_Mem) : Option ro_Mem :=
  if 96 ≤ v2 then
  (some μ)
  else
  (if ro_in v2 96 then
  (ro_lt (ro_set μ 243 v2.toNatClampNeg (μ 209 v2.toNatClampNeg)) fun m24 =>
  rec (v2 + 1, m24)) else none)
theorem bb_X12_evening_77 {K : ro_K} (hK : ro_C K RX12 cX12_evening 3 5) (hR : ro_R K none) {v1 : Int32}  {μ : ro_Mem} {rec : (Int32 × ro_Mem) → Option ro_Mem} {v2 : Int32} {q : ro_Mem} (hrec : ∀ (s : Int32 × ro_Mem) (q : ro_Mem), rec s = some q → ok_X12_evening_77 K v1 q → ro_X K 77 [(0, .ref (ro_ad (kG K) 207)), (1, .int v1), (2, .int s.1)] [] s.2) (hf : fb_X12_evening_77 v1 rec v2 μ = some q) (hq : ok_X12_evening_77 K v1 q) : ro_X K 77 [(0, .ref (ro_ad (kG K) 207)), (1, .int v1), (2, .int v2)] [] μ := by
  unfold fb_X12_evening_77 at hf
  refine ro_iload_n hK 2 rfl dX12_evening_77 rfl ?_
  refine ro_bipush (v := 96) hK dX12_evening_78 (by decide) ?_
  refine ro_icmp_ge hK 101 dX12_evening_80 (by decide) (fun c22 => ?_) (fun c22 => ?_)
  · have hf := ro_it hf c22
    refine ro_sub (L' := [(0, .ref (ro_ad (kG K) 207)), (1, .int v1)]) [0, 1] rfl ?_
    obtain rfl := Option.some.inj hf
    exact hq
  · have hf := ro_ie hf c22
    refine ro_aload_n hK 0 rfl dX12_evening_83 rfl ?_
    refine ro_getr hK fl_X12_117 sh_207 dX12_evening_84 ?_
    refine ro_iload_n hK 2 rfl dX12_evening_87 rfl ?_
    refine ro_aload_n hK 0 rfl dX12_evening_88 rfl ?_
    refine ro_getr hK fl_X12_13 sh_207 dX12_evening_89 ?_
    refine ro_iload_n hK 2 rfl dX12_evening_92 rfl ?_
    obtain ⟨g23, hf⟩ := ro_gd hf
    refine ro_iald hK sh_209 g23 dX12_evening_93 ?_
    obtain ⟨m24, e25, hf⟩ := ro_ld hf
    refine ro_iast hK sh_243 g23 dX12_evening_94 ?_
    refine ro_mv e25 ?_
    refine ro_iinc (v := v2 + 1) (L' := [(2, .int (v2 + 1)), (0, .ref (ro_ad (kG K) 207)), (1, .int v1)]) hK 2 rfl dX12_evening_95 rfl (by decide) rfl ?_
    refine ro_goto hK 77 dX12_evening_98 (by decide) ?_
    refine ro_sub (L' := [(0, .ref (ro_ad (kG K) 207)), (1, .int v1), (2, .int (v2 + 1))]) [1, 2, 0] rfl ?_
    exact hrec (v2 + 1, m24) _ hf hq
def fl_X12_evening_77 (v1 : Int32) : (Int32 × ro_Mem) → Option ro_Mem :=
  ro_loop (fun rec s => fb_X12_evening_77 v1 rec s.1 s.2) ro_FU
theorem lp_X12_evening_77 {K : ro_K} (hK : ro_C K RX12 cX12_evening 3 5) (hR : ro_R K none) {v1 : Int32}  {s : Int32 × ro_Mem} {q : ro_Mem} (hf : fl_X12_evening_77 v1 s = some q) (hq : ok_X12_evening_77 K v1 q) : ro_X K 77 [(0, .ref (ro_ad (kG K) 207)), (1, .int v1), (2, .int s.1)] [] s.2 :=
  ro_loopX (b := fun rec s => fb_X12_evening_77 v1 rec s.1 s.2) (X := fun s => ro_X K 77 [(0, .ref (ro_ad (kG K) 207)), (1, .int v1), (2, .int s.1)] [] s.2) (OK := ok_X12_evening_77 K v1) (fun rec s q hrec hb ho => bb_X12_evening_77 hK hR  hrec hb ho) ro_FU s q hf hq
def fb_X12_evening_70  (rec : (Int32 × ro_Mem) → Option ro_Mem) (v1 : Int32) (μ : ro_Mem) : Option ro_Mem :=
  if 4 ≤ v1 then
  (some μ)
  else
  ((fl_X12_evening_77 v1 (0, μ)).bind fun q26 =>
  (fn_X12_fallsOf v1 (v1 - 1) 1 q26).bind fun q28 =>
  (fn_X12_fallsOf v1 v1 0 q28).bind fun q30 =>
  rec (v1 + 1, q30))
theorem bb_X12_evening_70 {K : ro_K} (hK : ro_C K RX12 cX12_evening 3 5) (hR : ro_R K none)   {μ : ro_Mem} {rec : (Int32 × ro_Mem) → Option ro_Mem} {v1 : Int32} {q : ro_Mem} (hrec : ∀ (s : Int32 × ro_Mem) (q : ro_Mem), rec s = some q → ok_X12_evening_70 K q → ro_X K 70 [(0, .ref (ro_ad (kG K) 207)), (1, .int s.1)] [] s.2) (hf : fb_X12_evening_70 rec v1 μ = some q) (hq : ok_X12_evening_70 K q) : ro_X K 70 [(0, .ref (ro_ad (kG K) 207)), (1, .int v1)] [] μ := by
  unfold fb_X12_evening_70 at hf
  refine ro_iload_n hK 1 rfl dX12_evening_70 rfl ?_
  refine ro_iconst (v := 4) hK dX12_evening_71 (by decide) ?_
  refine ro_icmp_ge hK 123 dX12_evening_72 (by decide) (fun c21 => ?_) (fun c21 => ?_)
  · have hf := ro_it hf c21
    refine ro_sub (L' := []) [] rfl ?_
    obtain rfl := Option.some.inj hf
    exact hq
  · have hf := ro_ie hf c21
    refine ro_iconst (v := 0) hK dX12_evening_75 (by decide) ?_
    refine ro_istore_n (L' := [(2, .int 0), (0, .ref (ro_ad (kG K) 207)), (1, .int v1)]) hK dX12_evening_76 rfl (by decide) rfl ?_
    obtain ⟨q26, e27, hf⟩ := ro_bd hf
    refine ro_sub (L' := [(0, .ref (ro_ad (kG K) 207)), (1, .int v1), (2, .int 0)]) [1, 2, 0] rfl ?_
    refine lp_X12_evening_77 hK hR  e27 ?_
    show ro_X K 101 [(0, .ref (ro_ad (kG K) 207)), (1, .int v1)] [] q26
    refine ro_aload_n hK 0 rfl dX12_evening_101 rfl ?_
    refine ro_iload_n hK 1 rfl dX12_evening_102 rfl ?_
    refine ro_iload_n hK 1 rfl dX12_evening_103 rfl ?_
    refine ro_iconst (v := 1) hK dX12_evening_104 (by decide) ?_
    refine ro_isub hK dX12_evening_105 ?_
    refine ro_iconst (v := 1) hK dX12_evening_106 (by decide) ?_
    obtain ⟨q28, e29, hf⟩ := ro_bd hf
    refine ro_callvv hK [.int v1, .int (v1 - 1), .int 1] ml_X12_446 mv_X12_fallsOf (mt_X12_fallsOf (kl K) (kG K)  e29) sh_207 ⟨_, rfl, rfl⟩ (by decide) rfl rfl (Nat.le_of_ble_eq_true rfl) dX12_evening_107 ?_
    refine ro_aload_n hK 0 rfl dX12_evening_110 rfl ?_
    refine ro_iload_n hK 1 rfl dX12_evening_111 rfl ?_
    refine ro_iload_n hK 1 rfl dX12_evening_112 rfl ?_
    refine ro_iconst (v := 0) hK dX12_evening_113 (by decide) ?_
    obtain ⟨q30, e31, hf⟩ := ro_bd hf
    refine ro_callvv hK [.int v1, .int v1, .int 0] ml_X12_446 mv_X12_fallsOf (mt_X12_fallsOf (kl K) (kG K)  e31) sh_207 ⟨_, rfl, rfl⟩ (by decide) rfl rfl (Nat.le_of_ble_eq_true rfl) dX12_evening_114 ?_
    refine ro_iinc (v := v1 + 1) (L' := [(1, .int (v1 + 1)), (0, .ref (ro_ad (kG K) 207))]) hK 1 rfl dX12_evening_117 rfl (by decide) rfl ?_
    refine ro_goto hK 70 dX12_evening_120 (by decide) ?_
    refine ro_sub (L' := [(0, .ref (ro_ad (kG K) 207)), (1, .int (v1 + 1))]) [1, 0] rfl ?_
    exact hrec (v1 + 1, q30) _ hf hq
def fl_X12_evening_70  : (Int32 × ro_Mem) → Option ro_Mem :=
  ro_loop (fun rec s => fb_X12_evening_70 rec s.1 s.2) ro_FU
theorem lp_X12_evening_70 {K : ro_K} (hK : ro_C K RX12 cX12_evening 3 5) (hR : ro_R K none)   {s : Int32 × ro_Mem} {q : ro_Mem} (hf : fl_X12_evening_70 s = some q) (hq : ok_X12_evening_70 K q) : ro_X K 70 [(0, .ref (ro_ad (kG K) 207)), (1, .int s.1)] [] s.2 :=
  ro_loopX (b := fun rec s => fb_X12_evening_70 rec s.1 s.2) (X := fun s => ro_X K 70 [(0, .ref (ro_ad (kG K) 207)), (1, .int s.1)] [] s.2) (OK := ok_X12_evening_70 K) (fun rec s q hrec hb ho => bb_X12_evening_70 hK hR  hrec hb ho) ro_FU s q hf hq
def fn_X12_evening (μ : ro_Mem) : Option ro_Mem :=
  (fn_X12_laysDrops μ).bind fun q1 =>
  (fl_X12_evening_6  (0, q1)).bind fun q7 =>
  (fl_X12_evening_28  (0, q7)).bind fun q13 =>
  (fl_X12_evening_49  (0, q13)).bind fun q19 =>
  (fl_X12_evening_70  (0, q19)).bind fun q32 =>
  some q32
theorem be_X12_evening {K : ro_K} (hK : ro_C K RX12 cX12_evening 3 5) (hR : ro_R K none)   {μ : ro_Mem} {out : ro_Mem} (hf : fn_X12_evening μ = some out) (hq : kQ K none out) : ro_X K 0 [(0, .ref (ro_ad (kG K) 207))] [] μ := by
  unfold fn_X12_evening at hf
  refine ro_aload_n hK 0 rfl dX12_evening_0 rfl ?_
  obtain ⟨q1, e2, hf⟩ := ro_bd hf
  refine ro_callvv hK [] ml_X12_426 mv_X12_laysDrops (mt_X12_laysDrops (kl K) (kG K)  e2) sh_207 ⟨_, rfl, rfl⟩ (by decide) rfl rfl (Nat.le_of_ble_eq_true rfl) dX12_evening_1 ?_
  refine ro_iconst (v := 0) hK dX12_evening_4 (by decide) ?_
  refine ro_istore_n (L' := [(1, .int 0), (0, .ref (ro_ad (kG K) 207))]) hK dX12_evening_5 rfl (by decide) rfl ?_
  obtain ⟨q7, e8, hf⟩ := ro_bd hf
  refine ro_sub (L' := [(0, .ref (ro_ad (kG K) 207)), (1, .int 0)]) [1, 0] rfl ?_
  refine lp_X12_evening_6 hK hR  e8 ?_
  show ro_X K 26 [(0, .ref (ro_ad (kG K) 207))] [] q7
  refine ro_iconst (v := 0) hK dX12_evening_26 (by decide) ?_
  refine ro_istore_n (L' := [(1, .int 0), (0, .ref (ro_ad (kG K) 207))]) hK dX12_evening_27 rfl (by decide) rfl ?_
  obtain ⟨q13, e14, hf⟩ := ro_bd hf
  refine ro_sub (L' := [(0, .ref (ro_ad (kG K) 207)), (1, .int 0)]) [1, 0] rfl ?_
  refine lp_X12_evening_28 hK hR  e14 ?_
  show ro_X K 47 [(0, .ref (ro_ad (kG K) 207))] [] q13
  refine ro_iconst (v := 0) hK dX12_evening_47 (by decide) ?_
  refine ro_istore_n (L' := [(1, .int 0), (0, .ref (ro_ad (kG K) 207))]) hK dX12_evening_48 rfl (by decide) rfl ?_
  obtain ⟨q19, e20, hf⟩ := ro_bd hf
  refine ro_sub (L' := [(0, .ref (ro_ad (kG K) 207)), (1, .int 0)]) [1, 0] rfl ?_
  refine lp_X12_evening_49 hK hR  e20 ?_
  show ro_X K 68 [(0, .ref (ro_ad (kG K) 207))] [] q19
  refine ro_iconst (v := 0) hK dX12_evening_68 (by decide) ?_
  refine ro_istore_n (L' := [(1, .int 0), (0, .ref (ro_ad (kG K) 207))]) hK dX12_evening_69 rfl (by decide) rfl ?_
  obtain ⟨q32, e33, hf⟩ := ro_bd hf
  refine ro_sub (L' := [(0, .ref (ro_ad (kG K) 207)), (1, .int 0)]) [1, 0] rfl ?_
  refine lp_X12_evening_70 hK hR  e33 ?_
  show ro_X K 123 [] [] q32
  obtain rfl := Option.some.inj hf
  exact ro_vret hK hR dX12_evening_123 hq
theorem mt_X12_evening (l : Launch) (G : ro_G)   {μ : ro_Mem} {out : ro_Mem} (hf : fn_X12_evening μ = some out) : ro_MX l G yX12_evening cX12_evening 3 none 5 [.ref (ro_ad G 207)] μ none out := by
  refine ro_MX.of (by decide +kernel) (Nat.le_of_ble_eq_true rfl) (fun K hG hl hq hK hR => ?_)
  subst hG
  exact be_X12_evening hK hR  hf hq
-- ===== X12_houseAll =====
theorem dX12_houseAll_0 : decode cX12_houseAll 0 = .ok (.iconst 0, 1) := by decide +kernel
theorem dX12_houseAll_1 : decode cX12_houseAll 1 = .ok (.istore_n 1, 1) := by decide +kernel
theorem dX12_houseAll_2 : decode cX12_houseAll 2 = .ok (.iconst 0, 1) := by decide +kernel
theorem dX12_houseAll_3 : decode cX12_houseAll 3 = .ok (.istore_n 2, 1) := by decide +kernel
theorem dX12_houseAll_4 : decode cX12_houseAll 4 = .ok (.iload_n 2, 1) := by decide +kernel
theorem dX12_houseAll_5 : decode cX12_houseAll 5 = .ok (.sipush 384, 3) := by decide +kernel
theorem dX12_houseAll_8 : decode cX12_houseAll 8 = .ok (.if_icmp .ge 18, 3) := by decide +kernel
theorem dX12_houseAll_11 : decode cX12_houseAll 11 = .ok (.iload_n 1, 1) := by decide +kernel
theorem dX12_houseAll_12 : decode cX12_houseAll 12 = .ok (.aload_n 0, 1) := by decide +kernel
theorem dX12_houseAll_13 : decode cX12_houseAll 13 = .ok (.getfield 120, 3) := by decide +kernel
theorem dX12_houseAll_16 : decode cX12_houseAll 16 = .ok (.iload_n 2, 1) := by decide +kernel
theorem dX12_houseAll_17 : decode cX12_houseAll 17 = .ok (.iaload, 1) := by decide +kernel
theorem dX12_houseAll_18 : decode cX12_houseAll 18 = .ok (.iadd, 1) := by decide +kernel
theorem dX12_houseAll_19 : decode cX12_houseAll 19 = .ok (.istore_n 1, 1) := by decide +kernel
theorem dX12_houseAll_20 : decode cX12_houseAll 20 = .ok (.iinc 2 1, 3) := by decide +kernel
theorem dX12_houseAll_23 : decode cX12_houseAll 23 = .ok (.goto (-19), 3) := by decide +kernel
theorem dX12_houseAll_26 : decode cX12_houseAll 26 = .ok (.iload_n 1, 1) := by decide +kernel
theorem dX12_houseAll_27 : decode cX12_houseAll 27 = .ok (.ireturn, 1) := by decide +kernel
def ok_X12_houseAll_4 (K : ro_K)  (μ : ro_Mem) : Int32 → Prop := fun e => ro_X K 26 [(1, .int e)] [] μ
def fb_X12_houseAll_4 (μ : ro_Mem) (rec : (Int32 × Int32) → Option Int32) (v1 : Int32) (v2 : Int32) : Option Int32 :=
  if 384 ≤ v2 then
  (some v1)
  else
  (if ro_in v2 384 then
  (ro_lt (v1 + (μ 244 v2.toNatClampNeg)) fun z3 =>
  rec (z3, v2 + 1)) else none)
theorem bb_X12_houseAll_4 {K : ro_K} (hK : ro_C K RX12 cX12_houseAll 3 0) (hR : ro_R K (some .int))   {μ : ro_Mem} {rec : (Int32 × Int32) → Option Int32} {v1 : Int32} {v2 : Int32} {q : Int32} (hrec : ∀ (s : Int32 × Int32) (q : Int32), rec s = some q → ok_X12_houseAll_4 K μ q → ro_X K 4 [(0, .ref (ro_ad (kG K) 207)), (1, .int s.1), (2, .int s.2)] [] μ) (hf : fb_X12_houseAll_4 μ rec v1 v2 = some q) (hq : ok_X12_houseAll_4 K μ q) : ro_X K 4 [(0, .ref (ro_ad (kG K) 207)), (1, .int v1), (2, .int v2)] [] μ := by
  unfold fb_X12_houseAll_4 at hf
  refine ro_iload_n hK 2 rfl dX12_houseAll_4 rfl ?_
  refine ro_sipush (v := 384) hK dX12_houseAll_5 (by decide) ?_
  refine ro_icmp_ge hK 26 dX12_houseAll_8 (by decide) (fun c1 => ?_) (fun c1 => ?_)
  · have hf := ro_it hf c1
    refine ro_sub (L' := [(1, .int v1)]) [1] rfl ?_
    obtain rfl := Option.some.inj hf
    exact hq
  · have hf := ro_ie hf c1
    refine ro_iload_n hK 1 rfl dX12_houseAll_11 rfl ?_
    refine ro_aload_n hK 0 rfl dX12_houseAll_12 rfl ?_
    refine ro_getr hK fl_X12_120 sh_207 dX12_houseAll_13 ?_
    refine ro_iload_n hK 2 rfl dX12_houseAll_16 rfl ?_
    obtain ⟨g2, hf⟩ := ro_gd hf
    refine ro_iald hK sh_244 g2 dX12_houseAll_17 ?_
    refine ro_iadd hK dX12_houseAll_18 ?_
    obtain ⟨z3, e4, hf⟩ := ro_ld hf
    refine ro_iv e4 ?_
    refine ro_istore_n (L' := [(1, .int z3), (0, .ref (ro_ad (kG K) 207)), (2, .int v2)]) hK dX12_houseAll_19 rfl (by decide) rfl ?_
    refine ro_iinc (v := v2 + 1) (L' := [(2, .int (v2 + 1)), (1, .int z3), (0, .ref (ro_ad (kG K) 207))]) hK 2 rfl dX12_houseAll_20 rfl (by decide) rfl ?_
    refine ro_goto hK 4 dX12_houseAll_23 (by decide) ?_
    refine ro_sub (L' := [(0, .ref (ro_ad (kG K) 207)), (1, .int z3), (2, .int (v2 + 1))]) [2, 1, 0] rfl ?_
    exact hrec (z3, v2 + 1) _ hf hq
def fl_X12_houseAll_4 (μ : ro_Mem) : (Int32 × Int32) → Option Int32 :=
  ro_loop (fun rec s => fb_X12_houseAll_4 μ rec s.1 s.2) ro_FU
theorem lp_X12_houseAll_4 {K : ro_K} (hK : ro_C K RX12 cX12_houseAll 3 0) (hR : ro_R K (some .int))   {μ : ro_Mem} {s : Int32 × Int32} {q : Int32} (hf : fl_X12_houseAll_4 μ s = some q) (hq : ok_X12_houseAll_4 K μ q) : ro_X K 4 [(0, .ref (ro_ad (kG K) 207)), (1, .int s.1), (2, .int s.2)] [] μ :=
  ro_loopX (b := fun rec s => fb_X12_houseAll_4 μ rec s.1 s.2) (X := fun s => ro_X K 4 [(0, .ref (ro_ad (kG K) 207)), (1, .int s.1), (2, .int s.2)] [] μ) (OK := ok_X12_houseAll_4 K μ) (fun rec s q hrec hb ho => bb_X12_houseAll_4 hK hR  hrec hb ho) ro_FU s q hf hq
def fn_X12_houseAll (μ : ro_Mem) : Option Int32 :=
  (fl_X12_houseAll_4 μ (0, 0)).bind fun q5 =>
  some q5
theorem be_X12_houseAll {K : ro_K} (hK : ro_C K RX12 cX12_houseAll 3 0) (hR : ro_R K (some .int))   {μ : ro_Mem} {out : Int32} (hf : fn_X12_houseAll μ = some out) (hq : kQ K (some (.int out)) μ) : ro_X K 0 [(0, .ref (ro_ad (kG K) 207))] [] μ := by
  unfold fn_X12_houseAll at hf
  refine ro_iconst (v := 0) hK dX12_houseAll_0 (by decide) ?_
  refine ro_istore_n (L' := [(1, .int 0), (0, .ref (ro_ad (kG K) 207))]) hK dX12_houseAll_1 rfl (by decide) rfl ?_
  refine ro_iconst (v := 0) hK dX12_houseAll_2 (by decide) ?_
  refine ro_istore_n (L' := [(2, .int 0), (1, .int 0), (0, .ref (ro_ad (kG K) 207))]) hK dX12_houseAll_3 rfl (by decide) rfl ?_
  obtain ⟨q5, e6, hf⟩ := ro_bd hf
  refine ro_sub (L' := [(0, .ref (ro_ad (kG K) 207)), (1, .int 0), (2, .int 0)]) [2, 1, 0] rfl ?_
  refine lp_X12_houseAll_4 hK hR  e6 ?_
  show ro_X K 26 [(1, .int q5)] [] μ
  refine ro_iload_n hK 0 rfl dX12_houseAll_26 rfl ?_
  obtain rfl := Option.some.inj hf
  exact ro_iret hK hR dX12_houseAll_27 hq
theorem mt_X12_houseAll (l : Launch) (G : ro_G)   {μ : ro_Mem} {out : Int32} (hf : fn_X12_houseAll μ = some out) : ro_MX l G yX12_houseAll cX12_houseAll 3 (some .int) 0 [.ref (ro_ad G 207)] μ (some (.int out)) μ := by
  refine ro_MX.of (by decide +kernel) (Nat.le_of_ble_eq_true rfl) (fun K hG hl hq hK hR => ?_)
  subst hG
  exact be_X12_houseAll hK hR  hf hq
-- ===== X12_house =====
theorem dX12_house_0 : decode cX12_house 0 = .ok (.iload_n 1, 1) := by decide +kernel
theorem dX12_house_1 : decode cX12_house 1 = .ok (.ifCond .ne 11, 3) := by decide +kernel
theorem dX12_house_4 : decode cX12_house 4 = .ok (.aload_n 0, 1) := by decide +kernel
theorem dX12_house_5 : decode cX12_house 5 = .ok (.iload_n 2, 1) := by decide +kernel
theorem dX12_house_6 : decode cX12_house 6 = .ok (.invokevirtual 309, 3) := by decide +kernel
theorem dX12_house_9 : decode cX12_house 9 = .ok (.goto 39, 3) := by decide +kernel
theorem dX12_house_12 : decode cX12_house 12 = .ok (.iload_n 1, 1) := by decide +kernel
theorem dX12_house_13 : decode cX12_house 13 = .ok (.iconst 1, 1) := by decide +kernel
theorem dX12_house_14 : decode cX12_house 14 = .ok (.if_icmp .ne 11, 3) := by decide +kernel
theorem dX12_house_17 : decode cX12_house 17 = .ok (.aload_n 0, 1) := by decide +kernel
theorem dX12_house_18 : decode cX12_house 18 = .ok (.iload_n 2, 1) := by decide +kernel
theorem dX12_house_19 : decode cX12_house 19 = .ok (.invokevirtual 222, 3) := by decide +kernel
theorem dX12_house_22 : decode cX12_house 22 = .ok (.goto 26, 3) := by decide +kernel
theorem dX12_house_25 : decode cX12_house 25 = .ok (.iload_n 1, 1) := by decide +kernel
theorem dX12_house_26 : decode cX12_house 26 = .ok (.iconst 2, 1) := by decide +kernel
theorem dX12_house_27 : decode cX12_house 27 = .ok (.iconst 3, 1) := by decide +kernel
theorem dX12_house_28 : decode cX12_house 28 = .ok (.invokestatic 215, 3) := by decide +kernel
theorem dX12_house_31 : decode cX12_house 31 = .ok (.ifCond .eq 16, 3) := by decide +kernel
theorem dX12_house_34 : decode cX12_house 34 = .ok (.iload_n 2, 1) := by decide +kernel
theorem dX12_house_35 : decode cX12_house 35 = .ok (.iconst 0, 1) := by decide +kernel
theorem dX12_house_36 : decode cX12_house 36 = .ok (.iconst 3, 1) := by decide +kernel
theorem dX12_house_37 : decode cX12_house 37 = .ok (.invokestatic 215, 3) := by decide +kernel
theorem dX12_house_40 : decode cX12_house 40 = .ok (.ifCond .eq 7, 3) := by decide +kernel
theorem dX12_house_43 : decode cX12_house 43 = .ok (.iconst 1, 1) := by decide +kernel
theorem dX12_house_44 : decode cX12_house 44 = .ok (.goto 4, 3) := by decide +kernel
theorem dX12_house_47 : decode cX12_house 47 = .ok (.iconst 0, 1) := by decide +kernel
theorem dX12_house_48 : decode cX12_house 48 = .ok (.istore_n 3, 1) := by decide +kernel
theorem dX12_house_49 : decode cX12_house 49 = .ok (.iload_n 3, 1) := by decide +kernel
theorem dX12_house_50 : decode cX12_house 50 = .ok (.ifCond .ne 5, 3) := by decide +kernel
theorem dX12_house_53 : decode cX12_house 53 = .ok (.iconst (-1), 1) := by decide +kernel
theorem dX12_house_54 : decode cX12_house 54 = .ok (.ireturn, 1) := by decide +kernel
theorem dX12_house_55 : decode cX12_house 55 = .ok (.aload_n 0, 1) := by decide +kernel
theorem dX12_house_56 : decode cX12_house 56 = .ok (.invokevirtual 450, 3) := by decide +kernel
theorem dX12_house_59 : decode cX12_house 59 = .ok (.iload_n 1, 1) := by decide +kernel
theorem dX12_house_60 : decode cX12_house 60 = .ok (.iconst 2, 1) := by decide +kernel
theorem dX12_house_61 : decode cX12_house 61 = .ok (.if_icmp .ge 23, 3) := by decide +kernel
theorem dX12_house_64 : decode cX12_house 64 = .ok (.iload_n 1, 1) := by decide +kernel
theorem dX12_house_65 : decode cX12_house 65 = .ok (.ifCond .ne 12, 3) := by decide +kernel
theorem dX12_house_68 : decode cX12_house 68 = .ok (.aload_n 0, 1) := by decide +kernel
theorem dX12_house_69 : decode cX12_house 69 = .ok (.getfield 123, 3) := by decide +kernel
theorem dX12_house_72 : decode cX12_house 72 = .ok (.iload_n 2, 1) := by decide +kernel
theorem dX12_house_73 : decode cX12_house 73 = .ok (.iaload, 1) := by decide +kernel
theorem dX12_house_74 : decode cX12_house 74 = .ok (.goto 9, 3) := by decide +kernel
theorem dX12_house_77 : decode cX12_house 77 = .ok (.aload_n 0, 1) := by decide +kernel
theorem dX12_house_78 : decode cX12_house 78 = .ok (.getfield 126, 3) := by decide +kernel
theorem dX12_house_81 : decode cX12_house 81 = .ok (.iload_n 2, 1) := by decide +kernel
theorem dX12_house_82 : decode cX12_house 82 = .ok (.iaload, 1) := by decide +kernel
theorem dX12_house_83 : decode cX12_house 83 = .ok (.ireturn, 1) := by decide +kernel
theorem dX12_house_84 : decode cX12_house 84 = .ok (.iconst 0, 1) := by decide +kernel
theorem dX12_house_85 : decode cX12_house 85 = .ok (.istore 4, 2) := by decide +kernel
theorem dX12_house_87 : decode cX12_house 87 = .ok (.iload_n 1, 1) := by decide +kernel
theorem dX12_house_88 : decode cX12_house 88 = .ok (.iconst 2, 1) := by decide +kernel
theorem dX12_house_89 : decode cX12_house 89 = .ok (.if_icmp .ne 48, 3) := by decide +kernel
theorem dX12_house_92 : decode cX12_house 92 = .ok (.iconst 0, 1) := by decide +kernel
theorem dX12_house_93 : decode cX12_house 93 = .ok (.istore 5, 2) := by decide +kernel
theorem dX12_house_95 : decode cX12_house 95 = .ok (.iload 5, 2) := by decide +kernel
theorem dX12_house_97 : decode cX12_house 97 = .ok (.aload_n 0, 1) := by decide +kernel
theorem dX12_house_98 : decode cX12_house 98 = .ok (.getfield 300, 3) := by decide +kernel
theorem dX12_house_101 : decode cX12_house 101 = .ok (.if_icmp .ge 36, 3) := by decide +kernel
theorem dX12_house_104 : decode cX12_house 104 = .ok (.iload 4, 2) := by decide +kernel
theorem dX12_house_106 : decode cX12_house 106 = .ok (.aload_n 0, 1) := by decide +kernel
theorem dX12_house_107 : decode cX12_house 107 = .ok (.getfield 42, 3) := by decide +kernel
theorem dX12_house_110 : decode cX12_house 110 = .ok (.iload 5, 2) := by decide +kernel
theorem dX12_house_112 : decode cX12_house 112 = .ok (.iaload, 1) := by decide +kernel
theorem dX12_house_113 : decode cX12_house 113 = .ok (.iload_n 2, 1) := by decide +kernel
theorem dX12_house_114 : decode cX12_house 114 = .ok (.if_icmp .ne 13, 3) := by decide +kernel
theorem dX12_house_117 : decode cX12_house 117 = .ok (.aload_n 0, 1) := by decide +kernel
theorem dX12_house_118 : decode cX12_house 118 = .ok (.getfield 123, 3) := by decide +kernel
theorem dX12_house_121 : decode cX12_house 121 = .ok (.iload 5, 2) := by decide +kernel
theorem dX12_house_123 : decode cX12_house 123 = .ok (.iaload, 1) := by decide +kernel
theorem dX12_house_124 : decode cX12_house 124 = .ok (.goto 4, 3) := by decide +kernel
theorem dX12_house_127 : decode cX12_house 127 = .ok (.iconst 0, 1) := by decide +kernel
theorem dX12_house_128 : decode cX12_house 128 = .ok (.iadd, 1) := by decide +kernel
theorem dX12_house_129 : decode cX12_house 129 = .ok (.istore 4, 2) := by decide +kernel
theorem dX12_house_131 : decode cX12_house 131 = .ok (.iinc 5 1, 3) := by decide +kernel
theorem dX12_house_134 : decode cX12_house 134 = .ok (.goto (-39), 3) := by decide +kernel
theorem dX12_house_137 : decode cX12_house 137 = .ok (.iload_n 1, 1) := by decide +kernel
theorem dX12_house_138 : decode cX12_house 138 = .ok (.iconst 3, 1) := by decide +kernel
theorem dX12_house_139 : decode cX12_house 139 = .ok (.if_icmp .ne 36, 3) := by decide +kernel
theorem dX12_house_142 : decode cX12_house 142 = .ok (.iconst 0, 1) := by decide +kernel
theorem dX12_house_143 : decode cX12_house 143 = .ok (.istore 5, 2) := by decide +kernel
theorem dX12_house_145 : decode cX12_house 145 = .ok (.iload 5, 2) := by decide +kernel
theorem dX12_house_147 : decode cX12_house 147 = .ok (.bipush 96, 2) := by decide +kernel
theorem dX12_house_149 : decode cX12_house 149 = .ok (.if_icmp .ge 26, 3) := by decide +kernel
theorem dX12_house_152 : decode cX12_house 152 = .ok (.iload 4, 2) := by decide +kernel
theorem dX12_house_154 : decode cX12_house 154 = .ok (.aload_n 0, 1) := by decide +kernel
theorem dX12_house_155 : decode cX12_house 155 = .ok (.getfield 120, 3) := by decide +kernel
theorem dX12_house_158 : decode cX12_house 158 = .ok (.bipush 96, 2) := by decide +kernel
theorem dX12_house_160 : decode cX12_house 160 = .ok (.iload_n 2, 1) := by decide +kernel
theorem dX12_house_161 : decode cX12_house 161 = .ok (.imul, 1) := by decide +kernel
theorem dX12_house_162 : decode cX12_house 162 = .ok (.iload 5, 2) := by decide +kernel
theorem dX12_house_164 : decode cX12_house 164 = .ok (.iadd, 1) := by decide +kernel
theorem dX12_house_165 : decode cX12_house 165 = .ok (.iaload, 1) := by decide +kernel
theorem dX12_house_166 : decode cX12_house 166 = .ok (.iadd, 1) := by decide +kernel
theorem dX12_house_167 : decode cX12_house 167 = .ok (.istore 4, 2) := by decide +kernel
theorem dX12_house_169 : decode cX12_house 169 = .ok (.iinc 5 1, 3) := by decide +kernel
theorem dX12_house_172 : decode cX12_house 172 = .ok (.goto (-27), 3) := by decide +kernel
theorem dX12_house_175 : decode cX12_house 175 = .ok (.iload 4, 2) := by decide +kernel
theorem dX12_house_177 : decode cX12_house 177 = .ok (.ireturn, 1) := by decide +kernel
def ok_X12_house_145 (K : ro_K) (v2 : Int32) (μ : ro_Mem) : Int32 → Prop := fun e => ro_X K 175 [(4, .int e)] [] μ
def fb_X12_house_145 (v2 : Int32) (μ : ro_Mem) (rec : (Int32 × Int32) → Option Int32) (v4 : Int32) (v5 : Int32) : Option Int32 :=
  if 96 ≤ v5 then
  (some v4)
  else
  (if ro_in ((96 * v2) + v5) 384 then
  (ro_lt (v4 + (μ 244 ((96 * v2) + v5).toNatClampNeg)) fun z14 =>
  rec (z14, v5 + 1)) else none)
theorem bb_X12_house_145 {K : ro_K} (hK : ro_C K RX12 cX12_house 6 6) (hR : ro_R K (some .int)) {v2 : Int32}  {μ : ro_Mem} {rec : (Int32 × Int32) → Option Int32} {v4 : Int32} {v5 : Int32} {q : Int32} (hrec : ∀ (s : Int32 × Int32) (q : Int32), rec s = some q → ok_X12_house_145 K v2 μ q → ro_X K 145 [(0, .ref (ro_ad (kG K) 207)), (2, .int v2), (4, .int s.1), (5, .int s.2)] [] μ) (hf : fb_X12_house_145 v2 μ rec v4 v5 = some q) (hq : ok_X12_house_145 K v2 μ q) : ro_X K 145 [(0, .ref (ro_ad (kG K) 207)), (2, .int v2), (4, .int v4), (5, .int v5)] [] μ := by
  unfold fb_X12_house_145 at hf
  refine ro_iload hK 3 rfl dX12_house_145 ?_
  refine ro_bipush (v := 96) hK dX12_house_147 (by decide) ?_
  refine ro_icmp_ge hK 175 dX12_house_149 (by decide) (fun c12 => ?_) (fun c12 => ?_)
  · have hf := ro_it hf c12
    refine ro_sub (L' := [(4, .int v4)]) [2] rfl ?_
    obtain rfl := Option.some.inj hf
    exact hq
  · have hf := ro_ie hf c12
    refine ro_iload hK 2 rfl dX12_house_152 ?_
    refine ro_aload_n hK 0 rfl dX12_house_154 rfl ?_
    refine ro_getr hK fl_X12_120 sh_207 dX12_house_155 ?_
    refine ro_bipush (v := 96) hK dX12_house_158 (by decide) ?_
    refine ro_iload_n hK 1 rfl dX12_house_160 rfl ?_
    refine ro_imul hK dX12_house_161 ?_
    refine ro_iload hK 3 rfl dX12_house_162 ?_
    refine ro_iadd hK dX12_house_164 ?_
    obtain ⟨g13, hf⟩ := ro_gd hf
    refine ro_iald hK sh_244 g13 dX12_house_165 ?_
    refine ro_iadd hK dX12_house_166 ?_
    obtain ⟨z14, e15, hf⟩ := ro_ld hf
    refine ro_iv e15 ?_
    refine ro_istore (L' := [(4, .int z14), (0, .ref (ro_ad (kG K) 207)), (2, .int v2), (5, .int v5)]) hK dX12_house_167 (by decide) rfl ?_
    refine ro_iinc (v := v5 + 1) (L' := [(5, .int (v5 + 1)), (4, .int z14), (0, .ref (ro_ad (kG K) 207)), (2, .int v2)]) hK 3 rfl dX12_house_169 rfl (by decide) rfl ?_
    refine ro_goto hK 145 dX12_house_172 (by decide) ?_
    refine ro_sub (L' := [(0, .ref (ro_ad (kG K) 207)), (2, .int v2), (4, .int z14), (5, .int (v5 + 1))]) [2, 3, 1, 0] rfl ?_
    exact hrec (z14, v5 + 1) _ hf hq
def fl_X12_house_145 (v2 : Int32) (μ : ro_Mem) : (Int32 × Int32) → Option Int32 :=
  ro_loop (fun rec s => fb_X12_house_145 v2 μ rec s.1 s.2) ro_FU
theorem lp_X12_house_145 {K : ro_K} (hK : ro_C K RX12 cX12_house 6 6) (hR : ro_R K (some .int)) {v2 : Int32}  {μ : ro_Mem} {s : Int32 × Int32} {q : Int32} (hf : fl_X12_house_145 v2 μ s = some q) (hq : ok_X12_house_145 K v2 μ q) : ro_X K 145 [(0, .ref (ro_ad (kG K) 207)), (2, .int v2), (4, .int s.1), (5, .int s.2)] [] μ :=
  ro_loopX (b := fun rec s => fb_X12_house_145 v2 μ rec s.1 s.2) (X := fun s => ro_X K 145 [(0, .ref (ro_ad (kG K) 207)), (2, .int v2), (4, .int s.1), (5, .int s.2)] [] μ) (OK := ok_X12_house_145 K v2 μ) (fun rec s q hrec hb ho => bb_X12_house_145 hK hR  hrec hb ho) ro_FU s q hf hq
def fj_X12_house_137 (v1 : Int32) (v2 : Int32) (v4 : Int32) (μ : ro_Mem) : Option (Int32 × ro_Mem) :=
  if v1 = 3 then
  ((fl_X12_house_145 v2 μ (v4, 0)).bind fun q16 =>
  some (q16, μ))
  else
  (some (v4, μ))
theorem bj_X12_house_137 {K : ro_K} (hK : ro_C K RX12 cX12_house 6 6) (hR : ro_R K (some .int)) {v1 : Int32} {v2 : Int32} {v4 : Int32}   {μ : ro_Mem}  {out : Int32 × ro_Mem} (hf : fj_X12_house_137 v1 v2 v4 μ = some out) (hq : kQ K (some (.int out.1)) out.2) : ro_X K 137 [(0, .ref (ro_ad (kG K) 207)), (1, .int v1), (2, .int v2), (4, .int v4)] [] μ := by
  unfold fj_X12_house_137 at hf
  refine ro_iload_n hK 1 rfl dX12_house_137 rfl ?_
  refine ro_iconst (v := 3) hK dX12_house_138 (by decide) ?_
  refine ro_icmp_ne hK 175 dX12_house_139 (by decide) (fun c11 => ?_) (fun c11 => ?_)
  · have hf := ro_ie hf c11
    refine ro_iload hK 3 rfl dX12_house_175 ?_
    obtain rfl := Option.some.inj hf
    exact ro_iret hK hR dX12_house_177 hq
  · have hf := ro_it hf c11
    refine ro_iconst (v := 0) hK dX12_house_142 (by decide) ?_
    refine ro_istore (L' := [(5, .int 0), (0, .ref (ro_ad (kG K) 207)), (1, .int v1), (2, .int v2), (4, .int v4)]) hK dX12_house_143 (by decide) rfl ?_
    obtain ⟨q16, e17, hf⟩ := ro_bd hf
    refine ro_sub (L' := [(0, .ref (ro_ad (kG K) 207)), (2, .int v2), (4, .int v4), (5, .int 0)]) [1, 3, 4, 0] rfl ?_
    refine lp_X12_house_145 hK hR  e17 ?_
    show ro_X K 175 [(4, .int q16)] [] μ
    refine ro_iload hK 0 rfl dX12_house_175 ?_
    obtain rfl := Option.some.inj hf
    exact ro_iret hK hR dX12_house_177 hq
def ok_X12_house_95 (K : ro_K) (v1 : Int32) (v2 : Int32) (μ : ro_Mem) : Int32 → Prop := fun e => ro_X K 137 [(0, .ref (ro_ad (kG K) 207)), (1, .int v1), (2, .int v2), (4, .int e)] [] μ
def fb_X12_house_95 (v1 : Int32) (v2 : Int32) (μ : ro_Mem) (rec : (Int32 × Int32) → Option Int32) (v4 : Int32) (v5 : Int32) : Option Int32 :=
  if (μ 207 18) ≤ v5 then
  (some v4)
  else
  (if ro_in v5 32 then
  (if (μ 218 v5.toNatClampNeg) = v2 then
  (ro_lt (v4 + (μ 245 v5.toNatClampNeg)) fun z23 =>
  rec (z23, v5 + 1))
  else
  (ro_lt (v4 + 0) fun z21 =>
  rec (z21, v5 + 1))) else none)
theorem bb_X12_house_95 {K : ro_K} (hK : ro_C K RX12 cX12_house 6 6) (hR : ro_R K (some .int)) {v1 : Int32} {v2 : Int32}  {μ : ro_Mem} {rec : (Int32 × Int32) → Option Int32} {v4 : Int32} {v5 : Int32} {q : Int32} (hrec : ∀ (s : Int32 × Int32) (q : Int32), rec s = some q → ok_X12_house_95 K v1 v2 μ q → ro_X K 95 [(0, .ref (ro_ad (kG K) 207)), (1, .int v1), (2, .int v2), (4, .int s.1), (5, .int s.2)] [] μ) (hf : fb_X12_house_95 v1 v2 μ rec v4 v5 = some q) (hq : ok_X12_house_95 K v1 v2 μ q) : ro_X K 95 [(0, .ref (ro_ad (kG K) 207)), (1, .int v1), (2, .int v2), (4, .int v4), (5, .int v5)] [] μ := by
  unfold fb_X12_house_95 at hf
  refine ro_iload hK 4 rfl dX12_house_95 ?_
  refine ro_aload_n hK 0 rfl dX12_house_97 rfl ?_
  refine ro_geti hK fl_X12_300 sh_207 dX12_house_98 ?_
  refine ro_icmp_ge hK 137 dX12_house_101 (by decide) (fun c18 => ?_) (fun c18 => ?_)
  · have hf := ro_it hf c18
    refine ro_sub (L' := [(0, .ref (ro_ad (kG K) 207)), (1, .int v1), (2, .int v2), (4, .int v4)]) [0, 1, 2, 3] rfl ?_
    obtain rfl := Option.some.inj hf
    exact hq
  · have hf := ro_ie hf c18
    refine ro_iload hK 3 rfl dX12_house_104 ?_
    refine ro_aload_n hK 0 rfl dX12_house_106 rfl ?_
    refine ro_getr hK fl_X12_42 sh_207 dX12_house_107 ?_
    refine ro_iload hK 4 rfl dX12_house_110 ?_
    obtain ⟨g19, hf⟩ := ro_gd hf
    refine ro_iald hK sh_218 g19 dX12_house_112 ?_
    refine ro_iload_n hK 2 rfl dX12_house_113 rfl ?_
    refine ro_icmp_ne hK 127 dX12_house_114 (by decide) (fun c20 => ?_) (fun c20 => ?_)
    · have hf := ro_ie hf c20
      refine ro_iconst (v := 0) hK dX12_house_127 (by decide) ?_
      refine ro_iadd hK dX12_house_128 ?_
      obtain ⟨z21, e22, hf⟩ := ro_ld hf
      refine ro_iv e22 ?_
      refine ro_istore (L' := [(4, .int z21), (0, .ref (ro_ad (kG K) 207)), (1, .int v1), (2, .int v2), (5, .int v5)]) hK dX12_house_129 (by decide) rfl ?_
      refine ro_iinc (v := v5 + 1) (L' := [(5, .int (v5 + 1)), (4, .int z21), (0, .ref (ro_ad (kG K) 207)), (1, .int v1), (2, .int v2)]) hK 4 rfl dX12_house_131 rfl (by decide) rfl ?_
      refine ro_goto hK 95 dX12_house_134 (by decide) ?_
      refine ro_sub (L' := [(0, .ref (ro_ad (kG K) 207)), (1, .int v1), (2, .int v2), (4, .int z21), (5, .int (v5 + 1))]) [2, 3, 4, 1, 0] rfl ?_
      exact hrec (z21, v5 + 1) _ hf hq
    · have hf := ro_it hf c20
      refine ro_aload_n hK 0 rfl dX12_house_117 rfl ?_
      refine ro_getr hK fl_X12_123 sh_207 dX12_house_118 ?_
      refine ro_iload hK 4 rfl dX12_house_121 ?_
      refine ro_iald hK sh_245 g19 dX12_house_123 ?_
      refine ro_goto hK 128 dX12_house_124 (by decide) ?_
      refine ro_iadd hK dX12_house_128 ?_
      obtain ⟨z23, e24, hf⟩ := ro_ld hf
      refine ro_iv e24 ?_
      refine ro_istore (L' := [(4, .int z23), (0, .ref (ro_ad (kG K) 207)), (1, .int v1), (2, .int v2), (5, .int v5)]) hK dX12_house_129 (by decide) rfl ?_
      refine ro_iinc (v := v5 + 1) (L' := [(5, .int (v5 + 1)), (4, .int z23), (0, .ref (ro_ad (kG K) 207)), (1, .int v1), (2, .int v2)]) hK 4 rfl dX12_house_131 rfl (by decide) rfl ?_
      refine ro_goto hK 95 dX12_house_134 (by decide) ?_
      refine ro_sub (L' := [(0, .ref (ro_ad (kG K) 207)), (1, .int v1), (2, .int v2), (4, .int z23), (5, .int (v5 + 1))]) [2, 3, 4, 1, 0] rfl ?_
      exact hrec (z23, v5 + 1) _ hf hq
def fl_X12_house_95 (v1 : Int32) (v2 : Int32) (μ : ro_Mem) : (Int32 × Int32) → Option Int32 :=
  ro_loop (fun rec s => fb_X12_house_95 v1 v2 μ rec s.1 s.2) ro_FU
theorem lp_X12_house_95 {K : ro_K} (hK : ro_C K RX12 cX12_house 6 6) (hR : ro_R K (some .int)) {v1 : Int32} {v2 : Int32}  {μ : ro_Mem} {s : Int32 × Int32} {q : Int32} (hf : fl_X12_house_95 v1 v2 μ s = some q) (hq : ok_X12_house_95 K v1 v2 μ q) : ro_X K 95 [(0, .ref (ro_ad (kG K) 207)), (1, .int v1), (2, .int v2), (4, .int s.1), (5, .int s.2)] [] μ :=
  ro_loopX (b := fun rec s => fb_X12_house_95 v1 v2 μ rec s.1 s.2) (X := fun s => ro_X K 95 [(0, .ref (ro_ad (kG K) 207)), (1, .int v1), (2, .int v2), (4, .int s.1), (5, .int s.2)] [] μ) (OK := ok_X12_house_95 K v1 v2 μ) (fun rec s q hrec hb ho => bb_X12_house_95 hK hR  hrec hb ho) ro_FU s q hf hq
def fj_X12_house_48 (v1 : Int32) (v2 : Int32) (t0 : Int32) (μ : ro_Mem) : Option (Int32 × ro_Mem) :=
  if t0 = 0 then
  (some ((-1), μ))
  else
  ((fn_X12_evening μ).bind fun q7 =>
  if 2 ≤ v1 then
  (if v1 = 2 then
  ((fl_X12_house_95 v1 v2 q7 (0, 0)).bind fun q25 =>
  fj_X12_house_137 v1 v2 q25 q7)
  else
  (fj_X12_house_137 v1 v2 0 q7))
  else
  (if v1 = 0 then
  (if ro_in v2 32 then
  (some (q7 245 v2.toNatClampNeg, q7)) else none)
  else
  (if ro_in v2 16 then
  (some (q7 246 v2.toNatClampNeg, q7)) else none)))
theorem bj_X12_house_48 {K : ro_K} (hK : ro_C K RX12 cX12_house 6 6) (hR : ro_R K (some .int)) {v1 : Int32} {v2 : Int32} {t0 : Int32}   {μ : ro_Mem}  {out : Int32 × ro_Mem} (hf : fj_X12_house_48 v1 v2 t0 μ = some out) (hq : kQ K (some (.int out.1)) out.2) : ro_X K 48 [(0, .ref (ro_ad (kG K) 207)), (1, .int v1), (2, .int v2)] [.int t0] μ := by
  unfold fj_X12_house_48 at hf
  refine ro_istore_n (L' := [(3, .int t0), (0, .ref (ro_ad (kG K) 207)), (1, .int v1), (2, .int v2)]) hK dX12_house_48 rfl (by decide) rfl ?_
  refine ro_iload_n hK 0 rfl dX12_house_49 rfl ?_
  refine ro_if_ne hK 55 dX12_house_50 (by decide) (fun c6 => ?_) (fun c6 => ?_)
  · have hf := ro_ie hf c6
    refine ro_aload_n hK 1 rfl dX12_house_55 rfl ?_
    obtain ⟨q7, e8, hf⟩ := ro_bd hf
    refine ro_callvv hK [] ml_X12_450 mv_X12_evening (mt_X12_evening (kl K) (kG K)  e8) sh_207 ⟨_, rfl, rfl⟩ (by decide) rfl rfl (Nat.le_of_ble_eq_true rfl) dX12_house_56 ?_
    refine ro_iload_n hK 2 rfl dX12_house_59 rfl ?_
    refine ro_iconst (v := 2) hK dX12_house_60 (by decide) ?_
    refine ro_icmp_ge hK 84 dX12_house_61 (by decide) (fun c9 => ?_) (fun c9 => ?_)
    · have hf := ro_it hf c9
      refine ro_iconst (v := 0) hK dX12_house_84 (by decide) ?_
      refine ro_istore (L' := [(4, .int 0), (3, .int t0), (0, .ref (ro_ad (kG K) 207)), (1, .int v1), (2, .int v2)]) hK dX12_house_85 (by decide) rfl ?_
      refine ro_iload_n hK 3 rfl dX12_house_87 rfl ?_
      refine ro_iconst (v := 2) hK dX12_house_88 (by decide) ?_
      refine ro_icmp_ne hK 137 dX12_house_89 (by decide) (fun c10 => ?_) (fun c10 => ?_)
      · have hf := ro_ie hf c10
        refine ro_sub (L' := [(0, .ref (ro_ad (kG K) 207)), (1, .int v1), (2, .int v2), (4, .int 0)]) [2, 3, 4, 0] rfl ?_
        exact bj_X12_house_137 hK hR  hf hq
      · have hf := ro_it hf c10
        refine ro_iconst (v := 0) hK dX12_house_92 (by decide) ?_
        refine ro_istore (L' := [(5, .int 0), (4, .int 0), (3, .int t0), (0, .ref (ro_ad (kG K) 207)), (1, .int v1), (2, .int v2)]) hK dX12_house_93 (by decide) rfl ?_
        obtain ⟨q25, e26, hf⟩ := ro_bd hf
        refine ro_sub (L' := [(0, .ref (ro_ad (kG K) 207)), (1, .int v1), (2, .int v2), (4, .int 0), (5, .int 0)]) [3, 4, 5, 1, 0] rfl ?_
        refine lp_X12_house_95 hK hR  e26 ?_
        show ro_X K 137 [(0, .ref (ro_ad (kG K) 207)), (1, .int v1), (2, .int v2), (4, .int q25)] [] q7
        exact bj_X12_house_137 hK hR  hf hq
    · have hf := ro_ie hf c9
      refine ro_iload_n hK 2 rfl dX12_house_64 rfl ?_
      refine ro_if_ne hK 77 dX12_house_65 (by decide) (fun c27 => ?_) (fun c27 => ?_)
      · have hf := ro_ie hf c27
        refine ro_aload_n hK 1 rfl dX12_house_77 rfl ?_
        refine ro_getr hK fl_X12_126 sh_207 dX12_house_78 ?_
        refine ro_iload_n hK 3 rfl dX12_house_81 rfl ?_
        obtain ⟨g28, hf⟩ := ro_gd hf
        refine ro_iald hK sh_246 g28 dX12_house_82 ?_
        obtain rfl := Option.some.inj hf
        exact ro_iret hK hR dX12_house_83 hq
      · have hf := ro_it hf c27
        refine ro_aload_n hK 1 rfl dX12_house_68 rfl ?_
        refine ro_getr hK fl_X12_123 sh_207 dX12_house_69 ?_
        refine ro_iload_n hK 3 rfl dX12_house_72 rfl ?_
        obtain ⟨g29, hf⟩ := ro_gd hf
        refine ro_iald hK sh_245 g29 dX12_house_73 ?_
        refine ro_goto hK 83 dX12_house_74 (by decide) ?_
        obtain rfl := Option.some.inj hf
        exact ro_iret hK hR dX12_house_83 hq
  · have hf := ro_it hf c6
    refine ro_iconst (v := (-1)) hK dX12_house_53 (by decide) ?_
    obtain rfl := Option.some.inj hf
    exact ro_iret hK hR dX12_house_54 hq
def fj_X12_house_47 (v1 : Int32) (v2 : Int32) (μ : ro_Mem) : Option (Int32 × ro_Mem) :=
  fj_X12_house_48 v1 v2 0 μ
theorem bj_X12_house_47 {K : ro_K} (hK : ro_C K RX12 cX12_house 6 6) (hR : ro_R K (some .int)) {v1 : Int32} {v2 : Int32}   {μ : ro_Mem}  {out : Int32 × ro_Mem} (hf : fj_X12_house_47 v1 v2 μ = some out) (hq : kQ K (some (.int out.1)) out.2) : ro_X K 47 [(0, .ref (ro_ad (kG K) 207)), (1, .int v1), (2, .int v2)] [] μ := by
  unfold fj_X12_house_47 at hf
  refine ro_iconst (v := 0) hK dX12_house_47 (by decide) ?_
  exact bj_X12_house_48 hK hR  hf hq
def fn_X12_house (v1 : Int32) (v2 : Int32) (μ : ro_Mem) : Option (Int32 × ro_Mem) :=
  if v1 = 0 then
  ((fn_X12_isNote v2 μ).bind fun q35 =>
  fj_X12_house_48 v1 v2 q35 μ)
  else
  (if v1 = 1 then
  ((fn_X12_isSlate v2 μ).bind fun q33 =>
  fj_X12_house_48 v1 v2 q33 μ)
  else
  ((fn_X12_in v1 2 3).bind fun q3 =>
  if q3 = 0 then
  (fj_X12_house_47 v1 v2 μ)
  else
  ((fn_X12_in v2 0 3).bind fun q30 =>
  if q30 = 0 then
  (fj_X12_house_47 v1 v2 μ)
  else
  (fj_X12_house_48 v1 v2 1 μ))))
theorem be_X12_house {K : ro_K} (hK : ro_C K RX12 cX12_house 6 6) (hR : ro_R K (some .int)) {v1 : Int32} {v2 : Int32}  {μ : ro_Mem} {out : Int32 × ro_Mem} (hf : fn_X12_house v1 v2 μ = some out) (hq : kQ K (some (.int out.1)) out.2) : ro_X K 0 [(0, .ref (ro_ad (kG K) 207)), (1, .int v1), (2, .int v2)] [] μ := by
  unfold fn_X12_house at hf
  refine ro_iload_n hK 1 rfl dX12_house_0 rfl ?_
  refine ro_if_ne hK 12 dX12_house_1 (by decide) (fun c1 => ?_) (fun c1 => ?_)
  · have hf := ro_ie hf c1
    refine ro_iload_n hK 1 rfl dX12_house_12 rfl ?_
    refine ro_iconst (v := 1) hK dX12_house_13 (by decide) ?_
    refine ro_icmp_ne hK 25 dX12_house_14 (by decide) (fun c2 => ?_) (fun c2 => ?_)
    · have hf := ro_ie hf c2
      refine ro_iload_n hK 1 rfl dX12_house_25 rfl ?_
      refine ro_iconst (v := 2) hK dX12_house_26 (by decide) ?_
      refine ro_iconst (v := 3) hK dX12_house_27 (by decide) ?_
      obtain ⟨q3, e4, hf⟩ := ro_bd hf
      refine ro_callsi hK [.int v1, .int 2, .int 3] ml_X12_215 ms_X12_in (mt_X12_in (kl K) (kG K)  e4) (by decide) rfl rfl (Nat.le_of_ble_eq_true rfl) dX12_house_28 ?_
      refine ro_if_eq hK 47 dX12_house_31 (by decide) (fun c5 => ?_) (fun c5 => ?_)
      · have hf := ro_it hf c5
        exact bj_X12_house_47 hK hR  hf hq
      · have hf := ro_ie hf c5
        refine ro_iload_n hK 2 rfl dX12_house_34 rfl ?_
        refine ro_iconst (v := 0) hK dX12_house_35 (by decide) ?_
        refine ro_iconst (v := 3) hK dX12_house_36 (by decide) ?_
        obtain ⟨q30, e31, hf⟩ := ro_bd hf
        refine ro_callsi hK [.int v2, .int 0, .int 3] ml_X12_215 ms_X12_in (mt_X12_in (kl K) (kG K)  e31) (by decide) rfl rfl (Nat.le_of_ble_eq_true rfl) dX12_house_37 ?_
        refine ro_if_eq hK 47 dX12_house_40 (by decide) (fun c32 => ?_) (fun c32 => ?_)
        · have hf := ro_it hf c32
          exact bj_X12_house_47 hK hR  hf hq
        · have hf := ro_ie hf c32
          refine ro_iconst (v := 1) hK dX12_house_43 (by decide) ?_
          refine ro_goto hK 48 dX12_house_44 (by decide) ?_
          exact bj_X12_house_48 hK hR  hf hq
    · have hf := ro_it hf c2
      refine ro_aload_n hK 0 rfl dX12_house_17 rfl ?_
      refine ro_iload_n hK 2 rfl dX12_house_18 rfl ?_
      obtain ⟨q33, e34, hf⟩ := ro_bd hf
      refine ro_callvi hK [.int v2] ml_X12_222 mv_X12_isSlate (mt_X12_isSlate (kl K) (kG K)  e34) sh_207 ⟨_, rfl, rfl⟩ (by decide) rfl rfl (Nat.le_of_ble_eq_true rfl) dX12_house_19 ?_
      refine ro_goto hK 48 dX12_house_22 (by decide) ?_
      exact bj_X12_house_48 hK hR  hf hq
  · have hf := ro_it hf c1
    refine ro_aload_n hK 0 rfl dX12_house_4 rfl ?_
    refine ro_iload_n hK 2 rfl dX12_house_5 rfl ?_
    obtain ⟨q35, e36, hf⟩ := ro_bd hf
    refine ro_callvi hK [.int v2] ml_X12_309 mv_X12_isNote (mt_X12_isNote (kl K) (kG K)  e36) sh_207 ⟨_, rfl, rfl⟩ (by decide) rfl rfl (Nat.le_of_ble_eq_true rfl) dX12_house_6 ?_
    refine ro_goto hK 48 dX12_house_9 (by decide) ?_
    exact bj_X12_house_48 hK hR  hf hq
theorem mt_X12_house (l : Launch) (G : ro_G) {v1 : Int32} {v2 : Int32}  {μ : ro_Mem} {out : Int32 × ro_Mem} (hf : fn_X12_house v1 v2 μ = some out) : ro_MX l G yX12_house cX12_house 6 (some .int) 6 [.ref (ro_ad G 207), .int v1, .int v2] μ (some (.int out.1)) out.2 := by
  refine ro_MX.of (by decide +kernel) (Nat.le_of_ble_eq_true rfl) (fun K hG hl hq hK hR => ?_)
  subst hG
  exact be_X12_house hK hR  hf hq
-- ===== X12_takesSeats =====
theorem dX12_takesSeats_0 : decode cX12_takesSeats 0 = .ok (.iconst 0, 1) := by decide +kernel
theorem dX12_takesSeats_1 : decode cX12_takesSeats 1 = .ok (.istore 4, 2) := by decide +kernel
theorem dX12_takesSeats_3 : decode cX12_takesSeats 3 = .ok (.iload 4, 2) := by decide +kernel
theorem dX12_takesSeats_5 : decode cX12_takesSeats 5 = .ok (.iload_n 3, 1) := by decide +kernel
theorem dX12_takesSeats_6 : decode cX12_takesSeats 6 = .ok (.if_icmp .ge 130, 3) := by decide +kernel
theorem dX12_takesSeats_9 : decode cX12_takesSeats 9 = .ok (.aload_n 0, 1) := by decide +kernel
theorem dX12_takesSeats_10 : decode cX12_takesSeats 10 = .ok (.getfield 38, 3) := by decide +kernel
theorem dX12_takesSeats_13 : decode cX12_takesSeats 13 = .ok (.iload 4, 2) := by decide +kernel
theorem dX12_takesSeats_15 : decode cX12_takesSeats 15 = .ok (.baload, 1) := by decide +kernel
theorem dX12_takesSeats_16 : decode cX12_takesSeats 16 = .ok (.sipush 255, 3) := by decide +kernel
theorem dX12_takesSeats_19 : decode cX12_takesSeats 19 = .ok (.iand, 1) := by decide +kernel
theorem dX12_takesSeats_20 : decode cX12_takesSeats 20 = .ok (.istore 5, 2) := by decide +kernel
theorem dX12_takesSeats_22 : decode cX12_takesSeats 22 = .ok (.iload 5, 2) := by decide +kernel
theorem dX12_takesSeats_24 : decode cX12_takesSeats 24 = .ok (.bipush 96, 2) := by decide +kernel
theorem dX12_takesSeats_26 : decode cX12_takesSeats 26 = .ok (.if_icmp .lt 5, 3) := by decide +kernel
theorem dX12_takesSeats_29 : decode cX12_takesSeats 29 = .ok (.iconst 0, 1) := by decide +kernel
theorem dX12_takesSeats_30 : decode cX12_takesSeats 30 = .ok (.ireturn, 1) := by decide +kernel
theorem dX12_takesSeats_31 : decode cX12_takesSeats 31 = .ok (.aload_n 0, 1) := by decide +kernel
theorem dX12_takesSeats_32 : decode cX12_takesSeats 32 = .ok (.iload_n 1, 1) := by decide +kernel
theorem dX12_takesSeats_33 : decode cX12_takesSeats 33 = .ok (.iload 5, 2) := by decide +kernel
theorem dX12_takesSeats_35 : decode cX12_takesSeats 35 = .ok (.invokevirtual 238, 3) := by decide +kernel
theorem dX12_takesSeats_38 : decode cX12_takesSeats 38 = .ok (.istore 6, 2) := by decide +kernel
theorem dX12_takesSeats_40 : decode cX12_takesSeats 40 = .ok (.iload 6, 2) := by decide +kernel
theorem dX12_takesSeats_42 : decode cX12_takesSeats 42 = .ok (.iconst (-1), 1) := by decide +kernel
theorem dX12_takesSeats_43 : decode cX12_takesSeats 43 = .ok (.if_icmp .eq 14, 3) := by decide +kernel
theorem dX12_takesSeats_46 : decode cX12_takesSeats 46 = .ok (.iload_n 2, 1) := by decide +kernel
theorem dX12_takesSeats_47 : decode cX12_takesSeats 47 = .ok (.iload 6, 2) := by decide +kernel
theorem dX12_takesSeats_49 : decode cX12_takesSeats 49 = .ok (.invokestatic 226, 3) := by decide +kernel
theorem dX12_takesSeats_52 : decode cX12_takesSeats 52 = .ok (.ifCond .ne 5, 3) := by decide +kernel
theorem dX12_takesSeats_55 : decode cX12_takesSeats 55 = .ok (.iconst 0, 1) := by decide +kernel
theorem dX12_takesSeats_56 : decode cX12_takesSeats 56 = .ok (.ireturn, 1) := by decide +kernel
theorem dX12_takesSeats_57 : decode cX12_takesSeats 57 = .ok (.iload 4, 2) := by decide +kernel
theorem dX12_takesSeats_59 : decode cX12_takesSeats 59 = .ok (.istore 7, 2) := by decide +kernel
theorem dX12_takesSeats_61 : decode cX12_takesSeats 61 = .ok (.iload 7, 2) := by decide +kernel
theorem dX12_takesSeats_63 : decode cX12_takesSeats 63 = .ok (.ifCond .le 58, 3) := by decide +kernel
theorem dX12_takesSeats_66 : decode cX12_takesSeats 66 = .ok (.aload_n 0, 1) := by decide +kernel
theorem dX12_takesSeats_67 : decode cX12_takesSeats 67 = .ok (.getfield 129, 3) := by decide +kernel
theorem dX12_takesSeats_70 : decode cX12_takesSeats 70 = .ok (.iload 7, 2) := by decide +kernel
theorem dX12_takesSeats_72 : decode cX12_takesSeats 72 = .ok (.iconst 1, 1) := by decide +kernel
theorem dX12_takesSeats_73 : decode cX12_takesSeats 73 = .ok (.isub, 1) := by decide +kernel
theorem dX12_takesSeats_74 : decode cX12_takesSeats 74 = .ok (.iaload, 1) := by decide +kernel
theorem dX12_takesSeats_75 : decode cX12_takesSeats 75 = .ok (.iload 5, 2) := by decide +kernel
theorem dX12_takesSeats_77 : decode cX12_takesSeats 77 = .ok (.if_icmp .lt 44, 3) := by decide +kernel
theorem dX12_takesSeats_80 : decode cX12_takesSeats 80 = .ok (.aload_n 0, 1) := by decide +kernel
theorem dX12_takesSeats_81 : decode cX12_takesSeats 81 = .ok (.getfield 129, 3) := by decide +kernel
theorem dX12_takesSeats_84 : decode cX12_takesSeats 84 = .ok (.iload 7, 2) := by decide +kernel
theorem dX12_takesSeats_86 : decode cX12_takesSeats 86 = .ok (.iconst 1, 1) := by decide +kernel
theorem dX12_takesSeats_87 : decode cX12_takesSeats 87 = .ok (.isub, 1) := by decide +kernel
theorem dX12_takesSeats_88 : decode cX12_takesSeats 88 = .ok (.iaload, 1) := by decide +kernel
theorem dX12_takesSeats_89 : decode cX12_takesSeats 89 = .ok (.iload 5, 2) := by decide +kernel
theorem dX12_takesSeats_91 : decode cX12_takesSeats 91 = .ok (.if_icmp .ne 5, 3) := by decide +kernel
theorem dX12_takesSeats_94 : decode cX12_takesSeats 94 = .ok (.iconst 0, 1) := by decide +kernel
theorem dX12_takesSeats_95 : decode cX12_takesSeats 95 = .ok (.ireturn, 1) := by decide +kernel
theorem dX12_takesSeats_96 : decode cX12_takesSeats 96 = .ok (.aload_n 0, 1) := by decide +kernel
theorem dX12_takesSeats_97 : decode cX12_takesSeats 97 = .ok (.getfield 129, 3) := by decide +kernel
theorem dX12_takesSeats_100 : decode cX12_takesSeats 100 = .ok (.iload 7, 2) := by decide +kernel
theorem dX12_takesSeats_102 : decode cX12_takesSeats 102 = .ok (.aload_n 0, 1) := by decide +kernel
theorem dX12_takesSeats_103 : decode cX12_takesSeats 103 = .ok (.getfield 129, 3) := by decide +kernel
theorem dX12_takesSeats_106 : decode cX12_takesSeats 106 = .ok (.iload 7, 2) := by decide +kernel
theorem dX12_takesSeats_108 : decode cX12_takesSeats 108 = .ok (.iconst 1, 1) := by decide +kernel
theorem dX12_takesSeats_109 : decode cX12_takesSeats 109 = .ok (.isub, 1) := by decide +kernel
theorem dX12_takesSeats_110 : decode cX12_takesSeats 110 = .ok (.iaload, 1) := by decide +kernel
theorem dX12_takesSeats_111 : decode cX12_takesSeats 111 = .ok (.iastore, 1) := by decide +kernel
theorem dX12_takesSeats_112 : decode cX12_takesSeats 112 = .ok (.iload 7, 2) := by decide +kernel
theorem dX12_takesSeats_114 : decode cX12_takesSeats 114 = .ok (.iconst 1, 1) := by decide +kernel
theorem dX12_takesSeats_115 : decode cX12_takesSeats 115 = .ok (.isub, 1) := by decide +kernel
theorem dX12_takesSeats_116 : decode cX12_takesSeats 116 = .ok (.istore 7, 2) := by decide +kernel
theorem dX12_takesSeats_118 : decode cX12_takesSeats 118 = .ok (.goto (-57), 3) := by decide +kernel
theorem dX12_takesSeats_121 : decode cX12_takesSeats 121 = .ok (.aload_n 0, 1) := by decide +kernel
theorem dX12_takesSeats_122 : decode cX12_takesSeats 122 = .ok (.getfield 129, 3) := by decide +kernel
theorem dX12_takesSeats_125 : decode cX12_takesSeats 125 = .ok (.iload 7, 2) := by decide +kernel
theorem dX12_takesSeats_127 : decode cX12_takesSeats 127 = .ok (.iload 5, 2) := by decide +kernel
theorem dX12_takesSeats_129 : decode cX12_takesSeats 129 = .ok (.iastore, 1) := by decide +kernel
theorem dX12_takesSeats_130 : decode cX12_takesSeats 130 = .ok (.iinc 4 1, 3) := by decide +kernel
theorem dX12_takesSeats_133 : decode cX12_takesSeats 133 = .ok (.goto (-130), 3) := by decide +kernel
theorem dX12_takesSeats_136 : decode cX12_takesSeats 136 = .ok (.iconst 1, 1) := by decide +kernel
theorem dX12_takesSeats_137 : decode cX12_takesSeats 137 = .ok (.ireturn, 1) := by decide +kernel
def ok_X12_takesSeats_3 (K : ro_K) (v1 : Int32) (v2 : Int32) (v3 : Int32) : (ro_Mem ⊕ (ro_Mem ⊕ (ro_Mem ⊕ ro_Mem))) → Prop := Sum.elim (fun e => ro_X K 29 [] [] e) (Sum.elim (fun e => ro_X K 55 [] [] e) (Sum.elim (fun e => ro_X K 94 [] [] e) (fun e => ro_X K 136 [] [] e)))
def ok_X12_takesSeats_61 (K : ro_K) (v1 : Int32) (v2 : Int32) (v3 : Int32) (v4 : Int32) (v5 : Int32) : (ro_Mem ⊕ (Int32 × ro_Mem)) → Prop := Sum.elim (fun e => ro_X K 94 [] [] e) (fun e => ro_X K 121 [(0, .ref (ro_ad (kG K) 207)), (1, .int v1), (2, .int v2), (3, .int v3), (4, .int v4), (5, .int v5), (7, .int e.1)] [] e.2)
def fb_X12_takesSeats_61 (v1 : Int32) (v2 : Int32) (v3 : Int32) (v4 : Int32) (v5 : Int32) (rec : (Int32 × ro_Mem) → Option (ro_Mem ⊕ (Int32 × ro_Mem))) (v7 : Int32) (μ : ro_Mem) : Option (ro_Mem ⊕ (Int32 × ro_Mem)) :=
  if v7 ≤ 0 then
  (some (.inr (v7, μ)))
  else
  (if ro_in (v7 - 1) 8 then
  (if (μ 247 (v7 - 1).toNatClampNeg) < v5 then
  (some (.inr (v7, μ)))
  else
  (if (μ 247 (v7 - 1).toNatClampNeg) = v5 then
  (some (.inl μ))
  else
  (if ro_in v7 8 then
  (ro_lt (ro_set μ 247 v7.toNatClampNeg (μ 247 (v7 - 1).toNatClampNeg)) fun m14 =>
  ro_lt (v7 - 1) fun z16 =>
  rec (z16, m14)) else none))) else none)
theorem bb_X12_takesSeats_61 {K : ro_K} (hK : ro_C K RX12 cX12_takesSeats 8 3) (hR : ro_R K (some .boolean)) {v1 : Int32} {v2 : Int32} {v3 : Int32} {v4 : Int32} {v5 : Int32}  {μ : ro_Mem} {rec : (Int32 × ro_Mem) → Option (ro_Mem ⊕ (Int32 × ro_Mem))} {v7 : Int32} {q : (ro_Mem ⊕ (Int32 × ro_Mem))} (hrec : ∀ (s : Int32 × ro_Mem) (q : (ro_Mem ⊕ (Int32 × ro_Mem))), rec s = some q → ok_X12_takesSeats_61 K v1 v2 v3 v4 v5 q → ro_X K 61 [(0, .ref (ro_ad (kG K) 207)), (1, .int v1), (2, .int v2), (3, .int v3), (4, .int v4), (5, .int v5), (7, .int s.1)] [] s.2) (hf : fb_X12_takesSeats_61 v1 v2 v3 v4 v5 rec v7 μ = some q) (hq : ok_X12_takesSeats_61 K v1 v2 v3 v4 v5 q) : ro_X K 61 [(0, .ref (ro_ad (kG K) 207)), (1, .int v1), (2, .int v2), (3, .int v3), (4, .int v4), (5, .int v5), (7, .int v7)] [] μ := by
  unfold fb_X12_takesSeats_61 at hf
  refine ro_iload hK 6 rfl dX12_takesSeats_61 ?_
  refine ro_if_le hK 121 dX12_takesSeats_63 (by decide) (fun c9 => ?_) (fun c9 => ?_)
  · have hf := ro_it hf c9
    obtain rfl := Option.some.inj hf
    exact hq
  · have hf := ro_ie hf c9
    refine ro_aload_n hK 0 rfl dX12_takesSeats_66 rfl ?_
    refine ro_getr hK fl_X12_129 sh_207 dX12_takesSeats_67 ?_
    refine ro_iload hK 6 rfl dX12_takesSeats_70 ?_
    refine ro_iconst (v := 1) hK dX12_takesSeats_72 (by decide) ?_
    refine ro_isub hK dX12_takesSeats_73 ?_
    obtain ⟨g10, hf⟩ := ro_gd hf
    refine ro_iald hK sh_247 g10 dX12_takesSeats_74 ?_
    refine ro_iload hK 5 rfl dX12_takesSeats_75 ?_
    refine ro_icmp_lt hK 121 dX12_takesSeats_77 (by decide) (fun c11 => ?_) (fun c11 => ?_)
    · have hf := ro_it hf c11
      obtain rfl := Option.some.inj hf
      exact hq
    · have hf := ro_ie hf c11
      refine ro_aload_n hK 0 rfl dX12_takesSeats_80 rfl ?_
      refine ro_getr hK fl_X12_129 sh_207 dX12_takesSeats_81 ?_
      refine ro_iload hK 6 rfl dX12_takesSeats_84 ?_
      refine ro_iconst (v := 1) hK dX12_takesSeats_86 (by decide) ?_
      refine ro_isub hK dX12_takesSeats_87 ?_
      refine ro_iald hK sh_247 g10 dX12_takesSeats_88 ?_
      refine ro_iload hK 5 rfl dX12_takesSeats_89 ?_
      refine ro_icmp_ne hK 96 dX12_takesSeats_91 (by decide) (fun c12 => ?_) (fun c12 => ?_)
      · have hf := ro_ie hf c12
        refine ro_aload_n hK 0 rfl dX12_takesSeats_96 rfl ?_
        refine ro_getr hK fl_X12_129 sh_207 dX12_takesSeats_97 ?_
        refine ro_iload hK 6 rfl dX12_takesSeats_100 ?_
        refine ro_aload_n hK 0 rfl dX12_takesSeats_102 rfl ?_
        refine ro_getr hK fl_X12_129 sh_207 dX12_takesSeats_103 ?_
        refine ro_iload hK 6 rfl dX12_takesSeats_106 ?_
        refine ro_iconst (v := 1) hK dX12_takesSeats_108 (by decide) ?_
        refine ro_isub hK dX12_takesSeats_109 ?_
        refine ro_iald hK sh_247 g10 dX12_takesSeats_110 ?_
        obtain ⟨g13, hf⟩ := ro_gd hf
        obtain ⟨m14, e15, hf⟩ := ro_ld hf
        refine ro_iast hK sh_247 g13 dX12_takesSeats_111 ?_
        refine ro_mv e15 ?_
        refine ro_iload hK 6 rfl dX12_takesSeats_112 ?_
        refine ro_iconst (v := 1) hK dX12_takesSeats_114 (by decide) ?_
        refine ro_isub hK dX12_takesSeats_115 ?_
        obtain ⟨z16, e17, hf⟩ := ro_ld hf
        refine ro_iv e17 ?_
        refine ro_istore (L' := [(7, .int z16), (0, .ref (ro_ad (kG K) 207)), (1, .int v1), (2, .int v2), (3, .int v3), (4, .int v4), (5, .int v5)]) hK dX12_takesSeats_116 (by decide) rfl ?_
        refine ro_goto hK 61 dX12_takesSeats_118 (by decide) ?_
        refine ro_sub (L' := [(0, .ref (ro_ad (kG K) 207)), (1, .int v1), (2, .int v2), (3, .int v3), (4, .int v4), (5, .int v5), (7, .int z16)]) [1, 2, 3, 4, 5, 6, 0] rfl ?_
        exact hrec (z16, m14) _ hf hq
      · have hf := ro_it hf c12
        refine ro_sub (L' := []) [] rfl ?_
        obtain rfl := Option.some.inj hf
        exact hq
def fl_X12_takesSeats_61 (v1 : Int32) (v2 : Int32) (v3 : Int32) (v4 : Int32) (v5 : Int32) : (Int32 × ro_Mem) → Option (ro_Mem ⊕ (Int32 × ro_Mem)) :=
  ro_loop (fun rec s => fb_X12_takesSeats_61 v1 v2 v3 v4 v5 rec s.1 s.2) ro_FU
theorem lp_X12_takesSeats_61 {K : ro_K} (hK : ro_C K RX12 cX12_takesSeats 8 3) (hR : ro_R K (some .boolean)) {v1 : Int32} {v2 : Int32} {v3 : Int32} {v4 : Int32} {v5 : Int32}  {s : Int32 × ro_Mem} {q : (ro_Mem ⊕ (Int32 × ro_Mem))} (hf : fl_X12_takesSeats_61 v1 v2 v3 v4 v5 s = some q) (hq : ok_X12_takesSeats_61 K v1 v2 v3 v4 v5 q) : ro_X K 61 [(0, .ref (ro_ad (kG K) 207)), (1, .int v1), (2, .int v2), (3, .int v3), (4, .int v4), (5, .int v5), (7, .int s.1)] [] s.2 :=
  ro_loopX (b := fun rec s => fb_X12_takesSeats_61 v1 v2 v3 v4 v5 rec s.1 s.2) (X := fun s => ro_X K 61 [(0, .ref (ro_ad (kG K) 207)), (1, .int v1), (2, .int v2), (3, .int v3), (4, .int v4), (5, .int v5), (7, .int s.1)] [] s.2) (OK := ok_X12_takesSeats_61 K v1 v2 v3 v4 v5) (fun rec s q hrec hb ho => bb_X12_takesSeats_61 hK hR  hrec hb ho) ro_FU s q hf hq
def fj_X12_takesSeats_121 (rec : (Int32 × ro_Mem) → Option (ro_Mem ⊕ (ro_Mem ⊕ (ro_Mem ⊕ ro_Mem)))) (v1 : Int32) (v2 : Int32) (v3 : Int32) (v4 : Int32) (v5 : Int32) (v7 : Int32) (μ : ro_Mem) : Option (ro_Mem ⊕ (ro_Mem ⊕ (ro_Mem ⊕ ro_Mem))) :=
  if ro_in v7 8 then
  (ro_lt (ro_set μ 247 v7.toNatClampNeg v5) fun m23 =>
  rec (v4 + 1, m23)) else none
theorem bj_X12_takesSeats_121 {K : ro_K} (hK : ro_C K RX12 cX12_takesSeats 8 3) (hR : ro_R K (some .boolean)) {v1 : Int32} {v2 : Int32} {v3 : Int32} {v4 : Int32} {v5 : Int32} {v7 : Int32}  {rec : (Int32 × ro_Mem) → Option (ro_Mem ⊕ (ro_Mem ⊕ (ro_Mem ⊕ ro_Mem)))} {μ : ro_Mem} (hrec : ∀ (s : Int32 × ro_Mem) (q : (ro_Mem ⊕ (ro_Mem ⊕ (ro_Mem ⊕ ro_Mem)))), rec s = some q → ok_X12_takesSeats_3 K v1 v2 v3 q → ro_X K 3 [(0, .ref (ro_ad (kG K) 207)), (1, .int v1), (2, .int v2), (3, .int v3), (4, .int s.1)] [] s.2) {out : (ro_Mem ⊕ (ro_Mem ⊕ (ro_Mem ⊕ ro_Mem)))} (hf : fj_X12_takesSeats_121 rec v1 v2 v3 v4 v5 v7 μ = some out) (hq : ok_X12_takesSeats_3 K v1 v2 v3 out) : ro_X K 121 [(0, .ref (ro_ad (kG K) 207)), (1, .int v1), (2, .int v2), (3, .int v3), (4, .int v4), (5, .int v5), (7, .int v7)] [] μ := by
  unfold fj_X12_takesSeats_121 at hf
  refine ro_aload_n hK 0 rfl dX12_takesSeats_121 rfl ?_
  refine ro_getr hK fl_X12_129 sh_207 dX12_takesSeats_122 ?_
  refine ro_iload hK 6 rfl dX12_takesSeats_125 ?_
  refine ro_iload hK 5 rfl dX12_takesSeats_127 ?_
  obtain ⟨g22, hf⟩ := ro_gd hf
  obtain ⟨m23, e24, hf⟩ := ro_ld hf
  refine ro_iast hK sh_247 g22 dX12_takesSeats_129 ?_
  refine ro_mv e24 ?_
  refine ro_iinc (v := v4 + 1) (L' := [(4, .int (v4 + 1)), (0, .ref (ro_ad (kG K) 207)), (1, .int v1), (2, .int v2), (3, .int v3), (5, .int v5), (7, .int v7)]) hK 4 rfl dX12_takesSeats_130 rfl (by decide) rfl ?_
  refine ro_goto hK 3 dX12_takesSeats_133 (by decide) ?_
  refine ro_sub (L' := [(0, .ref (ro_ad (kG K) 207)), (1, .int v1), (2, .int v2), (3, .int v3), (4, .int (v4 + 1))]) [1, 2, 3, 4, 0] rfl ?_
  exact hrec (v4 + 1, m23) _ hf hq
def fj_X12_takesSeats_57 (rec : (Int32 × ro_Mem) → Option (ro_Mem ⊕ (ro_Mem ⊕ (ro_Mem ⊕ ro_Mem)))) (v1 : Int32) (v2 : Int32) (v3 : Int32) (v4 : Int32) (v5 : Int32) (μ : ro_Mem) : Option (ro_Mem ⊕ (ro_Mem ⊕ (ro_Mem ⊕ ro_Mem))) :=
  (fl_X12_takesSeats_61 v1 v2 v3 v4 v5 (v4, μ)).bind fun q18 =>
  q18.elim (fun e20 => some (.inr (.inr (.inl e20)))) (fun e21 => fj_X12_takesSeats_121 rec v1 v2 v3 v4 v5 e21.1 e21.2)
theorem bj_X12_takesSeats_57 {K : ro_K} (hK : ro_C K RX12 cX12_takesSeats 8 3) (hR : ro_R K (some .boolean)) {v1 : Int32} {v2 : Int32} {v3 : Int32} {v4 : Int32} {v5 : Int32}  {rec : (Int32 × ro_Mem) → Option (ro_Mem ⊕ (ro_Mem ⊕ (ro_Mem ⊕ ro_Mem)))} {μ : ro_Mem} (hrec : ∀ (s : Int32 × ro_Mem) (q : (ro_Mem ⊕ (ro_Mem ⊕ (ro_Mem ⊕ ro_Mem)))), rec s = some q → ok_X12_takesSeats_3 K v1 v2 v3 q → ro_X K 3 [(0, .ref (ro_ad (kG K) 207)), (1, .int v1), (2, .int v2), (3, .int v3), (4, .int s.1)] [] s.2) {out : (ro_Mem ⊕ (ro_Mem ⊕ (ro_Mem ⊕ ro_Mem)))} (hf : fj_X12_takesSeats_57 rec v1 v2 v3 v4 v5 μ = some out) (hq : ok_X12_takesSeats_3 K v1 v2 v3 out) : ro_X K 57 [(0, .ref (ro_ad (kG K) 207)), (1, .int v1), (2, .int v2), (3, .int v3), (4, .int v4), (5, .int v5)] [] μ := by
  unfold fj_X12_takesSeats_57 at hf
  refine ro_iload hK 4 rfl dX12_takesSeats_57 ?_
  refine ro_istore (L' := [(7, .int v4), (0, .ref (ro_ad (kG K) 207)), (1, .int v1), (2, .int v2), (3, .int v3), (4, .int v4), (5, .int v5)]) hK dX12_takesSeats_59 (by decide) rfl ?_
  obtain ⟨q18, e19, hf⟩ := ro_bd hf
  refine ro_sub (L' := [(0, .ref (ro_ad (kG K) 207)), (1, .int v1), (2, .int v2), (3, .int v3), (4, .int v4), (5, .int v5), (7, .int v4)]) [1, 2, 3, 4, 5, 6, 0] rfl ?_
  refine lp_X12_takesSeats_61 hK hR  e19 ?_
  rcases q18 with e20 | e21
  · have hf := ro_el hf
    show ro_X K 94 [] [] e20
    obtain rfl := Option.some.inj hf
    exact hq
  · have hf := ro_er hf
    show ro_X K 121 [(0, .ref (ro_ad (kG K) 207)), (1, .int v1), (2, .int v2), (3, .int v3), (4, .int v4), (5, .int v5), (7, .int e21.1)] [] e21.2
    exact bj_X12_takesSeats_121 hK hR  hrec hf hq
def fb_X12_takesSeats_3 (v1 : Int32) (v2 : Int32) (v3 : Int32) (rec : (Int32 × ro_Mem) → Option (ro_Mem ⊕ (ro_Mem ⊕ (ro_Mem ⊕ ro_Mem)))) (v4 : Int32) (μ : ro_Mem) : Option (ro_Mem ⊕ (ro_Mem ⊕ (ro_Mem ⊕ ro_Mem))) :=
  if v3 ≤ v4 then
  (some (.inr (.inr (.inr μ))))
  else
  (if ro_in v4 220 then
  (ro_lt ((μ 217 v4.toNatClampNeg) &&& 255) fun z3 =>
  if z3 < 96 then
  ((fn_X12_whoOn v1 z3 μ).bind fun q6 =>
  if q6 = (-1) then
  (fj_X12_takesSeats_57 rec v1 v2 v3 v4 z3 μ)
  else
  ((fn_X12_has v2 q6).bind fun q25 =>
  if q25 = 0 then
  (some (.inr (.inl μ)))
  else
  (fj_X12_takesSeats_57 rec v1 v2 v3 v4 z3 μ)))
  else
  (some (.inl μ))) else none)
theorem bb_X12_takesSeats_3 {K : ro_K} (hK : ro_C K RX12 cX12_takesSeats 8 3) (hR : ro_R K (some .boolean)) {v1 : Int32} {v2 : Int32} {v3 : Int32}  {μ : ro_Mem} {rec : (Int32 × ro_Mem) → Option (ro_Mem ⊕ (ro_Mem ⊕ (ro_Mem ⊕ ro_Mem)))} {v4 : Int32} {q : (ro_Mem ⊕ (ro_Mem ⊕ (ro_Mem ⊕ ro_Mem)))} (hrec : ∀ (s : Int32 × ro_Mem) (q : (ro_Mem ⊕ (ro_Mem ⊕ (ro_Mem ⊕ ro_Mem)))), rec s = some q → ok_X12_takesSeats_3 K v1 v2 v3 q → ro_X K 3 [(0, .ref (ro_ad (kG K) 207)), (1, .int v1), (2, .int v2), (3, .int v3), (4, .int s.1)] [] s.2) (hf : fb_X12_takesSeats_3 v1 v2 v3 rec v4 μ = some q) (hq : ok_X12_takesSeats_3 K v1 v2 v3 q) : ro_X K 3 [(0, .ref (ro_ad (kG K) 207)), (1, .int v1), (2, .int v2), (3, .int v3), (4, .int v4)] [] μ := by
  unfold fb_X12_takesSeats_3 at hf
  refine ro_iload hK 4 rfl dX12_takesSeats_3 ?_
  refine ro_iload_n hK 3 rfl dX12_takesSeats_5 rfl ?_
  refine ro_icmp_ge hK 136 dX12_takesSeats_6 (by decide) (fun c1 => ?_) (fun c1 => ?_)
  · have hf := ro_it hf c1
    refine ro_sub (L' := []) [] rfl ?_
    obtain rfl := Option.some.inj hf
    exact hq
  · have hf := ro_ie hf c1
    refine ro_aload_n hK 0 rfl dX12_takesSeats_9 rfl ?_
    refine ro_getr hK fl_X12_38 sh_207 dX12_takesSeats_10 ?_
    refine ro_iload hK 4 rfl dX12_takesSeats_13 ?_
    obtain ⟨g2, hf⟩ := ro_gd hf
    refine ro_bald hK sh_217 g2 dX12_takesSeats_15 ?_
    refine ro_sipush (v := 255) hK dX12_takesSeats_16 (by decide) ?_
    refine ro_iand hK dX12_takesSeats_19 ?_
    obtain ⟨z3, e4, hf⟩ := ro_ld hf
    refine ro_iv e4 ?_
    refine ro_istore (L' := [(5, .int z3), (0, .ref (ro_ad (kG K) 207)), (1, .int v1), (2, .int v2), (3, .int v3), (4, .int v4)]) hK dX12_takesSeats_20 (by decide) rfl ?_
    refine ro_iload hK 0 rfl dX12_takesSeats_22 ?_
    refine ro_bipush (v := 96) hK dX12_takesSeats_24 (by decide) ?_
    refine ro_icmp_lt hK 31 dX12_takesSeats_26 (by decide) (fun c5 => ?_) (fun c5 => ?_)
    · have hf := ro_it hf c5
      refine ro_aload_n hK 1 rfl dX12_takesSeats_31 rfl ?_
      refine ro_iload_n hK 2 rfl dX12_takesSeats_32 rfl ?_
      refine ro_iload hK 0 rfl dX12_takesSeats_33 ?_
      obtain ⟨q6, e7, hf⟩ := ro_bd hf
      refine ro_callvi hK [.int v1, .int z3] ml_X12_238 mv_X12_whoOn (mt_X12_whoOn (kl K) (kG K)  e7) sh_207 ⟨_, rfl, rfl⟩ (by decide) rfl rfl (Nat.le_of_ble_eq_true rfl) dX12_takesSeats_35 ?_
      refine ro_istore (L' := [(6, .int q6), (5, .int z3), (0, .ref (ro_ad (kG K) 207)), (1, .int v1), (2, .int v2), (3, .int v3), (4, .int v4)]) hK dX12_takesSeats_38 (by decide) rfl ?_
      refine ro_iload hK 0 rfl dX12_takesSeats_40 ?_
      refine ro_iconst (v := (-1)) hK dX12_takesSeats_42 (by decide) ?_
      refine ro_icmp_eq hK 57 dX12_takesSeats_43 (by decide) (fun c8 => ?_) (fun c8 => ?_)
      · have hf := ro_it hf c8
        refine ro_sub (L' := [(0, .ref (ro_ad (kG K) 207)), (1, .int v1), (2, .int v2), (3, .int v3), (4, .int v4), (5, .int z3)]) [2, 3, 4, 5, 6, 1] rfl ?_
        exact bj_X12_takesSeats_57 hK hR  hrec hf hq
      · have hf := ro_ie hf c8
        refine ro_iload_n hK 4 rfl dX12_takesSeats_46 rfl ?_
        refine ro_iload hK 0 rfl dX12_takesSeats_47 ?_
        obtain ⟨q25, e26, hf⟩ := ro_bd hf
        refine ro_callsi hK [.int v2, .int q6] ml_X12_226 ms_X12_has (mt_X12_has (kl K) (kG K)  e26) (by decide) rfl rfl (Nat.le_of_ble_eq_true rfl) dX12_takesSeats_49 ?_
        refine ro_if_ne hK 57 dX12_takesSeats_52 (by decide) (fun c27 => ?_) (fun c27 => ?_)
        · have hf := ro_ie hf c27
          refine ro_sub (L' := [(0, .ref (ro_ad (kG K) 207)), (1, .int v1), (2, .int v2), (3, .int v3), (4, .int v4), (5, .int z3)]) [2, 3, 4, 5, 6, 1] rfl ?_
          exact bj_X12_takesSeats_57 hK hR  hrec hf hq
        · have hf := ro_it hf c27
          refine ro_sub (L' := []) [] rfl ?_
          obtain rfl := Option.some.inj hf
          exact hq
    · have hf := ro_ie hf c5
      refine ro_sub (L' := []) [] rfl ?_
      obtain rfl := Option.some.inj hf
      exact hq
def fl_X12_takesSeats_3 (v1 : Int32) (v2 : Int32) (v3 : Int32) : (Int32 × ro_Mem) → Option (ro_Mem ⊕ (ro_Mem ⊕ (ro_Mem ⊕ ro_Mem))) :=
  ro_loop (fun rec s => fb_X12_takesSeats_3 v1 v2 v3 rec s.1 s.2) ro_FU
theorem lp_X12_takesSeats_3 {K : ro_K} (hK : ro_C K RX12 cX12_takesSeats 8 3) (hR : ro_R K (some .boolean)) {v1 : Int32} {v2 : Int32} {v3 : Int32}  {s : Int32 × ro_Mem} {q : (ro_Mem ⊕ (ro_Mem ⊕ (ro_Mem ⊕ ro_Mem)))} (hf : fl_X12_takesSeats_3 v1 v2 v3 s = some q) (hq : ok_X12_takesSeats_3 K v1 v2 v3 q) : ro_X K 3 [(0, .ref (ro_ad (kG K) 207)), (1, .int v1), (2, .int v2), (3, .int v3), (4, .int s.1)] [] s.2 :=
  ro_loopX (b := fun rec s => fb_X12_takesSeats_3 v1 v2 v3 rec s.1 s.2) (X := fun s => ro_X K 3 [(0, .ref (ro_ad (kG K) 207)), (1, .int v1), (2, .int v2), (3, .int v3), (4, .int s.1)] [] s.2) (OK := ok_X12_takesSeats_3 K v1 v2 v3) (fun rec s q hrec hb ho => bb_X12_takesSeats_3 hK hR  hrec hb ho) ro_FU s q hf hq
def fn_X12_takesSeats (v1 : Int32) (v2 : Int32) (v3 : Int32) (μ : ro_Mem) : Option (Int32 × ro_Mem) :=
  (fl_X12_takesSeats_3 v1 v2 v3 (0, μ)).bind fun q28 =>
  q28.elim (fun e30 => some (0, e30)) (fun e31 => e31.elim (fun e32 => some (0, e32)) (fun e33 => e33.elim (fun e34 => some (0, e34)) (fun e35 => some (1, e35))))
theorem be_X12_takesSeats {K : ro_K} (hK : ro_C K RX12 cX12_takesSeats 8 3) (hR : ro_R K (some .boolean)) {v1 : Int32} {v2 : Int32} {v3 : Int32}  {μ : ro_Mem} {out : Int32 × ro_Mem} (hf : fn_X12_takesSeats v1 v2 v3 μ = some out) (hq : kQ K (some (.int out.1)) out.2) : ro_X K 0 [(0, .ref (ro_ad (kG K) 207)), (1, .int v1), (2, .int v2), (3, .int v3)] [] μ := by
  unfold fn_X12_takesSeats at hf
  refine ro_iconst (v := 0) hK dX12_takesSeats_0 (by decide) ?_
  refine ro_istore (L' := [(4, .int 0), (0, .ref (ro_ad (kG K) 207)), (1, .int v1), (2, .int v2), (3, .int v3)]) hK dX12_takesSeats_1 (by decide) rfl ?_
  obtain ⟨q28, e29, hf⟩ := ro_bd hf
  refine ro_sub (L' := [(0, .ref (ro_ad (kG K) 207)), (1, .int v1), (2, .int v2), (3, .int v3), (4, .int 0)]) [1, 2, 3, 4, 0] rfl ?_
  refine lp_X12_takesSeats_3 hK hR  e29 ?_
  rcases q28 with e30 | e31
  · have hf := ro_el hf
    show ro_X K 29 [] [] e30
    refine ro_iconst (v := 0) hK dX12_takesSeats_29 (by decide) ?_
    obtain rfl := Option.some.inj hf
    exact ro_zret hK hR dX12_takesSeats_30 (by decide) hq
  · have hf := ro_er hf
    rcases e31 with e32 | e33
    · have hf := ro_el hf
      show ro_X K 55 [] [] e32
      refine ro_iconst (v := 0) hK dX12_takesSeats_55 (by decide) ?_
      obtain rfl := Option.some.inj hf
      exact ro_zret hK hR dX12_takesSeats_56 (by decide) hq
    · have hf := ro_er hf
      rcases e33 with e34 | e35
      · have hf := ro_el hf
        show ro_X K 94 [] [] e34
        refine ro_iconst (v := 0) hK dX12_takesSeats_94 (by decide) ?_
        obtain rfl := Option.some.inj hf
        exact ro_zret hK hR dX12_takesSeats_95 (by decide) hq
      · have hf := ro_er hf
        show ro_X K 136 [] [] e35
        refine ro_iconst (v := 1) hK dX12_takesSeats_136 (by decide) ?_
        obtain rfl := Option.some.inj hf
        exact ro_zret hK hR dX12_takesSeats_137 (by decide) hq
theorem mt_X12_takesSeats (l : Launch) (G : ro_G) {v1 : Int32} {v2 : Int32} {v3 : Int32}  {μ : ro_Mem} {out : Int32 × ro_Mem} (hf : fn_X12_takesSeats v1 v2 v3 μ = some out) : ro_MX l G yX12_takesSeats cX12_takesSeats 8 (some .boolean) 3 [.ref (ro_ad G 207), .int v1, .int v2, .int v3] μ (some (.int out.1)) out.2 := by
  refine ro_MX.of (by decide +kernel) (Nat.le_of_ble_eq_true rfl) (fun K hG hl hq hK hR => ?_)
  subst hG
  exact be_X12_takesSeats hK hR  hf hq
-- ===== X12_costBy =====
theorem dX12_costBy_0 : decode cX12_costBy 0 = .ok (.aload_n 0, 1) := by decide +kernel
theorem dX12_costBy_1 : decode cX12_costBy 1 = .ok (.getfield 32, 3) := by decide +kernel
theorem dX12_costBy_4 : decode cX12_costBy 4 = .ok (.aload_n 0, 1) := by decide +kernel
theorem dX12_costBy_5 : decode cX12_costBy 5 = .ok (.getfield 132, 3) := by decide +kernel
theorem dX12_costBy_8 : decode cX12_costBy 8 = .ok (.iload_n 1, 1) := by decide +kernel
theorem dX12_costBy_9 : decode cX12_costBy 9 = .ok (.iaload, 1) := by decide +kernel
theorem dX12_costBy_10 : decode cX12_costBy 10 = .ok (.iaload, 1) := by decide +kernel
theorem dX12_costBy_11 : decode cX12_costBy 11 = .ok (.aload_n 0, 1) := by decide +kernel
theorem dX12_costBy_12 : decode cX12_costBy 12 = .ok (.getfield 135, 3) := by decide +kernel
theorem dX12_costBy_15 : decode cX12_costBy 15 = .ok (.iload_n 2, 1) := by decide +kernel
theorem dX12_costBy_16 : decode cX12_costBy 16 = .ok (.iaload, 1) := by decide +kernel
theorem dX12_costBy_17 : decode cX12_costBy 17 = .ok (.imul, 1) := by decide +kernel
theorem dX12_costBy_18 : decode cX12_costBy 18 = .ok (.aload_n 0, 1) := by decide +kernel
theorem dX12_costBy_19 : decode cX12_costBy 19 = .ok (.getfield 138, 3) := by decide +kernel
theorem dX12_costBy_22 : decode cX12_costBy 22 = .ok (.sipush 256, 3) := by decide +kernel
theorem dX12_costBy_25 : decode cX12_costBy 25 = .ok (.iload_n 1, 1) := by decide +kernel
theorem dX12_costBy_26 : decode cX12_costBy 26 = .ok (.iconst 1, 1) := by decide +kernel
theorem dX12_costBy_27 : decode cX12_costBy 27 = .ok (.iadd, 1) := by decide +kernel
theorem dX12_costBy_28 : decode cX12_costBy 28 = .ok (.imul, 1) := by decide +kernel
theorem dX12_costBy_29 : decode cX12_costBy 29 = .ok (.iload_n 3, 1) := by decide +kernel
theorem dX12_costBy_30 : decode cX12_costBy 30 = .ok (.iconst 1, 1) := by decide +kernel
theorem dX12_costBy_31 : decode cX12_costBy 31 = .ok (.iload_n 2, 1) := by decide +kernel
theorem dX12_costBy_32 : decode cX12_costBy 32 = .ok (.ishl, 1) := by decide +kernel
theorem dX12_costBy_33 : decode cX12_costBy 33 = .ok (.ior, 1) := by decide +kernel
theorem dX12_costBy_34 : decode cX12_costBy 34 = .ok (.iadd, 1) := by decide +kernel
theorem dX12_costBy_35 : decode cX12_costBy 35 = .ok (.iaload, 1) := by decide +kernel
theorem dX12_costBy_36 : decode cX12_costBy 36 = .ok (.iadd, 1) := by decide +kernel
theorem dX12_costBy_37 : decode cX12_costBy 37 = .ok (.ireturn, 1) := by decide +kernel
def fn_X12_costBy (v1 : Int32) (v2 : Int32) (v3 : Int32) (μ : ro_Mem) : Option Int32 :=
  if ro_in v1 8 then
  (if ro_in (μ 248 v1.toNatClampNeg) 10 then
  (if ro_in v2 8 then
  (if ro_in ((256 * (v1 + 1)) + (v3 ||| ((1 : Int32) <<< (v2 &&& 31)))) 2304 then
  (some (((μ 215 (μ 248 v1.toNatClampNeg).toNatClampNeg) * (μ 249 v2.toNatClampNeg)) + (μ 250 ((256 * (v1 + 1)) + (v3 ||| ((1 : Int32) <<< (v2 &&& 31)))).toNatClampNeg))) else none) else none) else none) else none
theorem be_X12_costBy {K : ro_K} (hK : ro_C K RX12 cX12_costBy 4 0) (hR : ro_R K (some .int)) {v1 : Int32} {v2 : Int32} {v3 : Int32}  {μ : ro_Mem} {out : Int32} (hf : fn_X12_costBy v1 v2 v3 μ = some out) (hq : kQ K (some (.int out)) μ) : ro_X K 0 [(0, .ref (ro_ad (kG K) 207)), (1, .int v1), (2, .int v2), (3, .int v3)] [] μ := by
  unfold fn_X12_costBy at hf
  refine ro_aload_n hK 0 rfl dX12_costBy_0 rfl ?_
  refine ro_getr hK fl_X12_32 sh_207 dX12_costBy_1 ?_
  refine ro_aload_n hK 0 rfl dX12_costBy_4 rfl ?_
  refine ro_getr hK fl_X12_132 sh_207 dX12_costBy_5 ?_
  refine ro_iload_n hK 1 rfl dX12_costBy_8 rfl ?_
  obtain ⟨g1, hf⟩ := ro_gd hf
  refine ro_iald hK sh_248 g1 dX12_costBy_9 ?_
  obtain ⟨g2, hf⟩ := ro_gd hf
  refine ro_iald hK sh_215 g2 dX12_costBy_10 ?_
  refine ro_aload_n hK 0 rfl dX12_costBy_11 rfl ?_
  refine ro_getr hK fl_X12_135 sh_207 dX12_costBy_12 ?_
  refine ro_iload_n hK 2 rfl dX12_costBy_15 rfl ?_
  obtain ⟨g3, hf⟩ := ro_gd hf
  refine ro_iald hK sh_249 g3 dX12_costBy_16 ?_
  refine ro_imul hK dX12_costBy_17 ?_
  refine ro_aload_n hK 0 rfl dX12_costBy_18 rfl ?_
  refine ro_getr hK fl_X12_138 sh_207 dX12_costBy_19 ?_
  refine ro_sipush (v := 256) hK dX12_costBy_22 (by decide) ?_
  refine ro_iload_n hK 1 rfl dX12_costBy_25 rfl ?_
  refine ro_iconst (v := 1) hK dX12_costBy_26 (by decide) ?_
  refine ro_iadd hK dX12_costBy_27 ?_
  refine ro_imul hK dX12_costBy_28 ?_
  refine ro_iload_n hK 3 rfl dX12_costBy_29 rfl ?_
  refine ro_iconst (v := 1) hK dX12_costBy_30 (by decide) ?_
  refine ro_iload_n hK 2 rfl dX12_costBy_31 rfl ?_
  refine ro_ishl hK dX12_costBy_32 ?_
  refine ro_ior hK dX12_costBy_33 ?_
  refine ro_iadd hK dX12_costBy_34 ?_
  obtain ⟨g4, hf⟩ := ro_gd hf
  refine ro_iald hK sh_250 g4 dX12_costBy_35 ?_
  refine ro_iadd hK dX12_costBy_36 ?_
  obtain rfl := Option.some.inj hf
  exact ro_iret hK hR dX12_costBy_37 hq
theorem mt_X12_costBy (l : Launch) (G : ro_G) {v1 : Int32} {v2 : Int32} {v3 : Int32}  {μ : ro_Mem} {out : Int32} (hf : fn_X12_costBy v1 v2 v3 μ = some out) : ro_MX l G yX12_costBy cX12_costBy 4 (some .int) 0 [.ref (ro_ad G 207), .int v1, .int v2, .int v3] μ (some (.int out)) μ := by
  refine ro_MX.of (by decide +kernel) (Nat.le_of_ble_eq_true rfl) (fun K hG hl hq hK hR => ?_)
  subst hG
  exact be_X12_costBy hK hR  hf hq
-- ===== X12_laysSeated =====
theorem dX12_laysSeated_0 : decode cX12_laysSeated 0 = .ok (.iconst 0, 1) := by decide +kernel
theorem dX12_laysSeated_1 : decode cX12_laysSeated 1 = .ok (.istore_n 1, 1) := by decide +kernel
theorem dX12_laysSeated_2 : decode cX12_laysSeated 2 = .ok (.iload_n 1, 1) := by decide +kernel
theorem dX12_laysSeated_3 : decode cX12_laysSeated 3 = .ok (.sipush 256, 3) := by decide +kernel
theorem dX12_laysSeated_6 : decode cX12_laysSeated 6 = .ok (.if_icmp .ge 25, 3) := by decide +kernel
theorem dX12_laysSeated_9 : decode cX12_laysSeated 9 = .ok (.aload_n 0, 1) := by decide +kernel
theorem dX12_laysSeated_10 : decode cX12_laysSeated 10 = .ok (.getfield 138, 3) := by decide +kernel
theorem dX12_laysSeated_13 : decode cX12_laysSeated 13 = .ok (.sipush 256, 3) := by decide +kernel
theorem dX12_laysSeated_16 : decode cX12_laysSeated 16 = .ok (.aload_n 0, 1) := by decide +kernel
theorem dX12_laysSeated_17 : decode cX12_laysSeated 17 = .ok (.getfield 453, 3) := by decide +kernel
theorem dX12_laysSeated_20 : decode cX12_laysSeated 20 = .ok (.imul, 1) := by decide +kernel
theorem dX12_laysSeated_21 : decode cX12_laysSeated 21 = .ok (.iload_n 1, 1) := by decide +kernel
theorem dX12_laysSeated_22 : decode cX12_laysSeated 22 = .ok (.iadd, 1) := by decide +kernel
theorem dX12_laysSeated_23 : decode cX12_laysSeated 23 = .ok (.iconst 0, 1) := by decide +kernel
theorem dX12_laysSeated_24 : decode cX12_laysSeated 24 = .ok (.iastore, 1) := by decide +kernel
theorem dX12_laysSeated_25 : decode cX12_laysSeated 25 = .ok (.iinc 1 1, 3) := by decide +kernel
theorem dX12_laysSeated_28 : decode cX12_laysSeated 28 = .ok (.goto (-26), 3) := by decide +kernel
theorem dX12_laysSeated_31 : decode cX12_laysSeated 31 = .ok (.aload_n 0, 1) := by decide +kernel
theorem dX12_laysSeated_32 : decode cX12_laysSeated 32 = .ok (.getfield 453, 3) := by decide +kernel
theorem dX12_laysSeated_35 : decode cX12_laysSeated 35 = .ok (.iconst 1, 1) := by decide +kernel
theorem dX12_laysSeated_36 : decode cX12_laysSeated 36 = .ok (.isub, 1) := by decide +kernel
theorem dX12_laysSeated_37 : decode cX12_laysSeated 37 = .ok (.istore_n 1, 1) := by decide +kernel
theorem dX12_laysSeated_38 : decode cX12_laysSeated 38 = .ok (.iload_n 1, 1) := by decide +kernel
theorem dX12_laysSeated_39 : decode cX12_laysSeated 39 = .ok (.ifCond .lt 84, 3) := by decide +kernel
theorem dX12_laysSeated_42 : decode cX12_laysSeated 42 = .ok (.iconst 0, 1) := by decide +kernel
theorem dX12_laysSeated_43 : decode cX12_laysSeated 43 = .ok (.istore_n 2, 1) := by decide +kernel
theorem dX12_laysSeated_44 : decode cX12_laysSeated 44 = .ok (.iload_n 2, 1) := by decide +kernel
theorem dX12_laysSeated_45 : decode cX12_laysSeated 45 = .ok (.iconst 1, 1) := by decide +kernel
theorem dX12_laysSeated_46 : decode cX12_laysSeated 46 = .ok (.aload_n 0, 1) := by decide +kernel
theorem dX12_laysSeated_47 : decode cX12_laysSeated 47 = .ok (.getfield 453, 3) := by decide +kernel
theorem dX12_laysSeated_50 : decode cX12_laysSeated 50 = .ok (.ishl, 1) := by decide +kernel
theorem dX12_laysSeated_51 : decode cX12_laysSeated 51 = .ok (.if_icmp .ge 66, 3) := by decide +kernel
theorem dX12_laysSeated_54 : decode cX12_laysSeated 54 = .ok (.ldc_w 456, 3) := by decide +kernel
theorem dX12_laysSeated_57 : decode cX12_laysSeated 57 = .ok (.istore_n 3, 1) := by decide +kernel
theorem dX12_laysSeated_58 : decode cX12_laysSeated 58 = .ok (.iconst 0, 1) := by decide +kernel
theorem dX12_laysSeated_59 : decode cX12_laysSeated 59 = .ok (.istore 4, 2) := by decide +kernel
theorem dX12_laysSeated_61 : decode cX12_laysSeated 61 = .ok (.iload 4, 2) := by decide +kernel
theorem dX12_laysSeated_63 : decode cX12_laysSeated 63 = .ok (.aload_n 0, 1) := by decide +kernel
theorem dX12_laysSeated_64 : decode cX12_laysSeated 64 = .ok (.getfield 453, 3) := by decide +kernel
theorem dX12_laysSeated_67 : decode cX12_laysSeated 67 = .ok (.if_icmp .ge 31, 3) := by decide +kernel
theorem dX12_laysSeated_70 : decode cX12_laysSeated 70 = .ok (.iload_n 2, 1) := by decide +kernel
theorem dX12_laysSeated_71 : decode cX12_laysSeated 71 = .ok (.iload 4, 2) := by decide +kernel
theorem dX12_laysSeated_73 : decode cX12_laysSeated 73 = .ok (.invokestatic 226, 3) := by decide +kernel
theorem dX12_laysSeated_76 : decode cX12_laysSeated 76 = .ok (.ifCond .ne 16, 3) := by decide +kernel
theorem dX12_laysSeated_79 : decode cX12_laysSeated 79 = .ok (.iload_n 3, 1) := by decide +kernel
theorem dX12_laysSeated_80 : decode cX12_laysSeated 80 = .ok (.aload_n 0, 1) := by decide +kernel
theorem dX12_laysSeated_81 : decode cX12_laysSeated 81 = .ok (.iload_n 1, 1) := by decide +kernel
theorem dX12_laysSeated_82 : decode cX12_laysSeated 82 = .ok (.iload 4, 2) := by decide +kernel
theorem dX12_laysSeated_84 : decode cX12_laysSeated 84 = .ok (.iload_n 2, 1) := by decide +kernel
theorem dX12_laysSeated_85 : decode cX12_laysSeated 85 = .ok (.invokevirtual 457, 3) := by decide +kernel
theorem dX12_laysSeated_88 : decode cX12_laysSeated 88 = .ok (.invokestatic 435, 3) := by decide +kernel
theorem dX12_laysSeated_91 : decode cX12_laysSeated 91 = .ok (.istore_n 3, 1) := by decide +kernel
theorem dX12_laysSeated_92 : decode cX12_laysSeated 92 = .ok (.iinc 4 1, 3) := by decide +kernel
theorem dX12_laysSeated_95 : decode cX12_laysSeated 95 = .ok (.goto (-34), 3) := by decide +kernel
theorem dX12_laysSeated_98 : decode cX12_laysSeated 98 = .ok (.aload_n 0, 1) := by decide +kernel
theorem dX12_laysSeated_99 : decode cX12_laysSeated 99 = .ok (.getfield 138, 3) := by decide +kernel
theorem dX12_laysSeated_102 : decode cX12_laysSeated 102 = .ok (.sipush 256, 3) := by decide +kernel
theorem dX12_laysSeated_105 : decode cX12_laysSeated 105 = .ok (.iload_n 1, 1) := by decide +kernel
theorem dX12_laysSeated_106 : decode cX12_laysSeated 106 = .ok (.imul, 1) := by decide +kernel
theorem dX12_laysSeated_107 : decode cX12_laysSeated 107 = .ok (.iload_n 2, 1) := by decide +kernel
theorem dX12_laysSeated_108 : decode cX12_laysSeated 108 = .ok (.iadd, 1) := by decide +kernel
theorem dX12_laysSeated_109 : decode cX12_laysSeated 109 = .ok (.iload_n 3, 1) := by decide +kernel
theorem dX12_laysSeated_110 : decode cX12_laysSeated 110 = .ok (.iastore, 1) := by decide +kernel
theorem dX12_laysSeated_111 : decode cX12_laysSeated 111 = .ok (.iinc 2 1, 3) := by decide +kernel
theorem dX12_laysSeated_114 : decode cX12_laysSeated 114 = .ok (.goto (-70), 3) := by decide +kernel
theorem dX12_laysSeated_117 : decode cX12_laysSeated 117 = .ok (.iinc 1 (-1), 3) := by decide +kernel
theorem dX12_laysSeated_120 : decode cX12_laysSeated 120 = .ok (.goto (-82), 3) := by decide +kernel
theorem dX12_laysSeated_123 : decode cX12_laysSeated 123 = .ok (.return_, 1) := by decide +kernel
def ok_X12_laysSeated_2 (K : ro_K)  : ro_Mem → Prop := fun e => ro_X K 31 [(0, .ref (ro_ad (kG K) 207))] [] e
def fb_X12_laysSeated_2  (rec : (Int32 × ro_Mem) → Option ro_Mem) (v1 : Int32) (μ : ro_Mem) : Option ro_Mem :=
  if 256 ≤ v1 then
  (some μ)
  else
  (if ro_in ((256 * (μ 207 63)) + v1) 2304 then
  (ro_lt (ro_set μ 250 ((256 * (μ 207 63)) + v1).toNatClampNeg 0) fun m3 =>
  rec (v1 + 1, m3)) else none)
theorem bb_X12_laysSeated_2 {K : ro_K} (hK : ro_C K RX12 cX12_laysSeated 5 1) (hR : ro_R K none)   {μ : ro_Mem} {rec : (Int32 × ro_Mem) → Option ro_Mem} {v1 : Int32} {q : ro_Mem} (hrec : ∀ (s : Int32 × ro_Mem) (q : ro_Mem), rec s = some q → ok_X12_laysSeated_2 K q → ro_X K 2 [(0, .ref (ro_ad (kG K) 207)), (1, .int s.1)] [] s.2) (hf : fb_X12_laysSeated_2 rec v1 μ = some q) (hq : ok_X12_laysSeated_2 K q) : ro_X K 2 [(0, .ref (ro_ad (kG K) 207)), (1, .int v1)] [] μ := by
  unfold fb_X12_laysSeated_2 at hf
  refine ro_iload_n hK 1 rfl dX12_laysSeated_2 rfl ?_
  refine ro_sipush (v := 256) hK dX12_laysSeated_3 (by decide) ?_
  refine ro_icmp_ge hK 31 dX12_laysSeated_6 (by decide) (fun c1 => ?_) (fun c1 => ?_)
  · have hf := ro_it hf c1
    refine ro_sub (L' := [(0, .ref (ro_ad (kG K) 207))]) [0] rfl ?_
    obtain rfl := Option.some.inj hf
    exact hq
  · have hf := ro_ie hf c1
    refine ro_aload_n hK 0 rfl dX12_laysSeated_9 rfl ?_
    refine ro_getr hK fl_X12_138 sh_207 dX12_laysSeated_10 ?_
    refine ro_sipush (v := 256) hK dX12_laysSeated_13 (by decide) ?_
    refine ro_aload_n hK 0 rfl dX12_laysSeated_16 rfl ?_
    refine ro_geti hK fl_X12_453 sh_207 dX12_laysSeated_17 ?_
    refine ro_imul hK dX12_laysSeated_20 ?_
    refine ro_iload_n hK 1 rfl dX12_laysSeated_21 rfl ?_
    refine ro_iadd hK dX12_laysSeated_22 ?_
    refine ro_iconst (v := 0) hK dX12_laysSeated_23 (by decide) ?_
    obtain ⟨g2, hf⟩ := ro_gd hf
    obtain ⟨m3, e4, hf⟩ := ro_ld hf
    refine ro_iast hK sh_250 g2 dX12_laysSeated_24 ?_
    refine ro_mv e4 ?_
    refine ro_iinc (v := v1 + 1) (L' := [(1, .int (v1 + 1)), (0, .ref (ro_ad (kG K) 207))]) hK 1 rfl dX12_laysSeated_25 rfl (by decide) rfl ?_
    refine ro_goto hK 2 dX12_laysSeated_28 (by decide) ?_
    refine ro_sub (L' := [(0, .ref (ro_ad (kG K) 207)), (1, .int (v1 + 1))]) [1, 0] rfl ?_
    exact hrec (v1 + 1, m3) _ hf hq
def fl_X12_laysSeated_2  : (Int32 × ro_Mem) → Option ro_Mem :=
  ro_loop (fun rec s => fb_X12_laysSeated_2 rec s.1 s.2) ro_FU
theorem lp_X12_laysSeated_2 {K : ro_K} (hK : ro_C K RX12 cX12_laysSeated 5 1) (hR : ro_R K none)   {s : Int32 × ro_Mem} {q : ro_Mem} (hf : fl_X12_laysSeated_2 s = some q) (hq : ok_X12_laysSeated_2 K q) : ro_X K 2 [(0, .ref (ro_ad (kG K) 207)), (1, .int s.1)] [] s.2 :=
  ro_loopX (b := fun rec s => fb_X12_laysSeated_2 rec s.1 s.2) (X := fun s => ro_X K 2 [(0, .ref (ro_ad (kG K) 207)), (1, .int s.1)] [] s.2) (OK := ok_X12_laysSeated_2 K) (fun rec s q hrec hb ho => bb_X12_laysSeated_2 hK hR  hrec hb ho) ro_FU s q hf hq
def ok_X12_laysSeated_38 (K : ro_K)  : ro_Mem → Prop := fun e => ro_X K 123 [] [] e
def ok_X12_laysSeated_44 (K : ro_K) (v1 : Int32) : ro_Mem → Prop := fun e => ro_X K 117 [(0, .ref (ro_ad (kG K) 207)), (1, .int v1)] [] e
def ok_X12_laysSeated_61 (K : ro_K) (v1 : Int32) (v2 : Int32) (μ : ro_Mem) : Int32 → Prop := fun e => ro_X K 98 [(0, .ref (ro_ad (kG K) 207)), (1, .int v1), (2, .int v2), (3, .int e)] [] μ
def fb_X12_laysSeated_61 (v1 : Int32) (v2 : Int32) (μ : ro_Mem) (rec : (Int32 × Int32) → Option Int32) (v3 : Int32) (v4 : Int32) : Option Int32 :=
  if (μ 207 63) ≤ v4 then
  (some v3)
  else
  ((fn_X12_has v2 v4).bind fun q12 =>
  if q12 = 0 then
  ((fn_X12_costBy v1 v4 v2 μ).bind fun q15 =>
  (fn_X12_min v3 q15).bind fun q17 =>
  rec (q17, v4 + 1))
  else
  (rec (v3, v4 + 1)))
theorem bb_X12_laysSeated_61 {K : ro_K} (hK : ro_C K RX12 cX12_laysSeated 5 1) (hR : ro_R K none) {v1 : Int32} {v2 : Int32}  {μ : ro_Mem} {rec : (Int32 × Int32) → Option Int32} {v3 : Int32} {v4 : Int32} {q : Int32} (hrec : ∀ (s : Int32 × Int32) (q : Int32), rec s = some q → ok_X12_laysSeated_61 K v1 v2 μ q → ro_X K 61 [(0, .ref (ro_ad (kG K) 207)), (1, .int v1), (2, .int v2), (3, .int s.1), (4, .int s.2)] [] μ) (hf : fb_X12_laysSeated_61 v1 v2 μ rec v3 v4 = some q) (hq : ok_X12_laysSeated_61 K v1 v2 μ q) : ro_X K 61 [(0, .ref (ro_ad (kG K) 207)), (1, .int v1), (2, .int v2), (3, .int v3), (4, .int v4)] [] μ := by
  unfold fb_X12_laysSeated_61 at hf
  refine ro_iload hK 4 rfl dX12_laysSeated_61 ?_
  refine ro_aload_n hK 0 rfl dX12_laysSeated_63 rfl ?_
  refine ro_geti hK fl_X12_453 sh_207 dX12_laysSeated_64 ?_
  refine ro_icmp_ge hK 98 dX12_laysSeated_67 (by decide) (fun c11 => ?_) (fun c11 => ?_)
  · have hf := ro_it hf c11
    refine ro_sub (L' := [(0, .ref (ro_ad (kG K) 207)), (1, .int v1), (2, .int v2), (3, .int v3)]) [0, 1, 2, 3] rfl ?_
    obtain rfl := Option.some.inj hf
    exact hq
  · have hf := ro_ie hf c11
    refine ro_iload_n hK 2 rfl dX12_laysSeated_70 rfl ?_
    refine ro_iload hK 4 rfl dX12_laysSeated_71 ?_
    obtain ⟨q12, e13, hf⟩ := ro_bd hf
    refine ro_callsi hK [.int v2, .int v4] ml_X12_226 ms_X12_has (mt_X12_has (kl K) (kG K)  e13) (by decide) rfl rfl (Nat.le_of_ble_eq_true rfl) dX12_laysSeated_73 ?_
    refine ro_if_ne hK 92 dX12_laysSeated_76 (by decide) (fun c14 => ?_) (fun c14 => ?_)
    · have hf := ro_ie hf c14
      refine ro_iinc (v := v4 + 1) (L' := [(4, .int (v4 + 1)), (0, .ref (ro_ad (kG K) 207)), (1, .int v1), (2, .int v2), (3, .int v3)]) hK 4 rfl dX12_laysSeated_92 rfl (by decide) rfl ?_
      refine ro_goto hK 61 dX12_laysSeated_95 (by decide) ?_
      refine ro_sub (L' := [(0, .ref (ro_ad (kG K) 207)), (1, .int v1), (2, .int v2), (3, .int v3), (4, .int (v4 + 1))]) [1, 2, 3, 4, 0] rfl ?_
      exact hrec (v3, v4 + 1) _ hf hq
    · have hf := ro_it hf c14
      refine ro_iload_n hK 3 rfl dX12_laysSeated_79 rfl ?_
      refine ro_aload_n hK 0 rfl dX12_laysSeated_80 rfl ?_
      refine ro_iload_n hK 1 rfl dX12_laysSeated_81 rfl ?_
      refine ro_iload hK 4 rfl dX12_laysSeated_82 ?_
      refine ro_iload_n hK 2 rfl dX12_laysSeated_84 rfl ?_
      obtain ⟨q15, e16, hf⟩ := ro_bd hf
      refine ro_callvi hK [.int v1, .int v4, .int v2] ml_X12_457 mv_X12_costBy (mt_X12_costBy (kl K) (kG K)  e16) sh_207 ⟨_, rfl, rfl⟩ (by decide) rfl rfl (Nat.le_of_ble_eq_true rfl) dX12_laysSeated_85 ?_
      obtain ⟨q17, e18, hf⟩ := ro_bd hf
      refine ro_callsi hK [.int v3, .int q15] ml_X12_435 ms_X12_min (mt_X12_min (kl K) (kG K)  e18) (by decide) rfl rfl (Nat.le_of_ble_eq_true rfl) dX12_laysSeated_88 ?_
      refine ro_istore_n (L' := [(3, .int q17), (0, .ref (ro_ad (kG K) 207)), (1, .int v1), (2, .int v2), (4, .int v4)]) hK dX12_laysSeated_91 rfl (by decide) rfl ?_
      refine ro_iinc (v := v4 + 1) (L' := [(4, .int (v4 + 1)), (3, .int q17), (0, .ref (ro_ad (kG K) 207)), (1, .int v1), (2, .int v2)]) hK 4 rfl dX12_laysSeated_92 rfl (by decide) rfl ?_
      refine ro_goto hK 61 dX12_laysSeated_95 (by decide) ?_
      refine ro_sub (L' := [(0, .ref (ro_ad (kG K) 207)), (1, .int v1), (2, .int v2), (3, .int q17), (4, .int (v4 + 1))]) [2, 3, 4, 1, 0] rfl ?_
      exact hrec (q17, v4 + 1) _ hf hq
def fl_X12_laysSeated_61 (v1 : Int32) (v2 : Int32) (μ : ro_Mem) : (Int32 × Int32) → Option Int32 :=
  ro_loop (fun rec s => fb_X12_laysSeated_61 v1 v2 μ rec s.1 s.2) ro_FU
theorem lp_X12_laysSeated_61 {K : ro_K} (hK : ro_C K RX12 cX12_laysSeated 5 1) (hR : ro_R K none) {v1 : Int32} {v2 : Int32}  {μ : ro_Mem} {s : Int32 × Int32} {q : Int32} (hf : fl_X12_laysSeated_61 v1 v2 μ s = some q) (hq : ok_X12_laysSeated_61 K v1 v2 μ q) : ro_X K 61 [(0, .ref (ro_ad (kG K) 207)), (1, .int v1), (2, .int v2), (3, .int s.1), (4, .int s.2)] [] μ :=
  ro_loopX (b := fun rec s => fb_X12_laysSeated_61 v1 v2 μ rec s.1 s.2) (X := fun s => ro_X K 61 [(0, .ref (ro_ad (kG K) 207)), (1, .int v1), (2, .int v2), (3, .int s.1), (4, .int s.2)] [] μ) (OK := ok_X12_laysSeated_61 K v1 v2 μ) (fun rec s q hrec hb ho => bb_X12_laysSeated_61 hK hR  hrec hb ho) ro_FU s q hf hq
def fb_X12_laysSeated_44 (v1 : Int32) (rec : (Int32 × ro_Mem) → Option ro_Mem) (v2 : Int32) (μ : ro_Mem) : Option ro_Mem :=
  if ((1 : Int32) <<< ((μ 207 63) &&& 31)) ≤ v2 then
  (some μ)
  else
  ((fl_X12_laysSeated_61 v1 v2 μ (1000000000, 0)).bind fun q19 =>
  if ro_in ((256 * v1) + v2) 2304 then
  (ro_lt (ro_set μ 250 ((256 * v1) + v2).toNatClampNeg q19) fun m22 =>
  rec (v2 + 1, m22)) else none)
theorem bb_X12_laysSeated_44 {K : ro_K} (hK : ro_C K RX12 cX12_laysSeated 5 1) (hR : ro_R K none) {v1 : Int32}  {μ : ro_Mem} {rec : (Int32 × ro_Mem) → Option ro_Mem} {v2 : Int32} {q : ro_Mem} (hrec : ∀ (s : Int32 × ro_Mem) (q : ro_Mem), rec s = some q → ok_X12_laysSeated_44 K v1 q → ro_X K 44 [(0, .ref (ro_ad (kG K) 207)), (1, .int v1), (2, .int s.1)] [] s.2) (hf : fb_X12_laysSeated_44 v1 rec v2 μ = some q) (hq : ok_X12_laysSeated_44 K v1 q) : ro_X K 44 [(0, .ref (ro_ad (kG K) 207)), (1, .int v1), (2, .int v2)] [] μ := by
  unfold fb_X12_laysSeated_44 at hf
  refine ro_iload_n hK 2 rfl dX12_laysSeated_44 rfl ?_
  refine ro_iconst (v := 1) hK dX12_laysSeated_45 (by decide) ?_
  refine ro_aload_n hK 0 rfl dX12_laysSeated_46 rfl ?_
  refine ro_geti hK fl_X12_453 sh_207 dX12_laysSeated_47 ?_
  refine ro_ishl hK dX12_laysSeated_50 ?_
  refine ro_icmp_ge hK 117 dX12_laysSeated_51 (by decide) (fun c10 => ?_) (fun c10 => ?_)
  · have hf := ro_it hf c10
    refine ro_sub (L' := [(0, .ref (ro_ad (kG K) 207)), (1, .int v1)]) [0, 1] rfl ?_
    obtain rfl := Option.some.inj hf
    exact hq
  · have hf := ro_ie hf c10
    refine ro_ldcw hK kc_X12_456 dX12_laysSeated_54 ?_
    refine ro_istore_n (L' := [(3, .int 1000000000), (0, .ref (ro_ad (kG K) 207)), (1, .int v1), (2, .int v2)]) hK dX12_laysSeated_57 rfl (by decide) rfl ?_
    refine ro_iconst (v := 0) hK dX12_laysSeated_58 (by decide) ?_
    refine ro_istore (L' := [(4, .int 0), (3, .int 1000000000), (0, .ref (ro_ad (kG K) 207)), (1, .int v1), (2, .int v2)]) hK dX12_laysSeated_59 (by decide) rfl ?_
    obtain ⟨q19, e20, hf⟩ := ro_bd hf
    refine ro_sub (L' := [(0, .ref (ro_ad (kG K) 207)), (1, .int v1), (2, .int v2), (3, .int 1000000000), (4, .int 0)]) [2, 3, 4, 1, 0] rfl ?_
    refine lp_X12_laysSeated_61 hK hR  e20 ?_
    show ro_X K 98 [(0, .ref (ro_ad (kG K) 207)), (1, .int v1), (2, .int v2), (3, .int q19)] [] μ
    refine ro_aload_n hK 0 rfl dX12_laysSeated_98 rfl ?_
    refine ro_getr hK fl_X12_138 sh_207 dX12_laysSeated_99 ?_
    refine ro_sipush (v := 256) hK dX12_laysSeated_102 (by decide) ?_
    refine ro_iload_n hK 1 rfl dX12_laysSeated_105 rfl ?_
    refine ro_imul hK dX12_laysSeated_106 ?_
    refine ro_iload_n hK 2 rfl dX12_laysSeated_107 rfl ?_
    refine ro_iadd hK dX12_laysSeated_108 ?_
    refine ro_iload_n hK 3 rfl dX12_laysSeated_109 rfl ?_
    obtain ⟨g21, hf⟩ := ro_gd hf
    obtain ⟨m22, e23, hf⟩ := ro_ld hf
    refine ro_iast hK sh_250 g21 dX12_laysSeated_110 ?_
    refine ro_mv e23 ?_
    refine ro_iinc (v := v2 + 1) (L' := [(2, .int (v2 + 1)), (0, .ref (ro_ad (kG K) 207)), (1, .int v1), (3, .int q19)]) hK 2 rfl dX12_laysSeated_111 rfl (by decide) rfl ?_
    refine ro_goto hK 44 dX12_laysSeated_114 (by decide) ?_
    refine ro_sub (L' := [(0, .ref (ro_ad (kG K) 207)), (1, .int v1), (2, .int (v2 + 1))]) [1, 2, 0] rfl ?_
    exact hrec (v2 + 1, m22) _ hf hq
def fl_X12_laysSeated_44 (v1 : Int32) : (Int32 × ro_Mem) → Option ro_Mem :=
  ro_loop (fun rec s => fb_X12_laysSeated_44 v1 rec s.1 s.2) ro_FU
theorem lp_X12_laysSeated_44 {K : ro_K} (hK : ro_C K RX12 cX12_laysSeated 5 1) (hR : ro_R K none) {v1 : Int32}  {s : Int32 × ro_Mem} {q : ro_Mem} (hf : fl_X12_laysSeated_44 v1 s = some q) (hq : ok_X12_laysSeated_44 K v1 q) : ro_X K 44 [(0, .ref (ro_ad (kG K) 207)), (1, .int v1), (2, .int s.1)] [] s.2 :=
  ro_loopX (b := fun rec s => fb_X12_laysSeated_44 v1 rec s.1 s.2) (X := fun s => ro_X K 44 [(0, .ref (ro_ad (kG K) 207)), (1, .int v1), (2, .int s.1)] [] s.2) (OK := ok_X12_laysSeated_44 K v1) (fun rec s q hrec hb ho => bb_X12_laysSeated_44 hK hR  hrec hb ho) ro_FU s q hf hq
def fb_X12_laysSeated_38  (rec : (Int32 × ro_Mem) → Option ro_Mem) (v1 : Int32) (μ : ro_Mem) : Option ro_Mem :=
  if v1 < 0 then
  (some μ)
  else
  ((fl_X12_laysSeated_44 v1 (0, μ)).bind fun q24 =>
  rec (v1 + (-1), q24))
theorem bb_X12_laysSeated_38 {K : ro_K} (hK : ro_C K RX12 cX12_laysSeated 5 1) (hR : ro_R K none)   {μ : ro_Mem} {rec : (Int32 × ro_Mem) → Option ro_Mem} {v1 : Int32} {q : ro_Mem} (hrec : ∀ (s : Int32 × ro_Mem) (q : ro_Mem), rec s = some q → ok_X12_laysSeated_38 K q → ro_X K 38 [(0, .ref (ro_ad (kG K) 207)), (1, .int s.1)] [] s.2) (hf : fb_X12_laysSeated_38 rec v1 μ = some q) (hq : ok_X12_laysSeated_38 K q) : ro_X K 38 [(0, .ref (ro_ad (kG K) 207)), (1, .int v1)] [] μ := by
  unfold fb_X12_laysSeated_38 at hf
  refine ro_iload_n hK 1 rfl dX12_laysSeated_38 rfl ?_
  refine ro_if_lt hK 123 dX12_laysSeated_39 (by decide) (fun c9 => ?_) (fun c9 => ?_)
  · have hf := ro_it hf c9
    refine ro_sub (L' := []) [] rfl ?_
    obtain rfl := Option.some.inj hf
    exact hq
  · have hf := ro_ie hf c9
    refine ro_iconst (v := 0) hK dX12_laysSeated_42 (by decide) ?_
    refine ro_istore_n (L' := [(2, .int 0), (0, .ref (ro_ad (kG K) 207)), (1, .int v1)]) hK dX12_laysSeated_43 rfl (by decide) rfl ?_
    obtain ⟨q24, e25, hf⟩ := ro_bd hf
    refine ro_sub (L' := [(0, .ref (ro_ad (kG K) 207)), (1, .int v1), (2, .int 0)]) [1, 2, 0] rfl ?_
    refine lp_X12_laysSeated_44 hK hR  e25 ?_
    show ro_X K 117 [(0, .ref (ro_ad (kG K) 207)), (1, .int v1)] [] q24
    refine ro_iinc (v := v1 + (-1)) (L' := [(1, .int (v1 + (-1))), (0, .ref (ro_ad (kG K) 207))]) hK 1 rfl dX12_laysSeated_117 rfl (by decide) rfl ?_
    refine ro_goto hK 38 dX12_laysSeated_120 (by decide) ?_
    refine ro_sub (L' := [(0, .ref (ro_ad (kG K) 207)), (1, .int (v1 + (-1)))]) [1, 0] rfl ?_
    exact hrec (v1 + (-1), q24) _ hf hq
def fl_X12_laysSeated_38  : (Int32 × ro_Mem) → Option ro_Mem :=
  ro_loop (fun rec s => fb_X12_laysSeated_38 rec s.1 s.2) ro_FU
theorem lp_X12_laysSeated_38 {K : ro_K} (hK : ro_C K RX12 cX12_laysSeated 5 1) (hR : ro_R K none)   {s : Int32 × ro_Mem} {q : ro_Mem} (hf : fl_X12_laysSeated_38 s = some q) (hq : ok_X12_laysSeated_38 K q) : ro_X K 38 [(0, .ref (ro_ad (kG K) 207)), (1, .int s.1)] [] s.2 :=
  ro_loopX (b := fun rec s => fb_X12_laysSeated_38 rec s.1 s.2) (X := fun s => ro_X K 38 [(0, .ref (ro_ad (kG K) 207)), (1, .int s.1)] [] s.2) (OK := ok_X12_laysSeated_38 K) (fun rec s q hrec hb ho => bb_X12_laysSeated_38 hK hR  hrec hb ho) ro_FU s q hf hq
def fn_X12_laysSeated (μ : ro_Mem) : Option ro_Mem :=
  (fl_X12_laysSeated_2  (0, μ)).bind fun q5 =>
  ro_lt ((q5 207 63) - 1) fun z7 =>
  (fl_X12_laysSeated_38  (z7, q5)).bind fun q26 =>
  some q26
theorem be_X12_laysSeated {K : ro_K} (hK : ro_C K RX12 cX12_laysSeated 5 1) (hR : ro_R K none)   {μ : ro_Mem} {out : ro_Mem} (hf : fn_X12_laysSeated μ = some out) (hq : kQ K none out) : ro_X K 0 [(0, .ref (ro_ad (kG K) 207))] [] μ := by
  unfold fn_X12_laysSeated at hf
  refine ro_iconst (v := 0) hK dX12_laysSeated_0 (by decide) ?_
  refine ro_istore_n (L' := [(1, .int 0), (0, .ref (ro_ad (kG K) 207))]) hK dX12_laysSeated_1 rfl (by decide) rfl ?_
  obtain ⟨q5, e6, hf⟩ := ro_bd hf
  refine ro_sub (L' := [(0, .ref (ro_ad (kG K) 207)), (1, .int 0)]) [1, 0] rfl ?_
  refine lp_X12_laysSeated_2 hK hR  e6 ?_
  show ro_X K 31 [(0, .ref (ro_ad (kG K) 207))] [] q5
  refine ro_aload_n hK 0 rfl dX12_laysSeated_31 rfl ?_
  refine ro_geti hK fl_X12_453 sh_207 dX12_laysSeated_32 ?_
  refine ro_iconst (v := 1) hK dX12_laysSeated_35 (by decide) ?_
  refine ro_isub hK dX12_laysSeated_36 ?_
  obtain ⟨z7, e8, hf⟩ := ro_ld hf
  refine ro_iv e8 ?_
  refine ro_istore_n (L' := [(1, .int z7), (0, .ref (ro_ad (kG K) 207))]) hK dX12_laysSeated_37 rfl (by decide) rfl ?_
  obtain ⟨q26, e27, hf⟩ := ro_bd hf
  refine ro_sub (L' := [(0, .ref (ro_ad (kG K) 207)), (1, .int z7)]) [1, 0] rfl ?_
  refine lp_X12_laysSeated_38 hK hR  e27 ?_
  show ro_X K 123 [] [] q26
  obtain rfl := Option.some.inj hf
  exact ro_vret hK hR dX12_laysSeated_123 hq
theorem mt_X12_laysSeated (l : Launch) (G : ro_G)   {μ : ro_Mem} {out : ro_Mem} (hf : fn_X12_laysSeated μ = some out) : ro_MX l G yX12_laysSeated cX12_laysSeated 5 none 1 [.ref (ro_ad G 207)] μ none out := by
  refine ro_MX.of (by decide +kernel) (Nat.le_of_ble_eq_true rfl) (fun K hG hl hq hK hR => ?_)
  subst hG
  exact be_X12_laysSeated hK hR  hf hq
