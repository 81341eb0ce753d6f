-- ===== X0_land =====
theorem dX0_land_0 : decode cX0_land 0 = .ok (.iconst 0, 1) := by decide +kernel
theorem dX0_land_1 : decode cX0_land 1 = .ok (.iload_n 3, 1) := by decide +kernel
theorem dX0_land_2 : decode cX0_land 2 = .ok (.aload_n 0, 1) := by decide +kernel
theorem dX0_land_3 : decode cX0_land 3 = .ok (.getfield 27, 3) := by decide +kernel
theorem dX0_land_6 : decode cX0_land 6 = .ok (.iload_n 2, 1) := by decide +kernel
theorem dX0_land_7 : decode cX0_land 7 = .ok (.iaload, 1) := by decide +kernel
theorem dX0_land_8 : decode cX0_land 8 = .ok (.isub, 1) := by decide +kernel
theorem dX0_land_9 : decode cX0_land 9 = .ok (.invokestatic 92, 3) := by decide +kernel
theorem dX0_land_12 : decode cX0_land 12 = .ok (.istore 4, 2) := by decide +kernel
theorem dX0_land_14 : decode cX0_land 14 = .ok (.aload_n 0, 1) := by decide +kernel
theorem dX0_land_15 : decode cX0_land 15 = .ok (.getfield 27, 3) := by decide +kernel
theorem dX0_land_18 : decode cX0_land 18 = .ok (.iload_n 2, 1) := by decide +kernel
theorem dX0_land_19 : decode cX0_land 19 = .ok (.dup2, 1) := by decide +kernel
theorem dX0_land_20 : decode cX0_land 20 = .ok (.iaload, 1) := by decide +kernel
theorem dX0_land_21 : decode cX0_land 21 = .ok (.iload_n 3, 1) := by decide +kernel
theorem dX0_land_22 : decode cX0_land 22 = .ok (.iload 4, 2) := by decide +kernel
theorem dX0_land_24 : decode cX0_land 24 = .ok (.isub, 1) := by decide +kernel
theorem dX0_land_25 : decode cX0_land 25 = .ok (.isub, 1) := by decide +kernel
theorem dX0_land_26 : decode cX0_land 26 = .ok (.iastore, 1) := by decide +kernel
theorem dX0_land_27 : decode cX0_land 27 = .ok (.aload_n 0, 1) := by decide +kernel
theorem dX0_land_28 : decode cX0_land 28 = .ok (.getfield 18, 3) := by decide +kernel
theorem dX0_land_31 : decode cX0_land 31 = .ok (.iload_n 1, 1) := by decide +kernel
theorem dX0_land_32 : decode cX0_land 32 = .ok (.bipush 96, 2) := by decide +kernel
theorem dX0_land_34 : decode cX0_land 34 = .ok (.imul, 1) := by decide +kernel
theorem dX0_land_35 : decode cX0_land 35 = .ok (.iload_n 2, 1) := by decide +kernel
theorem dX0_land_36 : decode cX0_land 36 = .ok (.iadd, 1) := by decide +kernel
theorem dX0_land_37 : decode cX0_land 37 = .ok (.dup2, 1) := by decide +kernel
theorem dX0_land_38 : decode cX0_land 38 = .ok (.iaload, 1) := by decide +kernel
theorem dX0_land_39 : decode cX0_land 39 = .ok (.iload 4, 2) := by decide +kernel
theorem dX0_land_41 : decode cX0_land 41 = .ok (.iadd, 1) := by decide +kernel
theorem dX0_land_42 : decode cX0_land 42 = .ok (.iastore, 1) := by decide +kernel
theorem dX0_land_43 : decode cX0_land 43 = .ok (.iload 4, 2) := by decide +kernel
theorem dX0_land_45 : decode cX0_land 45 = .ok (.ireturn, 1) := by decide +kernel
def fn_X0_land (v1 : Int32) (v2 : Int32) (v3 : Int32) (μ : ro_Mem) : Option (Int32 × ro_Mem) :=
  if ro_in v2 96 then
  (ro_lt (ro_mx 0 (v3 - (μ 68 v2.toNatClampNeg))) fun z2 =>
  ro_lt (ro_set μ 68 v2.toNatClampNeg ((μ 68 v2.toNatClampNeg) - (v3 - z2))) fun m4 =>
  if ro_in ((v1 * 96) + v2) 384 then
  (ro_lt (ro_set m4 65 ((v1 * 96) + v2).toNatClampNeg ((m4 65 ((v1 * 96) + v2).toNatClampNeg) + z2)) fun m7 =>
  some (z2, m7)) else none) else none
theorem be_X0_land {K : ro_K} (hK : ro_C K RX0 cX0_land 5 1) (hR : ro_R K (some .int)) {v1 : Int32} {v2 : Int32} {v3 : Int32}  {μ : ro_Mem} {out : Int32 × ro_Mem} (hf : fn_X0_land v1 v2 v3 μ = some out) (hq : kQ K (some (.int out.1)) out.2) : ro_X K 0 [(0, .ref (ro_ad (kG K) 62)), (1, .int v1), (2, .int v2), (3, .int v3)] [] μ := by
  unfold fn_X0_land at hf
  refine ro_iconst (v := 0) hK dX0_land_0 (by decide) ?_
  refine ro_iload_n hK 3 rfl dX0_land_1 rfl ?_
  refine ro_aload_n hK 0 rfl dX0_land_2 rfl ?_
  refine ro_getr hK fl_X0_27 sh_62 dX0_land_3 ?_
  refine ro_iload_n hK 2 rfl dX0_land_6 rfl ?_
  obtain ⟨g1, hf⟩ := ro_gd hf
  refine ro_iald hK sh_68 g1 dX0_land_7 ?_
  refine ro_isub hK dX0_land_8 ?_
  refine ro_mmax hK ml_X0_92 (by decide) (Nat.le_of_ble_eq_true rfl) dX0_land_9 ?_
  obtain ⟨z2, e3, hf⟩ := ro_ld hf
  refine ro_iv e3 ?_
  refine ro_istore (L' := [(4, .int z2), (0, .ref (ro_ad (kG K) 62)), (1, .int v1), (2, .int v2), (3, .int v3)]) hK dX0_land_12 (by decide) rfl ?_
  refine ro_aload_n hK 1 rfl dX0_land_14 rfl ?_
  refine ro_getr hK fl_X0_27 sh_62 dX0_land_15 ?_
  refine ro_iload_n hK 3 rfl dX0_land_18 rfl ?_
  refine ro_dup2 hK dX0_land_19 rfl rfl ?_
  refine ro_iald hK sh_68 g1 dX0_land_20 ?_
  refine ro_iload_n hK 4 rfl dX0_land_21 rfl ?_
  refine ro_iload hK 0 rfl dX0_land_22 ?_
  refine ro_isub hK dX0_land_24 ?_
  refine ro_isub hK dX0_land_25 ?_
  obtain ⟨m4, e5, hf⟩ := ro_ld hf
  refine ro_iast hK sh_68 g1 dX0_land_26 ?_
  refine ro_mv e5 ?_
  refine ro_aload_n hK 1 rfl dX0_land_27 rfl ?_
  refine ro_getr hK fl_X0_18 sh_62 dX0_land_28 ?_
  refine ro_iload_n hK 2 rfl dX0_land_31 rfl ?_
  refine ro_bipush (v := 96) hK dX0_land_32 (by decide) ?_
  refine ro_imul hK dX0_land_34 ?_
  refine ro_iload_n hK 3 rfl dX0_land_35 rfl ?_
  refine ro_iadd hK dX0_land_36 ?_
  refine ro_dup2 hK dX0_land_37 rfl rfl ?_
  obtain ⟨g6, hf⟩ := ro_gd hf
  refine ro_iald hK sh_65 g6 dX0_land_38 ?_
  refine ro_iload hK 0 rfl dX0_land_39 ?_
  refine ro_iadd hK dX0_land_41 ?_
  obtain ⟨m7, e8, hf⟩ := ro_ld hf
  refine ro_iast hK sh_65 g6 dX0_land_42 ?_
  refine ro_mv e8 ?_
  refine ro_iload hK 0 rfl dX0_land_43 ?_
  obtain rfl := Option.some.inj hf
  exact ro_iret hK hR dX0_land_45 hq
theorem mt_X0_land (l : Launch) (G : ro_G) {v1 : Int32} {v2 : Int32} {v3 : Int32}  {μ : ro_Mem} {out : Int32 × ro_Mem} (hf : fn_X0_land v1 v2 v3 μ = some out) : ro_MX l G yX0_land cX0_land 5 (some .int) 1 [.ref (ro_ad G 62), .int v1, .int v2, .int v3] μ (some (.int out.1)) out.2 := by
  refine ro_MX.of (by decide +kernel) (Nat.le_of_ble_eq_true rfl) (fun K hG hl hq hK hR => ?_)
  subst hG
  exact be_X0_land hK hR  hf hq
-- ===== X0_fall =====
theorem dX0_fall_0 : decode cX0_fall 0 = .ok (.aload_n 0, 1) := by decide +kernel
theorem dX0_fall_1 : decode cX0_fall 1 = .ok (.getfield 9, 3) := by decide +kernel
theorem dX0_fall_4 : decode cX0_fall 4 = .ok (.iload_n 3, 1) := by decide +kernel
theorem dX0_fall_5 : decode cX0_fall 5 = .ok (.bipush 16, 2) := by decide +kernel
theorem dX0_fall_7 : decode cX0_fall 7 = .ok (.imul, 1) := by decide +kernel
theorem dX0_fall_8 : decode cX0_fall 8 = .ok (.iload 4, 2) := by decide +kernel
theorem dX0_fall_10 : decode cX0_fall 10 = .ok (.iadd, 1) := by decide +kernel
theorem dX0_fall_11 : decode cX0_fall 11 = .ok (.iaload, 1) := by decide +kernel
theorem dX0_fall_12 : decode cX0_fall 12 = .ok (.istore 5, 2) := by decide +kernel
theorem dX0_fall_14 : decode cX0_fall 14 = .ok (.aload_n 1, 1) := by decide +kernel
theorem dX0_fall_15 : decode cX0_fall 15 = .ok (.getfield 82, 3) := by decide +kernel
theorem dX0_fall_18 : decode cX0_fall 18 = .ok (.iload 4, 2) := by decide +kernel
theorem dX0_fall_20 : decode cX0_fall 20 = .ok (.iaload, 1) := by decide +kernel
theorem dX0_fall_21 : decode cX0_fall 21 = .ok (.istore 6, 2) := by decide +kernel
theorem dX0_fall_23 : decode cX0_fall 23 = .ok (.aload_n 1, 1) := by decide +kernel
theorem dX0_fall_24 : decode cX0_fall 24 = .ok (.getfield 85, 3) := by decide +kernel
theorem dX0_fall_27 : decode cX0_fall 27 = .ok (.iload 6, 2) := by decide +kernel
theorem dX0_fall_29 : decode cX0_fall 29 = .ok (.baload, 1) := by decide +kernel
theorem dX0_fall_30 : decode cX0_fall 30 = .ok (.ifCond .ne 17, 3) := by decide +kernel
theorem dX0_fall_33 : decode cX0_fall 33 = .ok (.aload_n 0, 1) := by decide +kernel
theorem dX0_fall_34 : decode cX0_fall 34 = .ok (.iload_n 2, 1) := by decide +kernel
theorem dX0_fall_35 : decode cX0_fall 35 = .ok (.iload 6, 2) := by decide +kernel
theorem dX0_fall_37 : decode cX0_fall 37 = .ok (.iload 5, 2) := by decide +kernel
theorem dX0_fall_39 : decode cX0_fall 39 = .ok (.invokevirtual 89, 3) := by decide +kernel
theorem dX0_fall_42 : decode cX0_fall 42 = .ok (.istore 7, 2) := by decide +kernel
theorem dX0_fall_44 : decode cX0_fall 44 = .ok (.goto 59, 3) := by decide +kernel
theorem dX0_fall_47 : decode cX0_fall 47 = .ok (.iload 6, 2) := by decide +kernel
theorem dX0_fall_49 : decode cX0_fall 49 = .ok (.bipush 12, 2) := by decide +kernel
theorem dX0_fall_51 : decode cX0_fall 51 = .ok (.irem, 1) := by decide +kernel
theorem dX0_fall_52 : decode cX0_fall 52 = .ok (.istore 8, 2) := by decide +kernel
theorem dX0_fall_54 : decode cX0_fall 54 = .ok (.iload 8, 2) := by decide +kernel
theorem dX0_fall_56 : decode cX0_fall 56 = .ok (.ifCond .le 19, 3) := by decide +kernel
theorem dX0_fall_59 : decode cX0_fall 59 = .ok (.aload_n 0, 1) := by decide +kernel
theorem dX0_fall_60 : decode cX0_fall 60 = .ok (.iload_n 2, 1) := by decide +kernel
theorem dX0_fall_61 : decode cX0_fall 61 = .ok (.iload 6, 2) := by decide +kernel
theorem dX0_fall_63 : decode cX0_fall 63 = .ok (.iconst 1, 1) := by decide +kernel
theorem dX0_fall_64 : decode cX0_fall 64 = .ok (.isub, 1) := by decide +kernel
theorem dX0_fall_65 : decode cX0_fall 65 = .ok (.iload 5, 2) := by decide +kernel
theorem dX0_fall_67 : decode cX0_fall 67 = .ok (.iconst 3, 1) := by decide +kernel
theorem dX0_fall_68 : decode cX0_fall 68 = .ok (.idiv, 1) := by decide +kernel
theorem dX0_fall_69 : decode cX0_fall 69 = .ok (.invokevirtual 89, 3) := by decide +kernel
theorem dX0_fall_72 : decode cX0_fall 72 = .ok (.goto 4, 3) := by decide +kernel
theorem dX0_fall_75 : decode cX0_fall 75 = .ok (.iconst 0, 1) := by decide +kernel
theorem dX0_fall_76 : decode cX0_fall 76 = .ok (.iload 8, 2) := by decide +kernel
theorem dX0_fall_78 : decode cX0_fall 78 = .ok (.bipush 11, 2) := by decide +kernel
theorem dX0_fall_80 : decode cX0_fall 80 = .ok (.if_icmp .ge 19, 3) := by decide +kernel
theorem dX0_fall_83 : decode cX0_fall 83 = .ok (.aload_n 0, 1) := by decide +kernel
theorem dX0_fall_84 : decode cX0_fall 84 = .ok (.iload_n 2, 1) := by decide +kernel
theorem dX0_fall_85 : decode cX0_fall 85 = .ok (.iload 6, 2) := by decide +kernel
theorem dX0_fall_87 : decode cX0_fall 87 = .ok (.iconst 1, 1) := by decide +kernel
theorem dX0_fall_88 : decode cX0_fall 88 = .ok (.iadd, 1) := by decide +kernel
theorem dX0_fall_89 : decode cX0_fall 89 = .ok (.iload 5, 2) := by decide +kernel
theorem dX0_fall_91 : decode cX0_fall 91 = .ok (.iconst 3, 1) := by decide +kernel
theorem dX0_fall_92 : decode cX0_fall 92 = .ok (.idiv, 1) := by decide +kernel
theorem dX0_fall_93 : decode cX0_fall 93 = .ok (.invokevirtual 89, 3) := by decide +kernel
theorem dX0_fall_96 : decode cX0_fall 96 = .ok (.goto 4, 3) := by decide +kernel
theorem dX0_fall_99 : decode cX0_fall 99 = .ok (.iconst 0, 1) := by decide +kernel
theorem dX0_fall_100 : decode cX0_fall 100 = .ok (.iadd, 1) := by decide +kernel
theorem dX0_fall_101 : decode cX0_fall 101 = .ok (.istore 7, 2) := by decide +kernel
theorem dX0_fall_103 : decode cX0_fall 103 = .ok (.aload_n 0, 1) := by decide +kernel
theorem dX0_fall_104 : decode cX0_fall 104 = .ok (.getfield 21, 3) := by decide +kernel
theorem dX0_fall_107 : decode cX0_fall 107 = .ok (.iload_n 3, 1) := by decide +kernel
theorem dX0_fall_108 : decode cX0_fall 108 = .ok (.dup2, 1) := by decide +kernel
theorem dX0_fall_109 : decode cX0_fall 109 = .ok (.iaload, 1) := by decide +kernel
theorem dX0_fall_110 : decode cX0_fall 110 = .ok (.iload 7, 2) := by decide +kernel
theorem dX0_fall_112 : decode cX0_fall 112 = .ok (.iadd, 1) := by decide +kernel
theorem dX0_fall_113 : decode cX0_fall 113 = .ok (.iastore, 1) := by decide +kernel
theorem dX0_fall_114 : decode cX0_fall 114 = .ok (.aload_n 0, 1) := by decide +kernel
theorem dX0_fall_115 : decode cX0_fall 115 = .ok (.getfield 24, 3) := by decide +kernel
theorem dX0_fall_118 : decode cX0_fall 118 = .ok (.iload 4, 2) := by decide +kernel
theorem dX0_fall_120 : decode cX0_fall 120 = .ok (.dup2, 1) := by decide +kernel
theorem dX0_fall_121 : decode cX0_fall 121 = .ok (.iaload, 1) := by decide +kernel
theorem dX0_fall_122 : decode cX0_fall 122 = .ok (.iload 7, 2) := by decide +kernel
theorem dX0_fall_124 : decode cX0_fall 124 = .ok (.iadd, 1) := by decide +kernel
theorem dX0_fall_125 : decode cX0_fall 125 = .ok (.iastore, 1) := by decide +kernel
theorem dX0_fall_126 : decode cX0_fall 126 = .ok (.return_, 1) := by decide +kernel
def fj_X0_fall_103 (v3 : Int32) (v4 : Int32) (v7 : Int32) (μ : ro_Mem) : Option ro_Mem :=
  if ro_in v3 32 then
  (ro_lt (ro_set μ 66 v3.toNatClampNeg ((μ 66 v3.toNatClampNeg) + v7)) fun m16 =>
  if ro_in v4 16 then
  (ro_lt (ro_set m16 67 v4.toNatClampNeg ((m16 67 v4.toNatClampNeg) + v7)) fun m19 =>
  some m19) else none) else none
theorem bj_X0_fall_103 {K : ro_K} (hK : ro_C K RX0 cX0_fall 9 2) (hR : ro_R K none) {v3 : Int32} {v4 : Int32} {v7 : Int32}   {μ : ro_Mem}  {out : ro_Mem} (hf : fj_X0_fall_103 v3 v4 v7 μ = some out) (hq : kQ K none out) : ro_X K 103 [(0, .ref (ro_ad (kG K) 62)), (3, .int v3), (4, .int v4), (7, .int v7)] [] μ := by
  unfold fj_X0_fall_103 at hf
  refine ro_aload_n hK 0 rfl dX0_fall_103 rfl ?_
  refine ro_getr hK fl_X0_21 sh_62 dX0_fall_104 ?_
  refine ro_iload_n hK 1 rfl dX0_fall_107 rfl ?_
  refine ro_dup2 hK dX0_fall_108 rfl rfl ?_
  obtain ⟨g15, hf⟩ := ro_gd hf
  refine ro_iald hK sh_66 g15 dX0_fall_109 ?_
  refine ro_iload hK 3 rfl dX0_fall_110 ?_
  refine ro_iadd hK dX0_fall_112 ?_
  obtain ⟨m16, e17, hf⟩ := ro_ld hf
  refine ro_iast hK sh_66 g15 dX0_fall_113 ?_
  refine ro_mv e17 ?_
  refine ro_aload_n hK 0 rfl dX0_fall_114 rfl ?_
  refine ro_getr hK fl_X0_24 sh_62 dX0_fall_115 ?_
  refine ro_iload hK 2 rfl dX0_fall_118 ?_
  refine ro_dup2 hK dX0_fall_120 rfl rfl ?_
  obtain ⟨g18, hf⟩ := ro_gd hf
  refine ro_iald hK sh_67 g18 dX0_fall_121 ?_
  refine ro_iload hK 3 rfl dX0_fall_122 ?_
  refine ro_iadd hK dX0_fall_124 ?_
  obtain ⟨m19, e20, hf⟩ := ro_ld hf
  refine ro_iast hK sh_67 g18 dX0_fall_125 ?_
  refine ro_mv e20 ?_
  obtain rfl := Option.some.inj hf
  exact ro_vret hK hR dX0_fall_126 hq
def fj_X0_fall_100 (v3 : Int32) (v4 : Int32) (t0 : Int32) (t1 : Int32) (μ : ro_Mem) : Option ro_Mem :=
  ro_lt (t0 + t1) fun z13 =>
  fj_X0_fall_103 v3 v4 z13 μ
theorem bj_X0_fall_100 {K : ro_K} (hK : ro_C K RX0 cX0_fall 9 2) (hR : ro_R K none) {v3 : Int32} {v4 : Int32} {t0 : Int32} {t1 : Int32}   {μ : ro_Mem}  {out : ro_Mem} (hf : fj_X0_fall_100 v3 v4 t0 t1 μ = some out) (hq : kQ K none out) : ro_X K 100 [(0, .ref (ro_ad (kG K) 62)), (3, .int v3), (4, .int v4)] [.int t1, .int t0] μ := by
  unfold fj_X0_fall_100 at hf
  refine ro_iadd hK dX0_fall_100 ?_
  obtain ⟨z13, e14, hf⟩ := ro_ld hf
  refine ro_iv e14 ?_
  refine ro_istore (L' := [(7, .int z13), (0, .ref (ro_ad (kG K) 62)), (3, .int v3), (4, .int v4)]) hK dX0_fall_101 (by decide) rfl ?_
  refine ro_sub (L' := [(0, .ref (ro_ad (kG K) 62)), (3, .int v3), (4, .int v4), (7, .int z13)]) [1, 2, 3, 0] rfl ?_
  exact bj_X0_fall_103 hK hR  hf hq
def fj_X0_fall_76 (v2 : Int32) (v3 : Int32) (v4 : Int32) (v5 : Int32) (v6 : Int32) (v8 : Int32) (t0 : Int32) (μ : ro_Mem) : Option ro_Mem :=
  if 11 ≤ v8 then
  (fj_X0_fall_100 v3 v4 t0 0 μ)
  else
  ((fn_X0_land v2 (v6 + 1) (v5 / 3) μ).bind fun q21 =>
  fj_X0_fall_100 v3 v4 t0 q21.1 q21.2)
theorem bj_X0_fall_76 {K : ro_K} (hK : ro_C K RX0 cX0_fall 9 2) (hR : ro_R K none) {v2 : Int32} {v3 : Int32} {v4 : Int32} {v5 : Int32} {v6 : Int32} {v8 : Int32} {t0 : Int32}   {μ : ro_Mem}  {out : ro_Mem} (hf : fj_X0_fall_76 v2 v3 v4 v5 v6 v8 t0 μ = some out) (hq : kQ K none out) : ro_X K 76 [(0, .ref (ro_ad (kG K) 62)), (2, .int v2), (3, .int v3), (4, .int v4), (5, .int v5), (6, .int v6), (8, .int v8)] [.int t0] μ := by
  unfold fj_X0_fall_76 at hf
  refine ro_iload hK 6 rfl dX0_fall_76 ?_
  refine ro_bipush (v := 11) hK dX0_fall_78 (by decide) ?_
  refine ro_icmp_ge hK 99 dX0_fall_80 (by decide) (fun c12 => ?_) (fun c12 => ?_)
  · have hf := ro_it hf c12
    refine ro_iconst (v := 0) hK dX0_fall_99 (by decide) ?_
    refine ro_sub (L' := [(0, .ref (ro_ad (kG K) 62)), (3, .int v3), (4, .int v4)]) [0, 2, 3] rfl ?_
    exact bj_X0_fall_100 hK hR  hf hq
  · have hf := ro_ie hf c12
    refine ro_aload_n hK 0 rfl dX0_fall_83 rfl ?_
    refine ro_iload_n hK 1 rfl dX0_fall_84 rfl ?_
    refine ro_iload hK 5 rfl dX0_fall_85 ?_
    refine ro_iconst (v := 1) hK dX0_fall_87 (by decide) ?_
    refine ro_iadd hK dX0_fall_88 ?_
    refine ro_iload hK 4 rfl dX0_fall_89 ?_
    refine ro_iconst (v := 3) hK dX0_fall_91 (by decide) ?_
    refine ro_idiv hK dX0_fall_92 (by decide) ?_
    obtain ⟨q21, e22, hf⟩ := ro_bd hf
    refine ro_callvi hK [.int v2, .int (v6 + 1), .int (v5 / 3)] ml_X0_89 mv_X0_land (mt_X0_land (kl K) (kG K)  e22) sh_62 ⟨_, rfl, rfl⟩ (by decide) rfl rfl (Nat.le_of_ble_eq_true rfl) dX0_fall_93 ?_
    refine ro_goto hK 100 dX0_fall_96 (by decide) ?_
    refine ro_sub (L' := [(0, .ref (ro_ad (kG K) 62)), (3, .int v3), (4, .int v4)]) [0, 2, 3] rfl ?_
    exact bj_X0_fall_100 hK hR  hf hq
def fn_X0_fall (o1 : Nat) (v2 : Int32) (v3 : Int32) (v4 : Int32) (μ : ro_Mem) : Option ro_Mem :=
  if ro_in ((v3 * 16) + v4) 512 then
  (ro_lt (μ 63 ((v3 * 16) + v4).toNatClampNeg) fun z2 =>
  if ro_in v4 16 then
  (ro_lt (μ (o1 + 4) v4.toNatClampNeg) fun z5 =>
  if ro_in z5 96 then
  (if (μ (o1 + 1) z5.toNatClampNeg) = 0 then
  ((fn_X0_land v2 z5 z2 μ).bind fun q25 =>
  fj_X0_fall_103 v3 v4 q25.1 q25.2)
  else
  (ro_lt (ro_rem z5 12) fun z9 =>
  if z9 ≤ 0 then
  (fj_X0_fall_76 v2 v3 v4 z2 z5 z9 0 μ)
  else
  ((fn_X0_land v2 (z5 - 1) (z2 / 3) μ).bind fun q23 =>
  fj_X0_fall_76 v2 v3 v4 z2 z5 z9 q23.1 q23.2))) else none) else none) else none
theorem be_X0_fall {K : ro_K} (hK : ro_C K RX0 cX0_fall 9 2) (hR : ro_R K none) {o1 : Nat} {v2 : Int32} {v3 : Int32} {v4 : Int32} (h1 : ro_sh o1 = (0, 1)) {μ : ro_Mem} {out : ro_Mem} (hf : fn_X0_fall o1 v2 v3 v4 μ = some out) (hq : kQ K none out) : ro_X K 0 [(0, .ref (ro_ad (kG K) 62)), (1, .ref (ro_ad (kG K) o1)), (2, .int v2), (3, .int v3), (4, .int v4)] [] μ := by
  unfold fn_X0_fall at hf
  refine ro_aload_n hK 0 rfl dX0_fall_0 rfl ?_
  refine ro_getr hK fl_X0_9 sh_62 dX0_fall_1 ?_
  refine ro_iload_n hK 3 rfl dX0_fall_4 rfl ?_
  refine ro_bipush (v := 16) hK dX0_fall_5 (by decide) ?_
  refine ro_imul hK dX0_fall_7 ?_
  refine ro_iload hK 4 rfl dX0_fall_8 ?_
  refine ro_iadd hK dX0_fall_10 ?_
  obtain ⟨g1, hf⟩ := ro_gd hf
  refine ro_iald hK sh_63 g1 dX0_fall_11 ?_
  obtain ⟨z2, e3, hf⟩ := ro_ld hf
  refine ro_iv e3 ?_
  refine ro_istore (L' := [(5, .int z2), (0, .ref (ro_ad (kG K) 62)), (1, .ref (ro_ad (kG K) o1)), (2, .int v2), (3, .int v3), (4, .int v4)]) hK dX0_fall_12 (by decide) rfl ?_
  refine ro_aload_n hK 2 rfl dX0_fall_14 rfl ?_
  refine ro_getr hK fl_X0_82 h1 dX0_fall_15 ?_
  refine ro_iload hK 5 rfl dX0_fall_18 ?_
  obtain ⟨g4, hf⟩ := ro_gd hf
  refine ro_iald hK (so_1_4 h1) g4 dX0_fall_20 ?_
  obtain ⟨z5, e6, hf⟩ := ro_ld hf
  refine ro_iv e6 ?_
  refine ro_istore (L' := [(6, .int z5), (5, .int z2), (0, .ref (ro_ad (kG K) 62)), (1, .ref (ro_ad (kG K) o1)), (2, .int v2), (3, .int v3), (4, .int v4)]) hK dX0_fall_21 (by decide) rfl ?_
  refine ro_aload_n hK 3 rfl dX0_fall_23 rfl ?_
  refine ro_getr hK fl_X0_85 h1 dX0_fall_24 ?_
  refine ro_iload hK 0 rfl dX0_fall_27 ?_
  obtain ⟨g7, hf⟩ := ro_gd hf
  refine ro_zald hK (so_1_1 h1) g7 dX0_fall_29 ?_
  refine ro_if_ne hK 47 dX0_fall_30 (by decide) (fun c8 => ?_) (fun c8 => ?_)
  · have hf := ro_ie hf c8
    refine ro_iload hK 0 rfl dX0_fall_47 ?_
    refine ro_bipush (v := 12) hK dX0_fall_49 (by decide) ?_
    refine ro_irem hK dX0_fall_51 (by decide) ?_
    obtain ⟨z9, e10, hf⟩ := ro_ld hf
    refine ro_iv e10 ?_
    refine ro_istore (L' := [(8, .int z9), (6, .int z5), (5, .int z2), (0, .ref (ro_ad (kG K) 62)), (1, .ref (ro_ad (kG K) o1)), (2, .int v2), (3, .int v3), (4, .int v4)]) hK dX0_fall_52 (by decide) rfl ?_
    refine ro_iload hK 0 rfl dX0_fall_54 ?_
    refine ro_if_le hK 75 dX0_fall_56 (by decide) (fun c11 => ?_) (fun c11 => ?_)
    · have hf := ro_it hf c11
      refine ro_iconst (v := 0) hK dX0_fall_75 (by decide) ?_
      refine ro_sub (L' := [(0, .ref (ro_ad (kG K) 62)), (2, .int v2), (3, .int v3), (4, .int v4), (5, .int z2), (6, .int z5), (8, .int z9)]) [3, 5, 6, 7, 2, 1, 0] rfl ?_
      exact bj_X0_fall_76 hK hR  hf hq
    · have hf := ro_ie hf c11
      refine ro_aload_n hK 3 rfl dX0_fall_59 rfl ?_
      refine ro_iload_n hK 5 rfl dX0_fall_60 rfl ?_
      refine ro_iload hK 1 rfl dX0_fall_61 ?_
      refine ro_iconst (v := 1) hK dX0_fall_63 (by decide) ?_
      refine ro_isub hK dX0_fall_64 ?_
      refine ro_iload hK 2 rfl dX0_fall_65 ?_
      refine ro_iconst (v := 3) hK dX0_fall_67 (by decide) ?_
      refine ro_idiv hK dX0_fall_68 (by decide) ?_
      obtain ⟨q23, e24, hf⟩ := ro_bd hf
      refine ro_callvi hK [.int v2, .int (z5 - 1), .int (z2 / 3)] ml_X0_89 mv_X0_land (mt_X0_land (kl K) (kG K)  e24) sh_62 ⟨_, rfl, rfl⟩ (by decide) rfl rfl (Nat.le_of_ble_eq_true rfl) dX0_fall_69 ?_
      refine ro_goto hK 76 dX0_fall_72 (by decide) ?_
      refine ro_sub (L' := [(0, .ref (ro_ad (kG K) 62)), (2, .int v2), (3, .int v3), (4, .int v4), (5, .int z2), (6, .int z5), (8, .int z9)]) [3, 5, 6, 7, 2, 1, 0] rfl ?_
      exact bj_X0_fall_76 hK hR  hf hq
  · have hf := ro_it hf c8
    refine ro_aload_n hK 2 rfl dX0_fall_33 rfl ?_
    refine ro_iload_n hK 4 rfl dX0_fall_34 rfl ?_
    refine ro_iload hK 0 rfl dX0_fall_35 ?_
    refine ro_iload hK 1 rfl dX0_fall_37 ?_
    obtain ⟨q25, e26, hf⟩ := ro_bd hf
    refine ro_callvi hK [.int v2, .int z5, .int z2] ml_X0_89 mv_X0_land (mt_X0_land (kl K) (kG K)  e26) sh_62 ⟨_, rfl, rfl⟩ (by decide) rfl rfl (Nat.le_of_ble_eq_true rfl) dX0_fall_39 ?_
    refine ro_istore (L' := [(7, .int q25.1), (6, .int z5), (5, .int z2), (0, .ref (ro_ad (kG K) 62)), (1, .ref (ro_ad (kG K) o1)), (2, .int v2), (3, .int v3), (4, .int v4)]) hK dX0_fall_42 (by decide) rfl ?_
    refine ro_goto hK 103 dX0_fall_44 (by decide) ?_
    refine ro_sub (L' := [(0, .ref (ro_ad (kG K) 62)), (3, .int v3), (4, .int v4), (7, .int q25.1)]) [3, 6, 7, 0] rfl ?_
    exact bj_X0_fall_103 hK hR  hf hq
theorem mt_X0_fall (l : Launch) (G : ro_G) {o1 : Nat} {v2 : Int32} {v3 : Int32} {v4 : Int32} (h1 : ro_sh o1 = (0, 1)) {μ : ro_Mem} {out : ro_Mem} (hf : fn_X0_fall o1 v2 v3 v4 μ = some out) : ro_MX l G yX0_fall cX0_fall 9 none 2 [.ref (ro_ad G 62), .ref (ro_ad G o1), .int v2, .int v3, .int v4] μ none out := by
  refine ro_MX.of (by decide +kernel) (Nat.le_of_ble_eq_true rfl) (fun K hG hl hq hK hR => ?_)
  subst hG
  exact be_X0_fall hK hR h1 hf hq
-- ===== X0_fallInAct =====
theorem dX0_fallInAct_0 : decode cX0_fallInAct 0 = .ok (.iconst 0, 1) := by decide +kernel
theorem dX0_fallInAct_1 : decode cX0_fallInAct 1 = .ok (.istore_n 3, 1) := by decide +kernel
theorem dX0_fallInAct_2 : decode cX0_fallInAct 2 = .ok (.iload_n 3, 1) := by decide +kernel
theorem dX0_fallInAct_3 : decode cX0_fallInAct 3 = .ok (.aload_n 1, 1) := by decide +kernel
theorem dX0_fallInAct_4 : decode cX0_fallInAct 4 = .ok (.getfield 57, 3) := by decide +kernel
theorem dX0_fallInAct_7 : decode cX0_fallInAct 7 = .ok (.getfield 61, 3) := by decide +kernel
theorem dX0_fallInAct_10 : decode cX0_fallInAct 10 = .ok (.if_icmp .ge 94, 3) := by decide +kernel
theorem dX0_fallInAct_13 : decode cX0_fallInAct 13 = .ok (.iload_n 2, 1) := by decide +kernel
theorem dX0_fallInAct_14 : decode cX0_fallInAct 14 = .ok (.aload_n 1, 1) := by decide +kernel
theorem dX0_fallInAct_15 : decode cX0_fallInAct 15 = .ok (.getfield 57, 3) := by decide +kernel
theorem dX0_fallInAct_18 : decode cX0_fallInAct 18 = .ok (.getfield 71, 3) := by decide +kernel
theorem dX0_fallInAct_21 : decode cX0_fallInAct 21 = .ok (.iload_n 3, 1) := by decide +kernel
theorem dX0_fallInAct_22 : decode cX0_fallInAct 22 = .ok (.iaload, 1) := by decide +kernel
theorem dX0_fallInAct_23 : decode cX0_fallInAct 23 = .ok (.isub, 1) := by decide +kernel
theorem dX0_fallInAct_24 : decode cX0_fallInAct 24 = .ok (.istore 4, 2) := by decide +kernel
theorem dX0_fallInAct_26 : decode cX0_fallInAct 26 = .ok (.iload 4, 2) := by decide +kernel
theorem dX0_fallInAct_28 : decode cX0_fallInAct 28 = .ok (.ifCond .eq 12, 3) := by decide +kernel
theorem dX0_fallInAct_31 : decode cX0_fallInAct 31 = .ok (.iload 4, 2) := by decide +kernel
theorem dX0_fallInAct_33 : decode cX0_fallInAct 33 = .ok (.iconst 1, 1) := by decide +kernel
theorem dX0_fallInAct_34 : decode cX0_fallInAct 34 = .ok (.if_icmp .eq 6, 3) := by decide +kernel
theorem dX0_fallInAct_37 : decode cX0_fallInAct 37 = .ok (.goto 61, 3) := by decide +kernel
theorem dX0_fallInAct_40 : decode cX0_fallInAct 40 = .ok (.iconst 0, 1) := by decide +kernel
theorem dX0_fallInAct_41 : decode cX0_fallInAct 41 = .ok (.istore 5, 2) := by decide +kernel
theorem dX0_fallInAct_43 : decode cX0_fallInAct 43 = .ok (.iload 5, 2) := by decide +kernel
theorem dX0_fallInAct_45 : decode cX0_fallInAct 45 = .ok (.bipush 16, 2) := by decide +kernel
theorem dX0_fallInAct_47 : decode cX0_fallInAct 47 = .ok (.if_icmp .ge 51, 3) := by decide +kernel
theorem dX0_fallInAct_50 : decode cX0_fallInAct 50 = .ok (.iload_n 3, 1) := by decide +kernel
theorem dX0_fallInAct_51 : decode cX0_fallInAct 51 = .ok (.bipush 16, 2) := by decide +kernel
theorem dX0_fallInAct_53 : decode cX0_fallInAct 53 = .ok (.imul, 1) := by decide +kernel
theorem dX0_fallInAct_54 : decode cX0_fallInAct 54 = .ok (.iload 5, 2) := by decide +kernel
theorem dX0_fallInAct_56 : decode cX0_fallInAct 56 = .ok (.iadd, 1) := by decide +kernel
theorem dX0_fallInAct_57 : decode cX0_fallInAct 57 = .ok (.istore 6, 2) := by decide +kernel
theorem dX0_fallInAct_59 : decode cX0_fallInAct 59 = .ok (.aload_n 0, 1) := by decide +kernel
theorem dX0_fallInAct_60 : decode cX0_fallInAct 60 = .ok (.getfield 9, 3) := by decide +kernel
theorem dX0_fallInAct_63 : decode cX0_fallInAct 63 = .ok (.iload 6, 2) := by decide +kernel
theorem dX0_fallInAct_65 : decode cX0_fallInAct 65 = .ok (.iaload, 1) := by decide +kernel
theorem dX0_fallInAct_66 : decode cX0_fallInAct 66 = .ok (.ifCond .le 26, 3) := by decide +kernel
theorem dX0_fallInAct_69 : decode cX0_fallInAct 69 = .ok (.aload_n 0, 1) := by decide +kernel
theorem dX0_fallInAct_70 : decode cX0_fallInAct 70 = .ok (.getfield 15, 3) := by decide +kernel
theorem dX0_fallInAct_73 : decode cX0_fallInAct 73 = .ok (.iload 6, 2) := by decide +kernel
theorem dX0_fallInAct_75 : decode cX0_fallInAct 75 = .ok (.iaload, 1) := by decide +kernel
theorem dX0_fallInAct_76 : decode cX0_fallInAct 76 = .ok (.iload_n 2, 1) := by decide +kernel
theorem dX0_fallInAct_77 : decode cX0_fallInAct 77 = .ok (.if_icmp .ne 15, 3) := by decide +kernel
theorem dX0_fallInAct_80 : decode cX0_fallInAct 80 = .ok (.aload_n 0, 1) := by decide +kernel
theorem dX0_fallInAct_81 : decode cX0_fallInAct 81 = .ok (.aload_n 1, 1) := by decide +kernel
theorem dX0_fallInAct_82 : decode cX0_fallInAct 82 = .ok (.getfield 36, 3) := by decide +kernel
theorem dX0_fallInAct_85 : decode cX0_fallInAct 85 = .ok (.iload_n 2, 1) := by decide +kernel
theorem dX0_fallInAct_86 : decode cX0_fallInAct 86 = .ok (.iload_n 3, 1) := by decide +kernel
theorem dX0_fallInAct_87 : decode cX0_fallInAct 87 = .ok (.iload 5, 2) := by decide +kernel
theorem dX0_fallInAct_89 : decode cX0_fallInAct 89 = .ok (.invokevirtual 78, 3) := by decide +kernel
theorem dX0_fallInAct_92 : decode cX0_fallInAct 92 = .ok (.iinc 5 1, 3) := by decide +kernel
theorem dX0_fallInAct_95 : decode cX0_fallInAct 95 = .ok (.goto (-52), 3) := by decide +kernel
theorem dX0_fallInAct_98 : decode cX0_fallInAct 98 = .ok (.iinc 3 1, 3) := by decide +kernel
theorem dX0_fallInAct_101 : decode cX0_fallInAct 101 = .ok (.goto (-99), 3) := by decide +kernel
theorem dX0_fallInAct_104 : decode cX0_fallInAct 104 = .ok (.return_, 1) := by decide +kernel
def ok_X0_fallInAct_2 (K : ro_K) (v2 : Int32) : ro_Mem → Prop := fun e => ro_X K 104 [] [] e
def ok_X0_fallInAct_43 (K : ro_K) (v2 : Int32) (v3 : Int32) : ro_Mem → Prop := fun e => ro_X K 98 [(0, .ref (ro_ad (kG K) 62)), (1, .ref (ro_ad (kG K) 1)), (2, .int v2), (3, .int v3)] [] e
def fb_X0_fallInAct_43 (v2 : Int32) (v3 : Int32) (rec : (Int32 × ro_Mem) → Option ro_Mem) (v5 : Int32) (μ : ro_Mem) : Option ro_Mem :=
  if 16 ≤ v5 then
  (some μ)
  else
  (ro_lt ((v3 * 16) + v5) fun z8 =>
  if ro_in z8 512 then
  (if (μ 63 z8.toNatClampNeg) ≤ 0 then
  (rec (v5 + 1, μ))
  else
  (if (μ 64 z8.toNatClampNeg) = v2 then
  ((fn_X0_fall 2 v2 v3 v5 μ).bind fun q13 =>
  rec (v5 + 1, q13))
  else
  (rec (v5 + 1, μ)))) else none)
theorem bb_X0_fallInAct_43 {K : ro_K} (hK : ro_C K RX0 cX0_fallInAct 7 3) (hR : ro_R K none) {v2 : Int32} {v3 : Int32}  {μ : ro_Mem} {rec : (Int32 × ro_Mem) → Option ro_Mem} {v5 : Int32} {q : ro_Mem} (hrec : ∀ (s : Int32 × ro_Mem) (q : ro_Mem), rec s = some q → ok_X0_fallInAct_43 K v2 v3 q → ro_X K 43 [(0, .ref (ro_ad (kG K) 62)), (1, .ref (ro_ad (kG K) 1)), (2, .int v2), (3, .int v3), (5, .int s.1)] [] s.2) (hf : fb_X0_fallInAct_43 v2 v3 rec v5 μ = some q) (hq : ok_X0_fallInAct_43 K v2 v3 q) : ro_X K 43 [(0, .ref (ro_ad (kG K) 62)), (1, .ref (ro_ad (kG K) 1)), (2, .int v2), (3, .int v3), (5, .int v5)] [] μ := by
  unfold fb_X0_fallInAct_43 at hf
  refine ro_iload hK 4 rfl dX0_fallInAct_43 ?_
  refine ro_bipush (v := 16) hK dX0_fallInAct_45 (by decide) ?_
  refine ro_icmp_ge hK 98 dX0_fallInAct_47 (by decide) (fun c7 => ?_) (fun c7 => ?_)
  · have hf := ro_it hf c7
    refine ro_sub (L' := [(0, .ref (ro_ad (kG K) 62)), (1, .ref (ro_ad (kG K) 1)), (2, .int v2), (3, .int v3)]) [0, 1, 2, 3] rfl ?_
    obtain rfl := Option.some.inj hf
    exact hq
  · have hf := ro_ie hf c7
    refine ro_iload_n hK 3 rfl dX0_fallInAct_50 rfl ?_
    refine ro_bipush (v := 16) hK dX0_fallInAct_51 (by decide) ?_
    refine ro_imul hK dX0_fallInAct_53 ?_
    refine ro_iload hK 4 rfl dX0_fallInAct_54 ?_
    refine ro_iadd hK dX0_fallInAct_56 ?_
    obtain ⟨z8, e9, hf⟩ := ro_ld hf
    refine ro_iv e9 ?_
    refine ro_istore (L' := [(6, .int z8), (0, .ref (ro_ad (kG K) 62)), (1, .ref (ro_ad (kG K) 1)), (2, .int v2), (3, .int v3), (5, .int v5)]) hK dX0_fallInAct_57 (by decide) rfl ?_
    refine ro_aload_n hK 1 rfl dX0_fallInAct_59 rfl ?_
    refine ro_getr hK fl_X0_9 sh_62 dX0_fallInAct_60 ?_
    refine ro_iload hK 0 rfl dX0_fallInAct_63 ?_
    obtain ⟨g10, hf⟩ := ro_gd hf
    refine ro_iald hK sh_63 g10 dX0_fallInAct_65 ?_
    refine ro_if_le hK 92 dX0_fallInAct_66 (by decide) (fun c11 => ?_) (fun c11 => ?_)
    · have hf := ro_it hf c11
      refine ro_iinc (v := v5 + 1) (L' := [(5, .int (v5 + 1)), (6, .int z8), (0, .ref (ro_ad (kG K) 62)), (1, .ref (ro_ad (kG K) 1)), (2, .int v2), (3, .int v3)]) hK 5 rfl dX0_fallInAct_92 rfl (by decide) rfl ?_
      refine ro_goto hK 43 dX0_fallInAct_95 (by decide) ?_
      refine ro_sub (L' := [(0, .ref (ro_ad (kG K) 62)), (1, .ref (ro_ad (kG K) 1)), (2, .int v2), (3, .int v3), (5, .int (v5 + 1))]) [2, 3, 4, 5, 0] rfl ?_
      exact hrec (v5 + 1, μ) _ hf hq
    · have hf := ro_ie hf c11
      refine ro_aload_n hK 1 rfl dX0_fallInAct_69 rfl ?_
      refine ro_getr hK fl_X0_15 sh_62 dX0_fallInAct_70 ?_
      refine ro_iload hK 0 rfl dX0_fallInAct_73 ?_
      refine ro_iald hK sh_64 g10 dX0_fallInAct_75 ?_
      refine ro_iload_n hK 3 rfl dX0_fallInAct_76 rfl ?_
      refine ro_icmp_ne hK 92 dX0_fallInAct_77 (by decide) (fun c12 => ?_) (fun c12 => ?_)
      · have hf := ro_ie hf c12
        refine ro_iinc (v := v5 + 1) (L' := [(5, .int (v5 + 1)), (6, .int z8), (0, .ref (ro_ad (kG K) 62)), (1, .ref (ro_ad (kG K) 1)), (2, .int v2), (3, .int v3)]) hK 5 rfl dX0_fallInAct_92 rfl (by decide) rfl ?_
        refine ro_goto hK 43 dX0_fallInAct_95 (by decide) ?_
        refine ro_sub (L' := [(0, .ref (ro_ad (kG K) 62)), (1, .ref (ro_ad (kG K) 1)), (2, .int v2), (3, .int v3), (5, .int (v5 + 1))]) [2, 3, 4, 5, 0] rfl ?_
        exact hrec (v5 + 1, μ) _ hf hq
      · have hf := ro_it hf c12
        refine ro_aload_n hK 1 rfl dX0_fallInAct_80 rfl ?_
        refine ro_aload_n hK 2 rfl dX0_fallInAct_81 rfl ?_
        refine ro_getr hK fl_X0_36 sh_1 dX0_fallInAct_82 ?_
        refine ro_iload_n hK 3 rfl dX0_fallInAct_85 rfl ?_
        refine ro_iload_n hK 4 rfl dX0_fallInAct_86 rfl ?_
        refine ro_iload hK 5 rfl dX0_fallInAct_87 ?_
        obtain ⟨q13, e14, hf⟩ := ro_bd hf
        refine ro_callvv hK [.ref (ro_ad (kG K) 2), .int v2, .int v3, .int v5] ml_X0_78 mv_X0_fall (mt_X0_fall (kl K) (kG K) sh_2 e14) sh_62 ⟨_, rfl, rfl⟩ (by decide) rfl rfl (Nat.le_of_ble_eq_true rfl) dX0_fallInAct_89 ?_
        refine ro_iinc (v := v5 + 1) (L' := [(5, .int (v5 + 1)), (6, .int z8), (0, .ref (ro_ad (kG K) 62)), (1, .ref (ro_ad (kG K) 1)), (2, .int v2), (3, .int v3)]) hK 5 rfl dX0_fallInAct_92 rfl (by decide) rfl ?_
        refine ro_goto hK 43 dX0_fallInAct_95 (by decide) ?_
        refine ro_sub (L' := [(0, .ref (ro_ad (kG K) 62)), (1, .ref (ro_ad (kG K) 1)), (2, .int v2), (3, .int v3), (5, .int (v5 + 1))]) [2, 3, 4, 5, 0] rfl ?_
        exact hrec (v5 + 1, q13) _ hf hq
def fl_X0_fallInAct_43 (v2 : Int32) (v3 : Int32) : (Int32 × ro_Mem) → Option ro_Mem :=
  ro_loop (fun rec s => fb_X0_fallInAct_43 v2 v3 rec s.1 s.2) ro_FU
theorem lp_X0_fallInAct_43 {K : ro_K} (hK : ro_C K RX0 cX0_fallInAct 7 3) (hR : ro_R K none) {v2 : Int32} {v3 : Int32}  {s : Int32 × ro_Mem} {q : ro_Mem} (hf : fl_X0_fallInAct_43 v2 v3 s = some q) (hq : ok_X0_fallInAct_43 K v2 v3 q) : ro_X K 43 [(0, .ref (ro_ad (kG K) 62)), (1, .ref (ro_ad (kG K) 1)), (2, .int v2), (3, .int v3), (5, .int s.1)] [] s.2 :=
  ro_loopX (b := fun rec s => fb_X0_fallInAct_43 v2 v3 rec s.1 s.2) (X := fun s => ro_X K 43 [(0, .ref (ro_ad (kG K) 62)), (1, .ref (ro_ad (kG K) 1)), (2, .int v2), (3, .int v3), (5, .int s.1)] [] s.2) (OK := ok_X0_fallInAct_43 K v2 v3) (fun rec s q hrec hb ho => bb_X0_fallInAct_43 hK hR  hrec hb ho) ro_FU s q hf hq
def fj_X0_fallInAct_40 (rec : (Int32 × ro_Mem) → Option ro_Mem) (v2 : Int32) (v3 : Int32) (μ : ro_Mem) : Option ro_Mem :=
  (fl_X0_fallInAct_43 v2 v3 (0, μ)).bind fun q15 =>
  rec (v3 + 1, q15)
theorem bj_X0_fallInAct_40 {K : ro_K} (hK : ro_C K RX0 cX0_fallInAct 7 3) (hR : ro_R K none) {v2 : Int32} {v3 : Int32}  {rec : (Int32 × ro_Mem) → Option ro_Mem} {μ : ro_Mem} (hrec : ∀ (s : Int32 × ro_Mem) (q : ro_Mem), rec s = some q → ok_X0_fallInAct_2 K v2 q → ro_X K 2 [(0, .ref (ro_ad (kG K) 62)), (1, .ref (ro_ad (kG K) 1)), (2, .int v2), (3, .int s.1)] [] s.2) {out : ro_Mem} (hf : fj_X0_fallInAct_40 rec v2 v3 μ = some out) (hq : ok_X0_fallInAct_2 K v2 out) : ro_X K 40 [(0, .ref (ro_ad (kG K) 62)), (1, .ref (ro_ad (kG K) 1)), (2, .int v2), (3, .int v3)] [] μ := by
  unfold fj_X0_fallInAct_40 at hf
  refine ro_iconst (v := 0) hK dX0_fallInAct_40 (by decide) ?_
  refine ro_istore (L' := [(5, .int 0), (0, .ref (ro_ad (kG K) 62)), (1, .ref (ro_ad (kG K) 1)), (2, .int v2), (3, .int v3)]) hK dX0_fallInAct_41 (by decide) rfl ?_
  obtain ⟨q15, e16, hf⟩ := ro_bd hf
  refine ro_sub (L' := [(0, .ref (ro_ad (kG K) 62)), (1, .ref (ro_ad (kG K) 1)), (2, .int v2), (3, .int v3), (5, .int 0)]) [1, 2, 3, 4, 0] rfl ?_
  refine lp_X0_fallInAct_43 hK hR  e16 ?_
  show ro_X K 98 [(0, .ref (ro_ad (kG K) 62)), (1, .ref (ro_ad (kG K) 1)), (2, .int v2), (3, .int v3)] [] q15
  refine ro_iinc (v := v3 + 1) (L' := [(3, .int (v3 + 1)), (0, .ref (ro_ad (kG K) 62)), (1, .ref (ro_ad (kG K) 1)), (2, .int v2)]) hK 3 rfl dX0_fallInAct_98 rfl (by decide) rfl ?_
  refine ro_goto hK 2 dX0_fallInAct_101 (by decide) ?_
  refine ro_sub (L' := [(0, .ref (ro_ad (kG K) 62)), (1, .ref (ro_ad (kG K) 1)), (2, .int v2), (3, .int (v3 + 1))]) [1, 2, 3, 0] rfl ?_
  exact hrec (v3 + 1, q15) _ hf hq
def fb_X0_fallInAct_2 (v2 : Int32) (rec : (Int32 × ro_Mem) → Option ro_Mem) (v3 : Int32) (μ : ro_Mem) : Option ro_Mem :=
  if ro_sh (ro_rf μ 1 1) = (0, 5) then
  (if (μ (ro_rf μ 1 1) 5) ≤ v3 then
  (some μ)
  else
  (if ro_in v3 32 then
  (ro_lt (v2 - (μ ((ro_rf μ 1 1) + 5) v3.toNatClampNeg)) fun z4 =>
  if z4 = 0 then
  (fj_X0_fallInAct_40 rec v2 v3 μ)
  else
  (if z4 = 1 then
  (fj_X0_fallInAct_40 rec v2 v3 μ)
  else
  (rec (v3 + 1, μ)))) else none)) else none
theorem bb_X0_fallInAct_2 {K : ro_K} (hK : ro_C K RX0 cX0_fallInAct 7 3) (hR : ro_R K none) {v2 : Int32}  {μ : ro_Mem} {rec : (Int32 × ro_Mem) → Option ro_Mem} {v3 : Int32} {q : ro_Mem} (hrec : ∀ (s : Int32 × ro_Mem) (q : ro_Mem), rec s = some q → ok_X0_fallInAct_2 K v2 q → ro_X K 2 [(0, .ref (ro_ad (kG K) 62)), (1, .ref (ro_ad (kG K) 1)), (2, .int v2), (3, .int s.1)] [] s.2) (hf : fb_X0_fallInAct_2 v2 rec v3 μ = some q) (hq : ok_X0_fallInAct_2 K v2 q) : ro_X K 2 [(0, .ref (ro_ad (kG K) 62)), (1, .ref (ro_ad (kG K) 1)), (2, .int v2), (3, .int v3)] [] μ := by
  unfold fb_X0_fallInAct_2 at hf
  refine ro_iload_n hK 3 rfl dX0_fallInAct_2 rfl ?_
  refine ro_aload_n hK 1 rfl dX0_fallInAct_3 rfl ?_
  obtain ⟨g1, hf⟩ := ro_gd hf
  refine ro_getm hK fl_X0_57 sh_1 dX0_fallInAct_4 ?_
  refine ro_geti hK fl_X0_61 g1 dX0_fallInAct_7 ?_
  refine ro_icmp_ge hK 104 dX0_fallInAct_10 (by decide) (fun c2 => ?_) (fun c2 => ?_)
  · have hf := ro_it hf c2
    refine ro_sub (L' := []) [] rfl ?_
    obtain rfl := Option.some.inj hf
    exact hq
  · have hf := ro_ie hf c2
    refine ro_iload_n hK 2 rfl dX0_fallInAct_13 rfl ?_
    refine ro_aload_n hK 1 rfl dX0_fallInAct_14 rfl ?_
    refine ro_getm hK fl_X0_57 sh_1 dX0_fallInAct_15 ?_
    refine ro_getr hK fl_X0_71 g1 dX0_fallInAct_18 ?_
    refine ro_iload_n hK 3 rfl dX0_fallInAct_21 rfl ?_
    obtain ⟨g3, hf⟩ := ro_gd hf
    refine ro_iald hK (so_5_5 g1) g3 dX0_fallInAct_22 ?_
    refine ro_isub hK dX0_fallInAct_23 ?_
    obtain ⟨z4, e5, hf⟩ := ro_ld hf
    refine ro_iv e5 ?_
    refine ro_istore (L' := [(4, .int z4), (0, .ref (ro_ad (kG K) 62)), (1, .ref (ro_ad (kG K) 1)), (2, .int v2), (3, .int v3)]) hK dX0_fallInAct_24 (by decide) rfl ?_
    refine ro_iload hK 0 rfl dX0_fallInAct_26 ?_
    refine ro_if_eq hK 40 dX0_fallInAct_28 (by decide) (fun c6 => ?_) (fun c6 => ?_)
    · have hf := ro_it hf c6
      refine ro_sub (L' := [(0, .ref (ro_ad (kG K) 62)), (1, .ref (ro_ad (kG K) 1)), (2, .int v2), (3, .int v3)]) [1, 2, 3, 4] rfl ?_
      exact bj_X0_fallInAct_40 hK hR  hrec hf hq
    · have hf := ro_ie hf c6
      refine ro_iload hK 0 rfl dX0_fallInAct_31 ?_
      refine ro_iconst (v := 1) hK dX0_fallInAct_33 (by decide) ?_
      refine ro_icmp_eq hK 40 dX0_fallInAct_34 (by decide) (fun c17 => ?_) (fun c17 => ?_)
      · have hf := ro_it hf c17
        refine ro_sub (L' := [(0, .ref (ro_ad (kG K) 62)), (1, .ref (ro_ad (kG K) 1)), (2, .int v2), (3, .int v3)]) [1, 2, 3, 4] rfl ?_
        exact bj_X0_fallInAct_40 hK hR  hrec hf hq
      · have hf := ro_ie hf c17
        refine ro_goto hK 98 dX0_fallInAct_37 (by decide) ?_
        refine ro_iinc (v := v3 + 1) (L' := [(3, .int (v3 + 1)), (4, .int z4), (0, .ref (ro_ad (kG K) 62)), (1, .ref (ro_ad (kG K) 1)), (2, .int v2)]) hK 4 rfl dX0_fallInAct_98 rfl (by decide) rfl ?_
        refine ro_goto hK 2 dX0_fallInAct_101 (by decide) ?_
        refine ro_sub (L' := [(0, .ref (ro_ad (kG K) 62)), (1, .ref (ro_ad (kG K) 1)), (2, .int v2), (3, .int (v3 + 1))]) [2, 3, 4, 0] rfl ?_
        exact hrec (v3 + 1, μ) _ hf hq
def fl_X0_fallInAct_2 (v2 : Int32) : (Int32 × ro_Mem) → Option ro_Mem :=
  ro_loop (fun rec s => fb_X0_fallInAct_2 v2 rec s.1 s.2) ro_FU
theorem lp_X0_fallInAct_2 {K : ro_K} (hK : ro_C K RX0 cX0_fallInAct 7 3) (hR : ro_R K none) {v2 : Int32}  {s : Int32 × ro_Mem} {q : ro_Mem} (hf : fl_X0_fallInAct_2 v2 s = some q) (hq : ok_X0_fallInAct_2 K v2 q) : ro_X K 2 [(0, .ref (ro_ad (kG K) 62)), (1, .ref (ro_ad (kG K) 1)), (2, .int v2), (3, .int s.1)] [] s.2 :=
  ro_loopX (b := fun rec s => fb_X0_fallInAct_2 v2 rec s.1 s.2) (X := fun s => ro_X K 2 [(0, .ref (ro_ad (kG K) 62)), (1, .ref (ro_ad (kG K) 1)), (2, .int v2), (3, .int s.1)] [] s.2) (OK := ok_X0_fallInAct_2 K v2) (fun rec s q hrec hb ho => bb_X0_fallInAct_2 hK hR  hrec hb ho) ro_FU s q hf hq
def fn_X0_fallInAct (v2 : Int32) (μ : ro_Mem) : Option ro_Mem :=
  (fl_X0_fallInAct_2 v2 (0, μ)).bind fun q18 =>
  some q18
theorem be_X0_fallInAct {K : ro_K} (hK : ro_C K RX0 cX0_fallInAct 7 3) (hR : ro_R K none) {v2 : Int32}  {μ : ro_Mem} {out : ro_Mem} (hf : fn_X0_fallInAct v2 μ = some out) (hq : kQ K none out) : ro_X K 0 [(0, .ref (ro_ad (kG K) 62)), (1, .ref (ro_ad (kG K) 1)), (2, .int v2)] [] μ := by
  unfold fn_X0_fallInAct at hf
  refine ro_iconst (v := 0) hK dX0_fallInAct_0 (by decide) ?_
  refine ro_istore_n (L' := [(3, .int 0), (0, .ref (ro_ad (kG K) 62)), (1, .ref (ro_ad (kG K) 1)), (2, .int v2)]) hK dX0_fallInAct_1 rfl (by decide) rfl ?_
  obtain ⟨q18, e19, hf⟩ := ro_bd hf
  refine ro_sub (L' := [(0, .ref (ro_ad (kG K) 62)), (1, .ref (ro_ad (kG K) 1)), (2, .int v2), (3, .int 0)]) [1, 2, 3, 0] rfl ?_
  refine lp_X0_fallInAct_2 hK hR  e19 ?_
  show ro_X K 104 [] [] q18
  obtain rfl := Option.some.inj hf
  exact ro_vret hK hR dX0_fallInAct_104 hq
theorem mt_X0_fallInAct (l : Launch) (G : ro_G) {v2 : Int32}  {μ : ro_Mem} {out : ro_Mem} (hf : fn_X0_fallInAct v2 μ = some out) : ro_MX l G yX0_fallInAct cX0_fallInAct 7 none 3 [.ref (ro_ad G 62), .ref (ro_ad G 1), .int v2] μ none out := by
  refine ro_MX.of (by decide +kernel) (Nat.le_of_ble_eq_true rfl) (fun K hG hl hq hK hR => ?_)
  subst hG
  exact be_X0_fallInAct hK hR  hf hq
-- ===== X0_play =====
theorem dX0_play_0 : decode cX0_play 0 = .ok (.aload_n 0, 1) := by decide +kernel
theorem dX0_play_1 : decode cX0_play 1 = .ok (.getfield 18, 3) := by decide +kernel
theorem dX0_play_4 : decode cX0_play 4 = .ok (.iconst 0, 1) := by decide +kernel
theorem dX0_play_5 : decode cX0_play 5 = .ok (.invokestatic 30, 3) := by decide +kernel
theorem dX0_play_8 : decode cX0_play 8 = .ok (.aload_n 0, 1) := by decide +kernel
theorem dX0_play_9 : decode cX0_play 9 = .ok (.getfield 21, 3) := by decide +kernel
theorem dX0_play_12 : decode cX0_play 12 = .ok (.iconst 0, 1) := by decide +kernel
theorem dX0_play_13 : decode cX0_play 13 = .ok (.invokestatic 30, 3) := by decide +kernel
theorem dX0_play_16 : decode cX0_play 16 = .ok (.aload_n 0, 1) := by decide +kernel
theorem dX0_play_17 : decode cX0_play 17 = .ok (.getfield 24, 3) := by decide +kernel
theorem dX0_play_20 : decode cX0_play 20 = .ok (.iconst 0, 1) := by decide +kernel
theorem dX0_play_21 : decode cX0_play 21 = .ok (.invokestatic 30, 3) := by decide +kernel
theorem dX0_play_24 : decode cX0_play 24 = .ok (.iconst 0, 1) := by decide +kernel
theorem dX0_play_25 : decode cX0_play 25 = .ok (.istore_n 2, 1) := by decide +kernel
theorem dX0_play_26 : decode cX0_play 26 = .ok (.iload_n 2, 1) := by decide +kernel
theorem dX0_play_27 : decode cX0_play 27 = .ok (.iconst 4, 1) := by decide +kernel
theorem dX0_play_28 : decode cX0_play 28 = .ok (.if_icmp .ge 33, 3) := by decide +kernel
theorem dX0_play_31 : decode cX0_play 31 = .ok (.aload_n 1, 1) := by decide +kernel
theorem dX0_play_32 : decode cX0_play 32 = .ok (.getfield 36, 3) := by decide +kernel
theorem dX0_play_35 : decode cX0_play 35 = .ok (.getfield 42, 3) := by decide +kernel
theorem dX0_play_38 : decode cX0_play 38 = .ok (.iconst 0, 1) := by decide +kernel
theorem dX0_play_39 : decode cX0_play 39 = .ok (.aload_n 0, 1) := by decide +kernel
theorem dX0_play_40 : decode cX0_play 40 = .ok (.getfield 27, 3) := by decide +kernel
theorem dX0_play_43 : decode cX0_play 43 = .ok (.iconst 0, 1) := by decide +kernel
theorem dX0_play_44 : decode cX0_play 44 = .ok (.bipush 96, 2) := by decide +kernel
theorem dX0_play_46 : decode cX0_play 46 = .ok (.invokestatic 47, 3) := by decide +kernel
theorem dX0_play_49 : decode cX0_play 49 = .ok (.aload_n 0, 1) := by decide +kernel
theorem dX0_play_50 : decode cX0_play 50 = .ok (.aload_n 1, 1) := by decide +kernel
theorem dX0_play_51 : decode cX0_play 51 = .ok (.iload_n 2, 1) := by decide +kernel
theorem dX0_play_52 : decode cX0_play 52 = .ok (.invokevirtual 53, 3) := by decide +kernel
theorem dX0_play_55 : decode cX0_play 55 = .ok (.iinc 2 1, 3) := by decide +kernel
theorem dX0_play_58 : decode cX0_play 58 = .ok (.goto (-32), 3) := by decide +kernel
theorem dX0_play_61 : decode cX0_play 61 = .ok (.return_, 1) := by decide +kernel
def ok_X0_play_26 (K : ro_K)  : ro_Mem → Prop := fun e => ro_X K 61 [] [] e
def fb_X0_play_26  (rec : (Int32 × ro_Mem) → Option ro_Mem) (v2 : Int32) (μ : ro_Mem) : Option ro_Mem :=
  if 4 ≤ v2 then
  (some μ)
  else
  (ro_lt (ro_arr μ 68 (va_cpy (μ 4) (μ 68) (0 : Int32).toNatClampNeg (0 : Int32).toNatClampNeg (96 : Int32).toNatClampNeg)) fun m8 =>
  (fn_X0_fallInAct v2 m8).bind fun q10 =>
  rec (v2 + 1, q10))
theorem bb_X0_play_26 {K : ro_K} (hK : ro_C K RX0 cX0_play 3 4) (hR : ro_R K none)   {μ : ro_Mem} {rec : (Int32 × ro_Mem) → Option ro_Mem} {v2 : Int32} {q : ro_Mem} (hrec : ∀ (s : Int32 × ro_Mem) (q : ro_Mem), rec s = some q → ok_X0_play_26 K q → ro_X K 26 [(0, .ref (ro_ad (kG K) 62)), (1, .ref (ro_ad (kG K) 1)), (2, .int s.1)] [] s.2) (hf : fb_X0_play_26 rec v2 μ = some q) (hq : ok_X0_play_26 K q) : ro_X K 26 [(0, .ref (ro_ad (kG K) 62)), (1, .ref (ro_ad (kG K) 1)), (2, .int v2)] [] μ := by
  unfold fb_X0_play_26 at hf
  refine ro_iload_n hK 2 rfl dX0_play_26 rfl ?_
  refine ro_iconst (v := 4) hK dX0_play_27 (by decide) ?_
  refine ro_icmp_ge hK 61 dX0_play_28 (by decide) (fun c7 => ?_) (fun c7 => ?_)
  · have hf := ro_it hf c7
    refine ro_sub (L' := []) [] rfl ?_
    obtain rfl := Option.some.inj hf
    exact hq
  · have hf := ro_ie hf c7
    refine ro_aload_n hK 1 rfl dX0_play_31 rfl ?_
    refine ro_getr hK fl_X0_36 sh_1 dX0_play_32 ?_
    refine ro_getr hK fl_X0_42 sh_2 dX0_play_35 ?_
    refine ro_iconst (v := 0) hK dX0_play_38 (by decide) ?_
    refine ro_aload_n hK 0 rfl dX0_play_39 rfl ?_
    refine ro_getr hK fl_X0_27 sh_62 dX0_play_40 ?_
    refine ro_iconst (v := 0) hK dX0_play_43 (by decide) ?_
    refine ro_bipush (v := 96) hK dX0_play_44 (by decide) ?_
    obtain ⟨m8, e9, hf⟩ := ro_ld hf
    refine ro_copy hK ml_X0_47 kn_copy kn_copys kn_sys sh_4 sh_68 (by decide) (by decide) (by decide) (by decide) (by decide) (by decide) (Nat.le_of_ble_eq_true rfl) dX0_play_46 ?_
    refine ro_mv e9 ?_
    refine ro_aload_n hK 0 rfl dX0_play_49 rfl ?_
    refine ro_aload_n hK 1 rfl dX0_play_50 rfl ?_
    refine ro_iload_n hK 2 rfl dX0_play_51 rfl ?_
    obtain ⟨q10, e11, hf⟩ := ro_bd hf
    refine ro_callvv hK [.ref (ro_ad (kG K) 1), .int v2] ml_X0_53 mv_X0_fallInAct (mt_X0_fallInAct (kl K) (kG K)  e11) sh_62 ⟨_, rfl, rfl⟩ (by decide) rfl rfl (Nat.le_of_ble_eq_true rfl) dX0_play_52 ?_
    refine ro_iinc (v := v2 + 1) (L' := [(2, .int (v2 + 1)), (0, .ref (ro_ad (kG K) 62)), (1, .ref (ro_ad (kG K) 1))]) hK 2 rfl dX0_play_55 rfl (by decide) rfl ?_
    refine ro_goto hK 26 dX0_play_58 (by decide) ?_
    refine ro_sub (L' := [(0, .ref (ro_ad (kG K) 62)), (1, .ref (ro_ad (kG K) 1)), (2, .int (v2 + 1))]) [1, 2, 0] rfl ?_
    exact hrec (v2 + 1, q10) _ hf hq
def fl_X0_play_26  : (Int32 × ro_Mem) → Option ro_Mem :=
  ro_loop (fun rec s => fb_X0_play_26 rec s.1 s.2) ro_FU
theorem lp_X0_play_26 {K : ro_K} (hK : ro_C K RX0 cX0_play 3 4) (hR : ro_R K none)   {s : Int32 × ro_Mem} {q : ro_Mem} (hf : fl_X0_play_26 s = some q) (hq : ok_X0_play_26 K q) : ro_X K 26 [(0, .ref (ro_ad (kG K) 62)), (1, .ref (ro_ad (kG K) 1)), (2, .int s.1)] [] s.2 :=
  ro_loopX (b := fun rec s => fb_X0_play_26 rec s.1 s.2) (X := fun s => ro_X K 26 [(0, .ref (ro_ad (kG K) 62)), (1, .ref (ro_ad (kG K) 1)), (2, .int s.1)] [] s.2) (OK := ok_X0_play_26 K) (fun rec s q hrec hb ho => bb_X0_play_26 hK hR  hrec hb ho) ro_FU s q hf hq
def fn_X0_play (μ : ro_Mem) : Option ro_Mem :=
  (fn_J7_fill_53178 65 0 μ).bind fun q1 =>
  (fn_J7_fill_53178 66 0 q1).bind fun q3 =>
  (fn_J7_fill_53178 67 0 q3).bind fun q5 =>
  (fl_X0_play_26  (0, q5)).bind fun q12 =>
  some q12
theorem be_X0_play {K : ro_K} (hK : ro_C K RX0 cX0_play 3 4) (hR : ro_R K none)   {μ : ro_Mem} {out : ro_Mem} (hf : fn_X0_play μ = some out) (hq : kQ K none out) : ro_X K 0 [(0, .ref (ro_ad (kG K) 62)), (1, .ref (ro_ad (kG K) 1))] [] μ := by
  unfold fn_X0_play at hf
  refine ro_aload_n hK 0 rfl dX0_play_0 rfl ?_
  refine ro_getr hK fl_X0_18 sh_62 dX0_play_1 ?_
  refine ro_iconst (v := 0) hK dX0_play_4 (by decide) ?_
  obtain ⟨q1, e2, hf⟩ := ro_bd hf
  refine ro_callsv hK [.ref (ro_ad (kG K) 65), .int 0] ml_X0_30 ms_J7_fill_53178 (mt_J7_fill_53178 (kl K) (kG K) (ro_shl sh_65) e2) (by decide) rfl rfl (Nat.le_of_ble_eq_true rfl) dX0_play_5 ?_
  refine ro_aload_n hK 0 rfl dX0_play_8 rfl ?_
  refine ro_getr hK fl_X0_21 sh_62 dX0_play_9 ?_
  refine ro_iconst (v := 0) hK dX0_play_12 (by decide) ?_
  obtain ⟨q3, e4, hf⟩ := ro_bd hf
  refine ro_callsv hK [.ref (ro_ad (kG K) 66), .int 0] ml_X0_30 ms_J7_fill_53178 (mt_J7_fill_53178 (kl K) (kG K) (ro_shl sh_66) e4) (by decide) rfl rfl (Nat.le_of_ble_eq_true rfl) dX0_play_13 ?_
  refine ro_aload_n hK 0 rfl dX0_play_16 rfl ?_
  refine ro_getr hK fl_X0_24 sh_62 dX0_play_17 ?_
  refine ro_iconst (v := 0) hK dX0_play_20 (by decide) ?_
  obtain ⟨q5, e6, hf⟩ := ro_bd hf
  refine ro_callsv hK [.ref (ro_ad (kG K) 67), .int 0] ml_X0_30 ms_J7_fill_53178 (mt_J7_fill_53178 (kl K) (kG K) (ro_shl sh_67) e6) (by decide) rfl rfl (Nat.le_of_ble_eq_true rfl) dX0_play_21 ?_
  refine ro_iconst (v := 0) hK dX0_play_24 (by decide) ?_
  refine ro_istore_n (L' := [(2, .int 0), (0, .ref (ro_ad (kG K) 62)), (1, .ref (ro_ad (kG K) 1))]) hK dX0_play_25 rfl (by decide) rfl ?_
  obtain ⟨q12, e13, hf⟩ := ro_bd hf
  refine ro_sub (L' := [(0, .ref (ro_ad (kG K) 62)), (1, .ref (ro_ad (kG K) 1)), (2, .int 0)]) [1, 2, 0] rfl ?_
  refine lp_X0_play_26 hK hR  e13 ?_
  show ro_X K 61 [] [] q12
  obtain rfl := Option.some.inj hf
  exact ro_vret hK hR dX0_play_61 hq
theorem mt_X0_play (l : Launch) (G : ro_G)   {μ : ro_Mem} {out : ro_Mem} (hf : fn_X0_play μ = some out) : ro_MX l G yX0_play cX0_play 3 none 4 [.ref (ro_ad G 62), .ref (ro_ad G 1)] μ none out := by
  refine ro_MX.of (by decide +kernel) (Nat.le_of_ble_eq_true rfl) (fun K hG hl hq hK hR => ?_)
  subst hG
  exact be_X0_play hK hR  hf hq
-- ===== X1_isSlate =====
theorem dX1_isSlate_0 : decode cX1_isSlate 0 = .ok (.iload_n 1, 1) := by decide +kernel
theorem dX1_isSlate_1 : decode cX1_isSlate 1 = .ok (.ifCond .lt 25, 3) := by decide +kernel
theorem dX1_isSlate_4 : decode cX1_isSlate 4 = .ok (.iload_n 1, 1) := by decide +kernel
theorem dX1_isSlate_5 : decode cX1_isSlate 5 = .ok (.bipush 16, 2) := by decide +kernel
theorem dX1_isSlate_7 : decode cX1_isSlate 7 = .ok (.if_icmp .ge 19, 3) := by decide +kernel
theorem dX1_isSlate_10 : decode cX1_isSlate 10 = .ok (.aload_n 0, 1) := by decide +kernel
theorem dX1_isSlate_11 : decode cX1_isSlate 11 = .ok (.getfield 65, 3) := by decide +kernel
theorem dX1_isSlate_14 : decode cX1_isSlate 14 = .ok (.iload_n 1, 1) := by decide +kernel
theorem dX1_isSlate_15 : decode cX1_isSlate 15 = .ok (.ishr, 1) := by decide +kernel
theorem dX1_isSlate_16 : decode cX1_isSlate 16 = .ok (.iconst 1, 1) := by decide +kernel
theorem dX1_isSlate_17 : decode cX1_isSlate 17 = .ok (.iand, 1) := by decide +kernel
theorem dX1_isSlate_18 : decode cX1_isSlate 18 = .ok (.iconst 1, 1) := by decide +kernel
theorem dX1_isSlate_19 : decode cX1_isSlate 19 = .ok (.if_icmp .ne 7, 3) := by decide +kernel
theorem dX1_isSlate_22 : decode cX1_isSlate 22 = .ok (.iconst 1, 1) := by decide +kernel
theorem dX1_isSlate_23 : decode cX1_isSlate 23 = .ok (.goto 4, 3) := by decide +kernel
theorem dX1_isSlate_26 : decode cX1_isSlate 26 = .ok (.iconst 0, 1) := by decide +kernel
theorem dX1_isSlate_27 : decode cX1_isSlate 27 = .ok (.ireturn, 1) := by decide +kernel
def fn_X1_isSlate (o0 : Nat) (v1 : Int32) (μ : ro_Mem) : Option Int32 :=
  if v1 < 0 then
  (some 0)
  else
  (if 16 ≤ v1 then
  (some 0)
  else
  (if (((μ o0 6) >>> (v1 &&& 31)) &&& 1) = 1 then
  (some 1)
  else
  (some 0)))
theorem be_X1_isSlate {K : ro_K} (hK : ro_C K RX1 cX1_isSlate 2 0) (hR : ro_R K (some .boolean)) {o0 : Nat} {v1 : Int32} (h0 : ro_sh o0 = (0, 1)) {μ : ro_Mem} {out : Int32} (hf : fn_X1_isSlate o0 v1 μ = some out) (hq : kQ K (some (.int out)) μ) : ro_X K 0 [(0, .ref (ro_ad (kG K) o0)), (1, .int v1)] [] μ := by
  unfold fn_X1_isSlate at hf
  refine ro_iload_n hK 1 rfl dX1_isSlate_0 rfl ?_
  refine ro_if_lt hK 26 dX1_isSlate_1 (by decide) (fun c1 => ?_) (fun c1 => ?_)
  · have hf := ro_it hf c1
    refine ro_iconst (v := 0) hK dX1_isSlate_26 (by decide) ?_
    obtain rfl := Option.some.inj hf
    exact ro_zret hK hR dX1_isSlate_27 (by decide) hq
  · have hf := ro_ie hf c1
    refine ro_iload_n hK 1 rfl dX1_isSlate_4 rfl ?_
    refine ro_bipush (v := 16) hK dX1_isSlate_5 (by decide) ?_
    refine ro_icmp_ge hK 26 dX1_isSlate_7 (by decide) (fun c2 => ?_) (fun c2 => ?_)
    · have hf := ro_it hf c2
      refine ro_iconst (v := 0) hK dX1_isSlate_26 (by decide) ?_
      obtain rfl := Option.some.inj hf
      exact ro_zret hK hR dX1_isSlate_27 (by decide) hq
    · have hf := ro_ie hf c2
      refine ro_aload_n hK 0 rfl dX1_isSlate_10 rfl ?_
      refine ro_geti hK fl_X1_65 h0 dX1_isSlate_11 ?_
      refine ro_iload_n hK 1 rfl dX1_isSlate_14 rfl ?_
      refine ro_ishr hK dX1_isSlate_15 ?_
      refine ro_iconst (v := 1) hK dX1_isSlate_16 (by decide) ?_
      refine ro_iand hK dX1_isSlate_17 ?_
      refine ro_iconst (v := 1) hK dX1_isSlate_18 (by decide) ?_
      refine ro_icmp_ne hK 26 dX1_isSlate_19 (by decide) (fun c3 => ?_) (fun c3 => ?_)
      · have hf := ro_ie hf c3
        refine ro_iconst (v := 0) hK dX1_isSlate_26 (by decide) ?_
        obtain rfl := Option.some.inj hf
        exact ro_zret hK hR dX1_isSlate_27 (by decide) hq
      · have hf := ro_it hf c3
        refine ro_iconst (v := 1) hK dX1_isSlate_22 (by decide) ?_
        refine ro_goto hK 27 dX1_isSlate_23 (by decide) ?_
        obtain rfl := Option.some.inj hf
        exact ro_zret hK hR dX1_isSlate_27 (by decide) hq
theorem mt_X1_isSlate (l : Launch) (G : ro_G) {o0 : Nat} {v1 : Int32} (h0 : ro_sh o0 = (0, 1)) {μ : ro_Mem} {out : Int32} (hf : fn_X1_isSlate o0 v1 μ = some out) : ro_MX l G yX1_isSlate cX1_isSlate 2 (some .boolean) 0 [.ref (ro_ad G o0), .int v1] μ (some (.int out)) μ := by
  refine ro_MX.of (by decide +kernel) (Nat.le_of_ble_eq_true rfl) (fun K hG hl hq hK hR => ?_)
  subst hG
  exact be_X1_isSlate hK hR h0 hf hq
-- ===== X1_isNailed =====
theorem dX1_isNailed_0 : decode cX1_isNailed 0 = .ok (.aload_n 0, 1) := by decide +kernel
theorem dX1_isNailed_1 : decode cX1_isNailed 1 = .ok (.getfield 68, 3) := by decide +kernel
theorem dX1_isNailed_4 : decode cX1_isNailed 4 = .ok (.iload_n 1, 1) := by decide +kernel
theorem dX1_isNailed_5 : decode cX1_isNailed 5 = .ok (.ishr, 1) := by decide +kernel
theorem dX1_isNailed_6 : decode cX1_isNailed 6 = .ok (.iconst 1, 1) := by decide +kernel
theorem dX1_isNailed_7 : decode cX1_isNailed 7 = .ok (.iand, 1) := by decide +kernel
theorem dX1_isNailed_8 : decode cX1_isNailed 8 = .ok (.iconst 1, 1) := by decide +kernel
theorem dX1_isNailed_9 : decode cX1_isNailed 9 = .ok (.if_icmp .ne 7, 3) := by decide +kernel
theorem dX1_isNailed_12 : decode cX1_isNailed 12 = .ok (.iconst 1, 1) := by decide +kernel
theorem dX1_isNailed_13 : decode cX1_isNailed 13 = .ok (.goto 4, 3) := by decide +kernel
theorem dX1_isNailed_16 : decode cX1_isNailed 16 = .ok (.iconst 0, 1) := by decide +kernel
theorem dX1_isNailed_17 : decode cX1_isNailed 17 = .ok (.ireturn, 1) := by decide +kernel
def fn_X1_isNailed (o0 : Nat) (v1 : Int32) (μ : ro_Mem) : Option Int32 :=
  if (((μ o0 7) >>> (v1 &&& 31)) &&& 1) = 1 then
  (some 1)
  else
  (some 0)
theorem be_X1_isNailed {K : ro_K} (hK : ro_C K RX1 cX1_isNailed 2 0) (hR : ro_R K (some .boolean)) {o0 : Nat} {v1 : Int32} (h0 : ro_sh o0 = (0, 1)) {μ : ro_Mem} {out : Int32} (hf : fn_X1_isNailed o0 v1 μ = some out) (hq : kQ K (some (.int out)) μ) : ro_X K 0 [(0, .ref (ro_ad (kG K) o0)), (1, .int v1)] [] μ := by
  unfold fn_X1_isNailed at hf
  refine ro_aload_n hK 0 rfl dX1_isNailed_0 rfl ?_
  refine ro_geti hK fl_X1_68 h0 dX1_isNailed_1 ?_
  refine ro_iload_n hK 1 rfl dX1_isNailed_4 rfl ?_
  refine ro_ishr hK dX1_isNailed_5 ?_
  refine ro_iconst (v := 1) hK dX1_isNailed_6 (by decide) ?_
  refine ro_iand hK dX1_isNailed_7 ?_
  refine ro_iconst (v := 1) hK dX1_isNailed_8 (by decide) ?_
  refine ro_icmp_ne hK 16 dX1_isNailed_9 (by decide) (fun c1 => ?_) (fun c1 => ?_)
  · have hf := ro_ie hf c1
    refine ro_iconst (v := 0) hK dX1_isNailed_16 (by decide) ?_
    obtain rfl := Option.some.inj hf
    exact ro_zret hK hR dX1_isNailed_17 (by decide) hq
  · have hf := ro_it hf c1
    refine ro_iconst (v := 1) hK dX1_isNailed_12 (by decide) ?_
    refine ro_goto hK 17 dX1_isNailed_13 (by decide) ?_
    obtain rfl := Option.some.inj hf
    exact ro_zret hK hR dX1_isNailed_17 (by decide) hq
theorem mt_X1_isNailed (l : Launch) (G : ro_G) {o0 : Nat} {v1 : Int32} (h0 : ro_sh o0 = (0, 1)) {μ : ro_Mem} {out : Int32} (hf : fn_X1_isNailed o0 v1 μ = some out) : ro_MX l G yX1_isNailed cX1_isNailed 2 (some .boolean) 0 [.ref (ro_ad G o0), .int v1] μ (some (.int out)) μ := by
  refine ro_MX.of (by decide +kernel) (Nat.le_of_ble_eq_true rfl) (fun K hG hl hq hK hR => ?_)
  subst hG
  exact be_X1_isNailed hK hR h0 hf hq
-- ===== X9_tellAct =====
theorem dX9_tellAct_0 : decode cX9_tellAct 0 = .ok (.aload_n 0, 1) := by decide +kernel
theorem dX9_tellAct_1 : decode cX9_tellAct 1 = .ok (.getfield 28, 3) := by decide +kernel
theorem dX9_tellAct_4 : decode cX9_tellAct 4 = .ok (.getfield 52, 3) := by decide +kernel
theorem dX9_tellAct_7 : decode cX9_tellAct 7 = .ok (.bipush 6, 2) := by decide +kernel
theorem dX9_tellAct_9 : decode cX9_tellAct 9 = .ok (.iload_n 1, 1) := by decide +kernel
theorem dX9_tellAct_10 : decode cX9_tellAct 10 = .ok (.iastore, 1) := by decide +kernel
theorem dX9_tellAct_11 : decode cX9_tellAct 11 = .ok (.aload_n 0, 1) := by decide +kernel
theorem dX9_tellAct_12 : decode cX9_tellAct 12 = .ok (.getfield 28, 3) := by decide +kernel
theorem dX9_tellAct_15 : decode cX9_tellAct 15 = .ok (.getfield 52, 3) := by decide +kernel
theorem dX9_tellAct_18 : decode cX9_tellAct 18 = .ok (.bipush 7, 2) := by decide +kernel
theorem dX9_tellAct_20 : decode cX9_tellAct 20 = .ok (.aload_n 0, 1) := by decide +kernel
theorem dX9_tellAct_21 : decode cX9_tellAct 21 = .ok (.getfield 12, 3) := by decide +kernel
theorem dX9_tellAct_24 : decode cX9_tellAct 24 = .ok (.getfield 103, 3) := by decide +kernel
theorem dX9_tellAct_27 : decode cX9_tellAct 27 = .ok (.iload_n 1, 1) := by decide +kernel
theorem dX9_tellAct_28 : decode cX9_tellAct 28 = .ok (.iaload, 1) := by decide +kernel
theorem dX9_tellAct_29 : decode cX9_tellAct 29 = .ok (.iastore, 1) := by decide +kernel
theorem dX9_tellAct_30 : decode cX9_tellAct 30 = .ok (.return_, 1) := by decide +kernel
def fn_X9_tellAct (v1 : Int32) (μ : ro_Mem) : Option ro_Mem :=
  if ro_sh (ro_rf μ 1 2) = (0, 2) then
  (ro_lt (ro_set μ ((ro_rf μ 1 2) + 7) (6 : Int32).toNatClampNeg v1) fun m2 =>
  if ro_sh (ro_rf m2 1 2) = (0, 2) then
  (if ro_in v1 4 then
  (ro_lt (ro_set m2 ((ro_rf m2 1 2) + 7) (7 : Int32).toNatClampNeg (m2 9 v1.toNatClampNeg)) fun m6 =>
  some m6) else none) else none) else none
theorem be_X9_tellAct {K : ro_K} (hK : ro_C K RX9 cX9_tellAct 2 0) (hR : ro_R K none) {v1 : Int32}  {μ : ro_Mem} {out : ro_Mem} (hf : fn_X9_tellAct v1 μ = some out) (hq : kQ K none out) : ro_X K 0 [(0, .ref (ro_ad (kG K) 1)), (1, .int v1)] [] μ := by
  unfold fn_X9_tellAct at hf
  refine ro_aload_n hK 0 rfl dX9_tellAct_0 rfl ?_
  obtain ⟨g1, hf⟩ := ro_gd hf
  refine ro_getm hK fl_X9_28 sh_1 dX9_tellAct_1 ?_
  refine ro_getr hK fl_X9_52 g1 dX9_tellAct_4 ?_
  refine ro_bipush (v := 6) hK dX9_tellAct_7 (by decide) ?_
  refine ro_iload_n hK 1 rfl dX9_tellAct_9 rfl ?_
  obtain ⟨m2, e3, hf⟩ := ro_ld hf
  refine ro_iast hK (so_2_7 g1) (by decide) dX9_tellAct_10 ?_
  refine ro_mv e3 ?_
  refine ro_aload_n hK 0 rfl dX9_tellAct_11 rfl ?_
  obtain ⟨g4, hf⟩ := ro_gd hf
  refine ro_getm hK fl_X9_28 sh_1 dX9_tellAct_12 ?_
  refine ro_getr hK fl_X9_52 g4 dX9_tellAct_15 ?_
  refine ro_bipush (v := 7) hK dX9_tellAct_18 (by decide) ?_
  refine ro_aload_n hK 0 rfl dX9_tellAct_20 rfl ?_
  refine ro_getr hK fl_X9_12 sh_1 dX9_tellAct_21 ?_
  refine ro_getr hK fl_X9_103 sh_2 dX9_tellAct_24 ?_
  refine ro_iload_n hK 1 rfl dX9_tellAct_27 rfl ?_
  obtain ⟨g5, hf⟩ := ro_gd hf
  refine ro_iald hK sh_9 g5 dX9_tellAct_28 ?_
  obtain ⟨m6, e7, hf⟩ := ro_ld hf
  refine ro_iast hK (so_2_7 g4) (by decide) dX9_tellAct_29 ?_
  refine ro_mv e7 ?_
  obtain rfl := Option.some.inj hf
  exact ro_vret hK hR dX9_tellAct_30 hq
theorem mt_X9_tellAct (l : Launch) (G : ro_G) {v1 : Int32}  {μ : ro_Mem} {out : ro_Mem} (hf : fn_X9_tellAct v1 μ = some out) : ro_MX l G yX9_tellAct cX9_tellAct 2 none 0 [.ref (ro_ad G 1), .int v1] μ none out := by
  refine ro_MX.of (by decide +kernel) (Nat.le_of_ble_eq_true rfl) (fun K hG hl hq hK hR => ?_)
  subst hG
  exact be_X9_tellAct hK hR  hf hq
-- ===== X9_tellSeat =====
theorem dX9_tellSeat_0 : decode cX9_tellSeat 0 = .ok (.aload_n 0, 1) := by decide +kernel
theorem dX9_tellSeat_1 : decode cX9_tellSeat 1 = .ok (.getfield 28, 3) := by decide +kernel
theorem dX9_tellSeat_4 : decode cX9_tellSeat 4 = .ok (.getfield 52, 3) := by decide +kernel
theorem dX9_tellSeat_7 : decode cX9_tellSeat 7 = .ok (.bipush 8, 2) := by decide +kernel
theorem dX9_tellSeat_9 : decode cX9_tellSeat 9 = .ok (.iload_n 1, 1) := by decide +kernel
theorem dX9_tellSeat_10 : decode cX9_tellSeat 10 = .ok (.bipush 12, 2) := by decide +kernel
theorem dX9_tellSeat_12 : decode cX9_tellSeat 12 = .ok (.idiv, 1) := by decide +kernel
theorem dX9_tellSeat_13 : decode cX9_tellSeat 13 = .ok (.iastore, 1) := by decide +kernel
theorem dX9_tellSeat_14 : decode cX9_tellSeat 14 = .ok (.aload_n 0, 1) := by decide +kernel
theorem dX9_tellSeat_15 : decode cX9_tellSeat 15 = .ok (.getfield 28, 3) := by decide +kernel
theorem dX9_tellSeat_18 : decode cX9_tellSeat 18 = .ok (.getfield 52, 3) := by decide +kernel
theorem dX9_tellSeat_21 : decode cX9_tellSeat 21 = .ok (.bipush 9, 2) := by decide +kernel
theorem dX9_tellSeat_23 : decode cX9_tellSeat 23 = .ok (.iload_n 1, 1) := by decide +kernel
theorem dX9_tellSeat_24 : decode cX9_tellSeat 24 = .ok (.bipush 12, 2) := by decide +kernel
theorem dX9_tellSeat_26 : decode cX9_tellSeat 26 = .ok (.irem, 1) := by decide +kernel
theorem dX9_tellSeat_27 : decode cX9_tellSeat 27 = .ok (.iastore, 1) := by decide +kernel
theorem dX9_tellSeat_28 : decode cX9_tellSeat 28 = .ok (.aload_n 0, 1) := by decide +kernel
theorem dX9_tellSeat_29 : decode cX9_tellSeat 29 = .ok (.getfield 28, 3) := by decide +kernel
theorem dX9_tellSeat_32 : decode cX9_tellSeat 32 = .ok (.getfield 52, 3) := by decide +kernel
theorem dX9_tellSeat_35 : decode cX9_tellSeat 35 = .ok (.bipush 10, 2) := by decide +kernel
theorem dX9_tellSeat_37 : decode cX9_tellSeat 37 = .ok (.aload_n 0, 1) := by decide +kernel
theorem dX9_tellSeat_38 : decode cX9_tellSeat 38 = .ok (.getfield 12, 3) := by decide +kernel
theorem dX9_tellSeat_41 : decode cX9_tellSeat 41 = .ok (.getfield 95, 3) := by decide +kernel
theorem dX9_tellSeat_44 : decode cX9_tellSeat 44 = .ok (.iload_n 1, 1) := by decide +kernel
theorem dX9_tellSeat_45 : decode cX9_tellSeat 45 = .ok (.iaload, 1) := by decide +kernel
theorem dX9_tellSeat_46 : decode cX9_tellSeat 46 = .ok (.iastore, 1) := by decide +kernel
theorem dX9_tellSeat_47 : decode cX9_tellSeat 47 = .ok (.return_, 1) := by decide +kernel
def fn_X9_tellSeat (v1 : Int32) (μ : ro_Mem) : Option ro_Mem :=
  if ro_sh (ro_rf μ 1 2) = (0, 2) then
  (ro_lt (ro_set μ ((ro_rf μ 1 2) + 7) (8 : Int32).toNatClampNeg (v1 / 12)) fun m2 =>
  if ro_sh (ro_rf m2 1 2) = (0, 2) then
  (ro_lt (ro_set m2 ((ro_rf m2 1 2) + 7) (9 : Int32).toNatClampNeg (ro_rem v1 12)) fun m5 =>
  if ro_sh (ro_rf m5 1 2) = (0, 2) then
  (if ro_in v1 96 then
  (ro_lt (ro_set m5 ((ro_rf m5 1 2) + 7) (10 : Int32).toNatClampNeg (m5 5 v1.toNatClampNeg)) fun m9 =>
  some m9) else none) else none) else none) else none
theorem be_X9_tellSeat {K : ro_K} (hK : ro_C K RX9 cX9_tellSeat 2 0) (hR : ro_R K none) {v1 : Int32}  {μ : ro_Mem} {out : ro_Mem} (hf : fn_X9_tellSeat v1 μ = some out) (hq : kQ K none out) : ro_X K 0 [(0, .ref (ro_ad (kG K) 1)), (1, .int v1)] [] μ := by
  unfold fn_X9_tellSeat at hf
  refine ro_aload_n hK 0 rfl dX9_tellSeat_0 rfl ?_
  obtain ⟨g1, hf⟩ := ro_gd hf
  refine ro_getm hK fl_X9_28 sh_1 dX9_tellSeat_1 ?_
  refine ro_getr hK fl_X9_52 g1 dX9_tellSeat_4 ?_
  refine ro_bipush (v := 8) hK dX9_tellSeat_7 (by decide) ?_
  refine ro_iload_n hK 1 rfl dX9_tellSeat_9 rfl ?_
  refine ro_bipush (v := 12) hK dX9_tellSeat_10 (by decide) ?_
  refine ro_idiv hK dX9_tellSeat_12 (by decide) ?_
  obtain ⟨m2, e3, hf⟩ := ro_ld hf
  refine ro_iast hK (so_2_7 g1) (by decide) dX9_tellSeat_13 ?_
  refine ro_mv e3 ?_
  refine ro_aload_n hK 0 rfl dX9_tellSeat_14 rfl ?_
  obtain ⟨g4, hf⟩ := ro_gd hf
  refine ro_getm hK fl_X9_28 sh_1 dX9_tellSeat_15 ?_
  refine ro_getr hK fl_X9_52 g4 dX9_tellSeat_18 ?_
  refine ro_bipush (v := 9) hK dX9_tellSeat_21 (by decide) ?_
  refine ro_iload_n hK 1 rfl dX9_tellSeat_23 rfl ?_
  refine ro_bipush (v := 12) hK dX9_tellSeat_24 (by decide) ?_
  refine ro_irem hK dX9_tellSeat_26 (by decide) ?_
  obtain ⟨m5, e6, hf⟩ := ro_ld hf
  refine ro_iast hK (so_2_7 g4) (by decide) dX9_tellSeat_27 ?_
  refine ro_mv e6 ?_
  refine ro_aload_n hK 0 rfl dX9_tellSeat_28 rfl ?_
  obtain ⟨g7, hf⟩ := ro_gd hf
  refine ro_getm hK fl_X9_28 sh_1 dX9_tellSeat_29 ?_
  refine ro_getr hK fl_X9_52 g7 dX9_tellSeat_32 ?_
  refine ro_bipush (v := 10) hK dX9_tellSeat_35 (by decide) ?_
  refine ro_aload_n hK 0 rfl dX9_tellSeat_37 rfl ?_
  refine ro_getr hK fl_X9_12 sh_1 dX9_tellSeat_38 ?_
  refine ro_getr hK fl_X9_95 sh_2 dX9_tellSeat_41 ?_
  refine ro_iload_n hK 1 rfl dX9_tellSeat_44 rfl ?_
  obtain ⟨g8, hf⟩ := ro_gd hf
  refine ro_iald hK sh_5 g8 dX9_tellSeat_45 ?_
  obtain ⟨m9, e10, hf⟩ := ro_ld hf
  refine ro_iast hK (so_2_7 g7) (by decide) dX9_tellSeat_46 ?_
  refine ro_mv e10 ?_
  obtain rfl := Option.some.inj hf
  exact ro_vret hK hR dX9_tellSeat_47 hq
theorem mt_X9_tellSeat (l : Launch) (G : ro_G) {v1 : Int32}  {μ : ro_Mem} {out : ro_Mem} (hf : fn_X9_tellSeat v1 μ = some out) : ro_MX l G yX9_tellSeat cX9_tellSeat 2 none 0 [.ref (ro_ad G 1), .int v1] μ none out := by
  refine ro_MX.of (by decide +kernel) (Nat.le_of_ble_eq_true rfl) (fun K hG hl hq hK hR => ?_)
  subst hG
  exact be_X9_tellSeat hK hR  hf hq
-- ===== X2_reckon =====
theorem dX2_reckon_0 : decode cX2_reckon 0 = .ok (.iload_n 0, 1) := by decide +kernel
theorem dX2_reckon_1 : decode cX2_reckon 1 = .ok (.tableswitch 101 0 6 #[43, 47, 51, 55, 67, 79, 90], 43) := by decide +kernel
theorem dX2_reckon_44 : decode cX2_reckon 44 = .ok (.iload_n 1, 1) := by decide +kernel
theorem dX2_reckon_45 : decode cX2_reckon 45 = .ok (.iload_n 2, 1) := by decide +kernel
theorem dX2_reckon_46 : decode cX2_reckon 46 = .ok (.iadd, 1) := by decide +kernel
theorem dX2_reckon_47 : decode cX2_reckon 47 = .ok (.ireturn, 1) := by decide +kernel
theorem dX2_reckon_48 : decode cX2_reckon 48 = .ok (.iload_n 1, 1) := by decide +kernel
theorem dX2_reckon_49 : decode cX2_reckon 49 = .ok (.iload_n 2, 1) := by decide +kernel
theorem dX2_reckon_50 : decode cX2_reckon 50 = .ok (.isub, 1) := by decide +kernel
theorem dX2_reckon_51 : decode cX2_reckon 51 = .ok (.ireturn, 1) := by decide +kernel
theorem dX2_reckon_52 : decode cX2_reckon 52 = .ok (.iload_n 1, 1) := by decide +kernel
theorem dX2_reckon_53 : decode cX2_reckon 53 = .ok (.iload_n 2, 1) := by decide +kernel
theorem dX2_reckon_54 : decode cX2_reckon 54 = .ok (.imul, 1) := by decide +kernel
theorem dX2_reckon_55 : decode cX2_reckon 55 = .ok (.ireturn, 1) := by decide +kernel
theorem dX2_reckon_56 : decode cX2_reckon 56 = .ok (.iload_n 2, 1) := by decide +kernel
theorem dX2_reckon_57 : decode cX2_reckon 57 = .ok (.ifCond .ne 7, 3) := by decide +kernel
theorem dX2_reckon_60 : decode cX2_reckon 60 = .ok (.iconst 0, 1) := by decide +kernel
theorem dX2_reckon_61 : decode cX2_reckon 61 = .ok (.goto 6, 3) := by decide +kernel
theorem dX2_reckon_64 : decode cX2_reckon 64 = .ok (.iload_n 1, 1) := by decide +kernel
theorem dX2_reckon_65 : decode cX2_reckon 65 = .ok (.iload_n 2, 1) := by decide +kernel
theorem dX2_reckon_66 : decode cX2_reckon 66 = .ok (.idiv, 1) := by decide +kernel
theorem dX2_reckon_67 : decode cX2_reckon 67 = .ok (.ireturn, 1) := by decide +kernel
theorem dX2_reckon_68 : decode cX2_reckon 68 = .ok (.iload_n 2, 1) := by decide +kernel
theorem dX2_reckon_69 : decode cX2_reckon 69 = .ok (.ifCond .ne 7, 3) := by decide +kernel
theorem dX2_reckon_72 : decode cX2_reckon 72 = .ok (.iconst 0, 1) := by decide +kernel
theorem dX2_reckon_73 : decode cX2_reckon 73 = .ok (.goto 6, 3) := by decide +kernel
theorem dX2_reckon_76 : decode cX2_reckon 76 = .ok (.iload_n 1, 1) := by decide +kernel
theorem dX2_reckon_77 : decode cX2_reckon 77 = .ok (.iload_n 2, 1) := by decide +kernel
theorem dX2_reckon_78 : decode cX2_reckon 78 = .ok (.irem, 1) := by decide +kernel
theorem dX2_reckon_79 : decode cX2_reckon 79 = .ok (.ireturn, 1) := by decide +kernel
theorem dX2_reckon_80 : decode cX2_reckon 80 = .ok (.iload_n 1, 1) := by decide +kernel
theorem dX2_reckon_81 : decode cX2_reckon 81 = .ok (.iload_n 2, 1) := by decide +kernel
theorem dX2_reckon_82 : decode cX2_reckon 82 = .ok (.if_icmp .ge 7, 3) := by decide +kernel
theorem dX2_reckon_85 : decode cX2_reckon 85 = .ok (.iconst 1, 1) := by decide +kernel
theorem dX2_reckon_86 : decode cX2_reckon 86 = .ok (.goto 4, 3) := by decide +kernel
theorem dX2_reckon_89 : decode cX2_reckon 89 = .ok (.iconst 0, 1) := by decide +kernel
theorem dX2_reckon_90 : decode cX2_reckon 90 = .ok (.ireturn, 1) := by decide +kernel
theorem dX2_reckon_91 : decode cX2_reckon 91 = .ok (.iload_n 1, 1) := by decide +kernel
theorem dX2_reckon_92 : decode cX2_reckon 92 = .ok (.iload_n 2, 1) := by decide +kernel
theorem dX2_reckon_93 : decode cX2_reckon 93 = .ok (.if_icmp .le 7, 3) := by decide +kernel
theorem dX2_reckon_96 : decode cX2_reckon 96 = .ok (.iconst 1, 1) := by decide +kernel
theorem dX2_reckon_97 : decode cX2_reckon 97 = .ok (.goto 4, 3) := by decide +kernel
theorem dX2_reckon_100 : decode cX2_reckon 100 = .ok (.iconst 0, 1) := by decide +kernel
theorem dX2_reckon_101 : decode cX2_reckon 101 = .ok (.ireturn, 1) := by decide +kernel
theorem dX2_reckon_102 : decode cX2_reckon 102 = .ok (.iload_n 1, 1) := by decide +kernel
theorem dX2_reckon_103 : decode cX2_reckon 103 = .ok (.iload_n 2, 1) := by decide +kernel
theorem dX2_reckon_104 : decode cX2_reckon 104 = .ok (.if_icmp .ne 7, 3) := by decide +kernel
theorem dX2_reckon_107 : decode cX2_reckon 107 = .ok (.iconst 1, 1) := by decide +kernel
theorem dX2_reckon_108 : decode cX2_reckon 108 = .ok (.goto 4, 3) := by decide +kernel
theorem dX2_reckon_111 : decode cX2_reckon 111 = .ok (.iconst 0, 1) := by decide +kernel
theorem dX2_reckon_112 : decode cX2_reckon 112 = .ok (.ireturn, 1) := by decide +kernel
def fn_X2_reckon (v0 : Int32) (v1 : Int32) (v2 : Int32) : Option Int32 :=
  if v0 = 0 then
  (some (v1 + v2))
  else
  (if v0 = 1 then
  (some (v1 - v2))
  else
  (if v0 = 2 then
  (some (v1 * v2))
  else
  (if v0 = 3 then
  (if v2 = 0 then
  (some 0)
  else
  (if ¬ v2 = 0 then
  (some (v1 / v2)) else none))
  else
  (if v0 = 4 then
  (if v2 = 0 then
  (some 0)
  else
  (if ¬ v2 = 0 then
  (some (ro_rem v1 v2)) else none))
  else
  (if v0 = 5 then
  (if v2 ≤ v1 then
  (some 0)
  else
  (some 1))
  else
  (if v0 = 6 then
  (if v1 ≤ v2 then
  (some 0)
  else
  (some 1))
  else
  (if v1 = v2 then
  (some 1)
  else
  (some 0))))))))
theorem be_X2_reckon {K : ro_K} (hK : ro_C K RX2 cX2_reckon 3 0) (hR : ro_R K (some .int)) {v0 : Int32} {v1 : Int32} {v2 : Int32}  {μ : ro_Mem} {out : Int32} (hf : fn_X2_reckon v0 v1 v2 = some out) (hq : kQ K (some (.int out)) μ) : ro_X K 0 [(0, .int v0), (1, .int v1), (2, .int v2)] [] μ := by
  unfold fn_X2_reckon at hf
  refine ro_iload_n hK 0 rfl dX2_reckon_0 rfl ?_
  by_cases c_0 : v0 = 0
  · have hf := ro_it hf c_0
    refine ro_tabIn hK 0 44 dX2_reckon_1 c_0 (by decide) (by decide) rfl (by decide) ?_
    refine ro_iload_n hK 1 rfl dX2_reckon_44 rfl ?_
    refine ro_iload_n hK 2 rfl dX2_reckon_45 rfl ?_
    refine ro_iadd hK dX2_reckon_46 ?_
    obtain rfl := Option.some.inj hf
    exact ro_iret hK hR dX2_reckon_47 hq
  have hf := ro_ie hf c_0
  by_cases c_1 : v0 = 1
  · have hf := ro_it hf c_1
    refine ro_tabIn hK 1 48 dX2_reckon_1 c_1 (by decide) (by decide) rfl (by decide) ?_
    refine ro_iload_n hK 1 rfl dX2_reckon_48 rfl ?_
    refine ro_iload_n hK 2 rfl dX2_reckon_49 rfl ?_
    refine ro_isub hK dX2_reckon_50 ?_
    obtain rfl := Option.some.inj hf
    exact ro_iret hK hR dX2_reckon_51 hq
  have hf := ro_ie hf c_1
  by_cases c_2 : v0 = 2
  · have hf := ro_it hf c_2
    refine ro_tabIn hK 2 52 dX2_reckon_1 c_2 (by decide) (by decide) rfl (by decide) ?_
    refine ro_iload_n hK 1 rfl dX2_reckon_52 rfl ?_
    refine ro_iload_n hK 2 rfl dX2_reckon_53 rfl ?_
    refine ro_imul hK dX2_reckon_54 ?_
    obtain rfl := Option.some.inj hf
    exact ro_iret hK hR dX2_reckon_55 hq
  have hf := ro_ie hf c_2
  by_cases c_3 : v0 = 3
  · have hf := ro_it hf c_3
    refine ro_tabIn hK 3 56 dX2_reckon_1 c_3 (by decide) (by decide) rfl (by decide) ?_
    refine ro_iload_n hK 2 rfl dX2_reckon_56 rfl ?_
    refine ro_if_ne hK 64 dX2_reckon_57 (by decide) (fun c1 => ?_) (fun c1 => ?_)
    · have hf := ro_ie hf c1
      refine ro_iload_n hK 1 rfl dX2_reckon_64 rfl ?_
      refine ro_iload_n hK 2 rfl dX2_reckon_65 rfl ?_
      obtain ⟨g2, hf⟩ := ro_gd hf
      refine ro_idiv hK dX2_reckon_66 g2 ?_
      obtain rfl := Option.some.inj hf
      exact ro_iret hK hR dX2_reckon_67 hq
    · have hf := ro_it hf c1
      refine ro_iconst (v := 0) hK dX2_reckon_60 (by decide) ?_
      refine ro_goto hK 67 dX2_reckon_61 (by decide) ?_
      obtain rfl := Option.some.inj hf
      exact ro_iret hK hR dX2_reckon_67 hq
  have hf := ro_ie hf c_3
  by_cases c_4 : v0 = 4
  · have hf := ro_it hf c_4
    refine ro_tabIn hK 4 68 dX2_reckon_1 c_4 (by decide) (by decide) rfl (by decide) ?_
    refine ro_iload_n hK 2 rfl dX2_reckon_68 rfl ?_
    refine ro_if_ne hK 76 dX2_reckon_69 (by decide) (fun c3 => ?_) (fun c3 => ?_)
    · have hf := ro_ie hf c3
      refine ro_iload_n hK 1 rfl dX2_reckon_76 rfl ?_
      refine ro_iload_n hK 2 rfl dX2_reckon_77 rfl ?_
      obtain ⟨g4, hf⟩ := ro_gd hf
      refine ro_irem hK dX2_reckon_78 g4 ?_
      obtain rfl := Option.some.inj hf
      exact ro_iret hK hR dX2_reckon_79 hq
    · have hf := ro_it hf c3
      refine ro_iconst (v := 0) hK dX2_reckon_72 (by decide) ?_
      refine ro_goto hK 79 dX2_reckon_73 (by decide) ?_
      obtain rfl := Option.some.inj hf
      exact ro_iret hK hR dX2_reckon_79 hq
  have hf := ro_ie hf c_4
  by_cases c_5 : v0 = 5
  · have hf := ro_it hf c_5
    refine ro_tabIn hK 5 80 dX2_reckon_1 c_5 (by decide) (by decide) rfl (by decide) ?_
    refine ro_iload_n hK 1 rfl dX2_reckon_80 rfl ?_
    refine ro_iload_n hK 2 rfl dX2_reckon_81 rfl ?_
    refine ro_icmp_ge hK 89 dX2_reckon_82 (by decide) (fun c5 => ?_) (fun c5 => ?_)
    · have hf := ro_it hf c5
      refine ro_iconst (v := 0) hK dX2_reckon_89 (by decide) ?_
      obtain rfl := Option.some.inj hf
      exact ro_iret hK hR dX2_reckon_90 hq
    · have hf := ro_ie hf c5
      refine ro_iconst (v := 1) hK dX2_reckon_85 (by decide) ?_
      refine ro_goto hK 90 dX2_reckon_86 (by decide) ?_
      obtain rfl := Option.some.inj hf
      exact ro_iret hK hR dX2_reckon_90 hq
  have hf := ro_ie hf c_5
  by_cases c_6 : v0 = 6
  · have hf := ro_it hf c_6
    refine ro_tabIn hK 6 91 dX2_reckon_1 c_6 (by decide) (by decide) rfl (by decide) ?_
    refine ro_iload_n hK 1 rfl dX2_reckon_91 rfl ?_
    refine ro_iload_n hK 2 rfl dX2_reckon_92 rfl ?_
    refine ro_icmp_le hK 100 dX2_reckon_93 (by decide) (fun c6 => ?_) (fun c6 => ?_)
    · have hf := ro_it hf c6
      refine ro_iconst (v := 0) hK dX2_reckon_100 (by decide) ?_
      obtain rfl := Option.some.inj hf
      exact ro_iret hK hR dX2_reckon_101 hq
    · have hf := ro_ie hf c6
      refine ro_iconst (v := 1) hK dX2_reckon_96 (by decide) ?_
      refine ro_goto hK 101 dX2_reckon_97 (by decide) ?_
      obtain rfl := Option.some.inj hf
      exact ro_iret hK hR dX2_reckon_101 hq
  have hf := ro_ie hf c_6
  have tw0 : ¬ v0.toInt = 0 := lv_neT (a := 0) c_0 rfl
  have tw1 : ¬ v0.toInt = 1 := lv_neT (a := 1) c_1 rfl
  have tw2 : ¬ v0.toInt = 2 := lv_neT (a := 2) c_2 rfl
  have tw3 : ¬ v0.toInt = 3 := lv_neT (a := 3) c_3 rfl
  have tw4 : ¬ v0.toInt = 4 := lv_neT (a := 4) c_4 rfl
  have tw5 : ¬ v0.toInt = 5 := lv_neT (a := 5) c_5 rfl
  have tw6 : ¬ v0.toInt = 6 := lv_neT (a := 6) c_6 rfl
  refine ro_tabOut hK 102 dX2_reckon_1 (by omega) (by decide) ?_
  refine ro_iload_n hK 1 rfl dX2_reckon_102 rfl ?_
  refine ro_iload_n hK 2 rfl dX2_reckon_103 rfl ?_
  refine ro_icmp_ne hK 111 dX2_reckon_104 (by decide) (fun c7 => ?_) (fun c7 => ?_)
  · have hf := ro_ie hf c7
    refine ro_iconst (v := 0) hK dX2_reckon_111 (by decide) ?_
    obtain rfl := Option.some.inj hf
    exact ro_iret hK hR dX2_reckon_112 hq
  · have hf := ro_it hf c7
    refine ro_iconst (v := 1) hK dX2_reckon_107 (by decide) ?_
    refine ro_goto hK 112 dX2_reckon_108 (by decide) ?_
    obtain rfl := Option.some.inj hf
    exact ro_iret hK hR dX2_reckon_112 hq
theorem mt_X2_reckon (l : Launch) (G : ro_G) {v0 : Int32} {v1 : Int32} {v2 : Int32}  {μ : ro_Mem} {out : Int32} (hf : fn_X2_reckon v0 v1 v2 = some out) : ro_MX l G yX2_reckon cX2_reckon 3 (some .int) 0 [.int v0, .int v1, .int v2] μ (some (.int out)) μ := by
  refine ro_MX.of (by decide +kernel) (Nat.le_of_ble_eq_true rfl) (fun K hG hl hq hK hR => ?_)
  subst hG
  exact be_X2_reckon hK hR  hf hq
-- ===== X2_run =====
theorem dX2_run_0 : decode cX2_run 0 = .ok (.iload_n 1, 1) := by decide +kernel
theorem dX2_run_1 : decode cX2_run 1 = .ok (.istore_n 3, 1) := by decide +kernel
theorem dX2_run_2 : decode cX2_run 2 = .ok (.iconst 0, 1) := by decide +kernel
theorem dX2_run_3 : decode cX2_run 3 = .ok (.istore 4, 2) := by decide +kernel
theorem dX2_run_5 : decode cX2_run 5 = .ok (.iconst 0, 1) := by decide +kernel
theorem dX2_run_6 : decode cX2_run 6 = .ok (.istore 5, 2) := by decide +kernel
theorem dX2_run_8 : decode cX2_run 8 = .ok (.iload 5, 2) := by decide +kernel
theorem dX2_run_10 : decode cX2_run 10 = .ok (.sipush 200, 3) := by decide +kernel
theorem dX2_run_13 : decode cX2_run 13 = .ok (.if_icmp .ge 273, 3) := by decide +kernel
theorem dX2_run_16 : decode cX2_run 16 = .ok (.iload_n 3, 1) := by decide +kernel
theorem dX2_run_17 : decode cX2_run 17 = .ok (.ifCond .lt 269, 3) := by decide +kernel
theorem dX2_run_20 : decode cX2_run 20 = .ok (.iload_n 3, 1) := by decide +kernel
theorem dX2_run_21 : decode cX2_run 21 = .ok (.iload_n 2, 1) := by decide +kernel
theorem dX2_run_22 : decode cX2_run 22 = .ok (.if_icmp .ge 264, 3) := by decide +kernel
theorem dX2_run_25 : decode cX2_run 25 = .ok (.iload_n 3, 1) := by decide +kernel
theorem dX2_run_26 : decode cX2_run 26 = .ok (.sipush 200, 3) := by decide +kernel
theorem dX2_run_29 : decode cX2_run 29 = .ok (.if_icmp .ge 257, 3) := by decide +kernel
theorem dX2_run_32 : decode cX2_run 32 = .ok (.aload_n 0, 1) := by decide +kernel
theorem dX2_run_33 : decode cX2_run 33 = .ok (.getfield 11, 3) := by decide +kernel
theorem dX2_run_36 : decode cX2_run 36 = .ok (.iload_n 3, 1) := by decide +kernel
theorem dX2_run_37 : decode cX2_run 37 = .ok (.iaload, 1) := by decide +kernel
theorem dX2_run_38 : decode cX2_run 38 = .ok (.istore 6, 2) := by decide +kernel
theorem dX2_run_40 : decode cX2_run 40 = .ok (.aload_n 0, 1) := by decide +kernel
theorem dX2_run_41 : decode cX2_run 41 = .ok (.getfield 15, 3) := by decide +kernel
theorem dX2_run_44 : decode cX2_run 44 = .ok (.iload_n 3, 1) := by decide +kernel
theorem dX2_run_45 : decode cX2_run 45 = .ok (.iaload, 1) := by decide +kernel
theorem dX2_run_46 : decode cX2_run 46 = .ok (.istore 7, 2) := by decide +kernel
theorem dX2_run_48 : decode cX2_run 48 = .ok (.iinc 3 1, 3) := by decide +kernel
theorem dX2_run_51 : decode cX2_run 51 = .ok (.iload 6, 2) := by decide +kernel
theorem dX2_run_53 : decode cX2_run 53 = .ok (.bipush 8, 2) := by decide +kernel
theorem dX2_run_55 : decode cX2_run 55 = .ok (.if_icmp .eq 10, 3) := by decide +kernel
theorem dX2_run_58 : decode cX2_run 58 = .ok (.iload 6, 2) := by decide +kernel
theorem dX2_run_60 : decode cX2_run 60 = .ok (.bipush 9, 2) := by decide +kernel
theorem dX2_run_62 : decode cX2_run 62 = .ok (.if_icmp .ne 63, 3) := by decide +kernel
theorem dX2_run_65 : decode cX2_run 65 = .ok (.iload 4, 2) := by decide +kernel
theorem dX2_run_67 : decode cX2_run 67 = .ok (.bipush 32, 2) := by decide +kernel
theorem dX2_run_69 : decode cX2_run 69 = .ok (.if_icmp .ge 22, 3) := by decide +kernel
theorem dX2_run_72 : decode cX2_run 72 = .ok (.iload 6, 2) := by decide +kernel
theorem dX2_run_74 : decode cX2_run 74 = .ok (.bipush 9, 2) := by decide +kernel
theorem dX2_run_76 : decode cX2_run 76 = .ok (.if_icmp .ne 17, 3) := by decide +kernel
theorem dX2_run_79 : decode cX2_run 79 = .ok (.iload 7, 2) := by decide +kernel
theorem dX2_run_81 : decode cX2_run 81 = .ok (.ifCond .lt 10, 3) := by decide +kernel
theorem dX2_run_84 : decode cX2_run 84 = .ok (.iload 7, 2) := by decide +kernel
theorem dX2_run_86 : decode cX2_run 86 = .ok (.bipush 12, 2) := by decide +kernel
theorem dX2_run_88 : decode cX2_run 88 = .ok (.if_icmp .lt 5, 3) := by decide +kernel
theorem dX2_run_91 : decode cX2_run 91 = .ok (.iconst 0, 1) := by decide +kernel
theorem dX2_run_92 : decode cX2_run 92 = .ok (.ireturn, 1) := by decide +kernel
theorem dX2_run_93 : decode cX2_run 93 = .ok (.aload_n 0, 1) := by decide +kernel
theorem dX2_run_94 : decode cX2_run 94 = .ok (.getfield 33, 3) := by decide +kernel
theorem dX2_run_97 : decode cX2_run 97 = .ok (.iload 4, 2) := by decide +kernel
theorem dX2_run_99 : decode cX2_run 99 = .ok (.iload 6, 2) := by decide +kernel
theorem dX2_run_101 : decode cX2_run 101 = .ok (.bipush 8, 2) := by decide +kernel
theorem dX2_run_103 : decode cX2_run 103 = .ok (.if_icmp .ne 8, 3) := by decide +kernel
theorem dX2_run_106 : decode cX2_run 106 = .ok (.iload 7, 2) := by decide +kernel
theorem dX2_run_108 : decode cX2_run 108 = .ok (.goto 10, 3) := by decide +kernel
theorem dX2_run_111 : decode cX2_run 111 = .ok (.aload_n 0, 1) := by decide +kernel
theorem dX2_run_112 : decode cX2_run 112 = .ok (.getfield 30, 3) := by decide +kernel
theorem dX2_run_115 : decode cX2_run 115 = .ok (.iload 7, 2) := by decide +kernel
theorem dX2_run_117 : decode cX2_run 117 = .ok (.iaload, 1) := by decide +kernel
theorem dX2_run_118 : decode cX2_run 118 = .ok (.iastore, 1) := by decide +kernel
theorem dX2_run_119 : decode cX2_run 119 = .ok (.iinc 4 1, 3) := by decide +kernel
theorem dX2_run_122 : decode cX2_run 122 = .ok (.goto 158, 3) := by decide +kernel
theorem dX2_run_125 : decode cX2_run 125 = .ok (.iload 6, 2) := by decide +kernel
theorem dX2_run_127 : decode cX2_run 127 = .ok (.bipush 10, 2) := by decide +kernel
theorem dX2_run_129 : decode cX2_run 129 = .ok (.if_icmp .lt 88, 3) := by decide +kernel
theorem dX2_run_132 : decode cX2_run 132 = .ok (.iload 4, 2) := by decide +kernel
theorem dX2_run_134 : decode cX2_run 134 = .ok (.iconst 1, 1) := by decide +kernel
theorem dX2_run_135 : decode cX2_run 135 = .ok (.if_icmp .ge 5, 3) := by decide +kernel
theorem dX2_run_138 : decode cX2_run 138 = .ok (.iconst 0, 1) := by decide +kernel
theorem dX2_run_139 : decode cX2_run 139 = .ok (.ireturn, 1) := by decide +kernel
theorem dX2_run_140 : decode cX2_run 140 = .ok (.aload_n 0, 1) := by decide +kernel
theorem dX2_run_141 : decode cX2_run 141 = .ok (.getfield 33, 3) := by decide +kernel
theorem dX2_run_144 : decode cX2_run 144 = .ok (.iload 4, 2) := by decide +kernel
theorem dX2_run_146 : decode cX2_run 146 = .ok (.iconst 1, 1) := by decide +kernel
theorem dX2_run_147 : decode cX2_run 147 = .ok (.isub, 1) := by decide +kernel
theorem dX2_run_148 : decode cX2_run 148 = .ok (.iaload, 1) := by decide +kernel
theorem dX2_run_149 : decode cX2_run 149 = .ok (.ifCond .eq 7, 3) := by decide +kernel
theorem dX2_run_152 : decode cX2_run 152 = .ok (.iconst 1, 1) := by decide +kernel
theorem dX2_run_153 : decode cX2_run 153 = .ok (.goto 4, 3) := by decide +kernel
theorem dX2_run_156 : decode cX2_run 156 = .ok (.iconst 0, 1) := by decide +kernel
theorem dX2_run_157 : decode cX2_run 157 = .ok (.istore 8, 2) := by decide +kernel
theorem dX2_run_159 : decode cX2_run 159 = .ok (.iload 6, 2) := by decide +kernel
theorem dX2_run_161 : decode cX2_run 161 = .ok (.bipush 10, 2) := by decide +kernel
theorem dX2_run_163 : decode cX2_run 163 = .ok (.if_icmp .ne 25, 3) := by decide +kernel
theorem dX2_run_166 : decode cX2_run 166 = .ok (.aload_n 0, 1) := by decide +kernel
theorem dX2_run_167 : decode cX2_run 167 = .ok (.getfield 33, 3) := by decide +kernel
theorem dX2_run_170 : decode cX2_run 170 = .ok (.iload 4, 2) := by decide +kernel
theorem dX2_run_172 : decode cX2_run 172 = .ok (.iconst 1, 1) := by decide +kernel
theorem dX2_run_173 : decode cX2_run 173 = .ok (.isub, 1) := by decide +kernel
theorem dX2_run_174 : decode cX2_run 174 = .ok (.iload 8, 2) := by decide +kernel
theorem dX2_run_176 : decode cX2_run 176 = .ok (.ifCond .eq 7, 3) := by decide +kernel
theorem dX2_run_179 : decode cX2_run 179 = .ok (.iconst 0, 1) := by decide +kernel
theorem dX2_run_180 : decode cX2_run 180 = .ok (.goto 4, 3) := by decide +kernel
theorem dX2_run_183 : decode cX2_run 183 = .ok (.iconst 1, 1) := by decide +kernel
theorem dX2_run_184 : decode cX2_run 184 = .ok (.iastore, 1) := by decide +kernel
theorem dX2_run_185 : decode cX2_run 185 = .ok (.goto 29, 3) := by decide +kernel
theorem dX2_run_188 : decode cX2_run 188 = .ok (.iload 8, 2) := by decide +kernel
theorem dX2_run_190 : decode cX2_run 190 = .ok (.iload 6, 2) := by decide +kernel
theorem dX2_run_192 : decode cX2_run 192 = .ok (.bipush 12, 2) := by decide +kernel
theorem dX2_run_194 : decode cX2_run 194 = .ok (.if_icmp .ne 7, 3) := by decide +kernel
theorem dX2_run_197 : decode cX2_run 197 = .ok (.iconst 1, 1) := by decide +kernel
theorem dX2_run_198 : decode cX2_run 198 = .ok (.goto 4, 3) := by decide +kernel
theorem dX2_run_201 : decode cX2_run 201 = .ok (.iconst 0, 1) := by decide +kernel
theorem dX2_run_202 : decode cX2_run 202 = .ok (.if_icmp .ne 9, 3) := by decide +kernel
theorem dX2_run_205 : decode cX2_run 205 = .ok (.iload 7, 2) := by decide +kernel
theorem dX2_run_207 : decode cX2_run 207 = .ok (.istore_n 3, 1) := by decide +kernel
theorem dX2_run_208 : decode cX2_run 208 = .ok (.goto 6, 3) := by decide +kernel
theorem dX2_run_211 : decode cX2_run 211 = .ok (.iinc 4 (-1), 3) := by decide +kernel
theorem dX2_run_214 : decode cX2_run 214 = .ok (.goto 66, 3) := by decide +kernel
theorem dX2_run_217 : decode cX2_run 217 = .ok (.iinc 4 (-1), 3) := by decide +kernel
theorem dX2_run_220 : decode cX2_run 220 = .ok (.iload 4, 2) := by decide +kernel
theorem dX2_run_222 : decode cX2_run 222 = .ok (.iconst 1, 1) := by decide +kernel
theorem dX2_run_223 : decode cX2_run 223 = .ok (.if_icmp .lt 25, 3) := by decide +kernel
theorem dX2_run_226 : decode cX2_run 226 = .ok (.aload_n 0, 1) := by decide +kernel
theorem dX2_run_227 : decode cX2_run 227 = .ok (.getfield 33, 3) := by decide +kernel
theorem dX2_run_230 : decode cX2_run 230 = .ok (.iload 4, 2) := by decide +kernel
theorem dX2_run_232 : decode cX2_run 232 = .ok (.iaload, 1) := by decide +kernel
theorem dX2_run_233 : decode cX2_run 233 = .ok (.ifCond .ne 17, 3) := by decide +kernel
theorem dX2_run_236 : decode cX2_run 236 = .ok (.iload 6, 2) := by decide +kernel
theorem dX2_run_238 : decode cX2_run 238 = .ok (.iconst 3, 1) := by decide +kernel
theorem dX2_run_239 : decode cX2_run 239 = .ok (.if_icmp .eq 9, 3) := by decide +kernel
theorem dX2_run_242 : decode cX2_run 242 = .ok (.iload 6, 2) := by decide +kernel
theorem dX2_run_244 : decode cX2_run 244 = .ok (.iconst 4, 1) := by decide +kernel
theorem dX2_run_245 : decode cX2_run 245 = .ok (.if_icmp .ne 5, 3) := by decide +kernel
theorem dX2_run_248 : decode cX2_run 248 = .ok (.iconst 0, 1) := by decide +kernel
theorem dX2_run_249 : decode cX2_run 249 = .ok (.ireturn, 1) := by decide +kernel
theorem dX2_run_250 : decode cX2_run 250 = .ok (.aload_n 0, 1) := by decide +kernel
theorem dX2_run_251 : decode cX2_run 251 = .ok (.getfield 33, 3) := by decide +kernel
theorem dX2_run_254 : decode cX2_run 254 = .ok (.iload 4, 2) := by decide +kernel
theorem dX2_run_256 : decode cX2_run 256 = .ok (.iconst 1, 1) := by decide +kernel
theorem dX2_run_257 : decode cX2_run 257 = .ok (.isub, 1) := by decide +kernel
theorem dX2_run_258 : decode cX2_run 258 = .ok (.iload 6, 2) := by decide +kernel
theorem dX2_run_260 : decode cX2_run 260 = .ok (.aload_n 0, 1) := by decide +kernel
theorem dX2_run_261 : decode cX2_run 261 = .ok (.getfield 33, 3) := by decide +kernel
theorem dX2_run_264 : decode cX2_run 264 = .ok (.iload 4, 2) := by decide +kernel
theorem dX2_run_266 : decode cX2_run 266 = .ok (.iconst 1, 1) := by decide +kernel
theorem dX2_run_267 : decode cX2_run 267 = .ok (.isub, 1) := by decide +kernel
theorem dX2_run_268 : decode cX2_run 268 = .ok (.iaload, 1) := by decide +kernel
theorem dX2_run_269 : decode cX2_run 269 = .ok (.aload_n 0, 1) := by decide +kernel
theorem dX2_run_270 : decode cX2_run 270 = .ok (.getfield 33, 3) := by decide +kernel
theorem dX2_run_273 : decode cX2_run 273 = .ok (.iload 4, 2) := by decide +kernel
theorem dX2_run_275 : decode cX2_run 275 = .ok (.iaload, 1) := by decide +kernel
theorem dX2_run_276 : decode cX2_run 276 = .ok (.invokestatic 52, 3) := by decide +kernel
theorem dX2_run_279 : decode cX2_run 279 = .ok (.iastore, 1) := by decide +kernel
theorem dX2_run_280 : decode cX2_run 280 = .ok (.iinc 5 1, 3) := by decide +kernel
theorem dX2_run_283 : decode cX2_run 283 = .ok (.goto (-275), 3) := by decide +kernel
theorem dX2_run_286 : decode cX2_run 286 = .ok (.iload 4, 2) := by decide +kernel
theorem dX2_run_288 : decode cX2_run 288 = .ok (.iconst 1, 1) := by decide +kernel
theorem dX2_run_289 : decode cX2_run 289 = .ok (.if_icmp .ne 12, 3) := by decide +kernel
theorem dX2_run_292 : decode cX2_run 292 = .ok (.aload_n 0, 1) := by decide +kernel
theorem dX2_run_293 : decode cX2_run 293 = .ok (.getfield 33, 3) := by decide +kernel
theorem dX2_run_296 : decode cX2_run 296 = .ok (.iconst 0, 1) := by decide +kernel
theorem dX2_run_297 : decode cX2_run 297 = .ok (.iaload, 1) := by decide +kernel
theorem dX2_run_298 : decode cX2_run 298 = .ok (.goto 4, 3) := by decide +kernel
theorem dX2_run_301 : decode cX2_run 301 = .ok (.iconst 0, 1) := by decide +kernel
theorem dX2_run_302 : decode cX2_run 302 = .ok (.ireturn, 1) := by decide +kernel
def ok_X2_run_8 (K : ro_K) (o0 : Nat) (v2 : Int32) : (ro_Mem ⊕ (ro_Mem ⊕ (ro_Mem ⊕ (Int32 × ro_Mem)))) → Prop := Sum.elim (fun e => ro_X K 91 [] [] e) (Sum.elim (fun e => ro_X K 138 [] [] e) (Sum.elim (fun e => ro_X K 248 [] [] e) (fun e => ro_X K 286 [(0, .ref (ro_ad (kG K) o0)), (4, .int e.1)] [] e.2)))
def fj_X2_run_93 (rec : (Int32 × Int32 × Int32 × ro_Mem) → Option (ro_Mem ⊕ (ro_Mem ⊕ (ro_Mem ⊕ (Int32 × ro_Mem))))) (o0 : Nat) (v2 : Int32) (v3 : Int32) (v4 : Int32) (v5 : Int32) (v6 : Int32) (v7 : Int32) (μ : ro_Mem) : Option (ro_Mem ⊕ (ro_Mem ⊕ (ro_Mem ⊕ (Int32 × ro_Mem)))) :=
  if v6 = 8 then
  (if ro_in v4 32 then
  (ro_lt (ro_set μ (o0 + 8) v4.toNatClampNeg v7) fun m19 =>
  rec (v3, v4 + 1, v5 + 1, m19)) else none)
  else
  (if ro_in v7 12 then
  (if ro_in v4 32 then
  (ro_lt (ro_set μ (o0 + 8) v4.toNatClampNeg (μ (o0 + 7) v7.toNatClampNeg)) fun m16 =>
  rec (v3, v4 + 1, v5 + 1, m16)) else none) else none)
theorem bj_X2_run_93 {K : ro_K} (hK : ro_C K RX2 cX2_run 9 1) (hR : ro_R K (some .int)) {o0 : Nat} {v2 : Int32} {v3 : Int32} {v4 : Int32} {v5 : Int32} {v6 : Int32} {v7 : Int32} (h0 : ro_sh o0 = (0, 2)) {rec : (Int32 × Int32 × Int32 × ro_Mem) → Option (ro_Mem ⊕ (ro_Mem ⊕ (ro_Mem ⊕ (Int32 × ro_Mem))))} {μ : ro_Mem} (hrec : ∀ (s : Int32 × Int32 × Int32 × ro_Mem) (q : (ro_Mem ⊕ (ro_Mem ⊕ (ro_Mem ⊕ (Int32 × ro_Mem))))), rec s = some q → ok_X2_run_8 K o0 v2 q → ro_X K 8 [(0, .ref (ro_ad (kG K) o0)), (2, .int v2), (3, .int s.1), (4, .int s.2.1), (5, .int s.2.2.1)] [] s.2.2.2) {out : (ro_Mem ⊕ (ro_Mem ⊕ (ro_Mem ⊕ (Int32 × ro_Mem))))} (hf : fj_X2_run_93 rec o0 v2 v3 v4 v5 v6 v7 μ = some out) (hq : ok_X2_run_8 K o0 v2 out) : ro_X K 93 [(0, .ref (ro_ad (kG K) o0)), (2, .int v2), (3, .int v3), (4, .int v4), (5, .int v5), (6, .int v6), (7, .int v7)] [] μ := by
  unfold fj_X2_run_93 at hf
  refine ro_aload_n hK 0 rfl dX2_run_93 rfl ?_
  refine ro_getr hK fl_X2_33 h0 dX2_run_94 ?_
  refine ro_iload hK 3 rfl dX2_run_97 ?_
  refine ro_iload hK 5 rfl dX2_run_99 ?_
  refine ro_bipush (v := 8) hK dX2_run_101 (by decide) ?_
  refine ro_icmp_ne hK 111 dX2_run_103 (by decide) (fun c13 => ?_) (fun c13 => ?_)
  · have hf := ro_ie hf c13
    refine ro_aload_n hK 0 rfl dX2_run_111 rfl ?_
    refine ro_getr hK fl_X2_30 h0 dX2_run_112 ?_
    refine ro_iload hK 6 rfl dX2_run_115 ?_
    obtain ⟨g14, hf⟩ := ro_gd hf
    refine ro_iald hK (so_2_7 h0) g14 dX2_run_117 ?_
    obtain ⟨g15, hf⟩ := ro_gd hf
    obtain ⟨m16, e17, hf⟩ := ro_ld hf
    refine ro_iast hK (so_2_8 h0) g15 dX2_run_118 ?_
    refine ro_mv e17 ?_
    refine ro_iinc (v := v4 + 1) (L' := [(4, .int (v4 + 1)), (0, .ref (ro_ad (kG K) o0)), (2, .int v2), (3, .int v3), (5, .int v5), (6, .int v6), (7, .int v7)]) hK 3 rfl dX2_run_119 rfl (by decide) rfl ?_
    refine ro_goto hK 280 dX2_run_122 (by decide) ?_
    refine ro_iinc (v := v5 + 1) (L' := [(5, .int (v5 + 1)), (4, .int (v4 + 1)), (0, .ref (ro_ad (kG K) o0)), (2, .int v2), (3, .int v3), (6, .int v6), (7, .int v7)]) hK 4 rfl dX2_run_280 rfl (by decide) rfl ?_
    refine ro_goto hK 8 dX2_run_283 (by decide) ?_
    refine ro_sub (L' := [(0, .ref (ro_ad (kG K) o0)), (2, .int v2), (3, .int v3), (4, .int (v4 + 1)), (5, .int (v5 + 1))]) [2, 3, 4, 1, 0] rfl ?_
    exact hrec (v3, v4 + 1, v5 + 1, m16) _ hf hq
  · have hf := ro_it hf c13
    refine ro_iload hK 6 rfl dX2_run_106 ?_
    refine ro_goto hK 118 dX2_run_108 (by decide) ?_
    obtain ⟨g18, hf⟩ := ro_gd hf
    obtain ⟨m19, e20, hf⟩ := ro_ld hf
    refine ro_iast hK (so_2_8 h0) g18 dX2_run_118 ?_
    refine ro_mv e20 ?_
    refine ro_iinc (v := v4 + 1) (L' := [(4, .int (v4 + 1)), (0, .ref (ro_ad (kG K) o0)), (2, .int v2), (3, .int v3), (5, .int v5), (6, .int v6), (7, .int v7)]) hK 3 rfl dX2_run_119 rfl (by decide) rfl ?_
    refine ro_goto hK 280 dX2_run_122 (by decide) ?_
    refine ro_iinc (v := v5 + 1) (L' := [(5, .int (v5 + 1)), (4, .int (v4 + 1)), (0, .ref (ro_ad (kG K) o0)), (2, .int v2), (3, .int v3), (6, .int v6), (7, .int v7)]) hK 4 rfl dX2_run_280 rfl (by decide) rfl ?_
    refine ro_goto hK 8 dX2_run_283 (by decide) ?_
    refine ro_sub (L' := [(0, .ref (ro_ad (kG K) o0)), (2, .int v2), (3, .int v3), (4, .int (v4 + 1)), (5, .int (v5 + 1))]) [2, 3, 4, 1, 0] rfl ?_
    exact hrec (v3, v4 + 1, v5 + 1, m19) _ hf hq
def fj_X2_run_65 (rec : (Int32 × Int32 × Int32 × ro_Mem) → Option (ro_Mem ⊕ (ro_Mem ⊕ (ro_Mem ⊕ (Int32 × ro_Mem))))) (o0 : Nat) (v2 : Int32) (v3 : Int32) (v4 : Int32) (v5 : Int32) (v6 : Int32) (v7 : Int32) (μ : ro_Mem) : Option (ro_Mem ⊕ (ro_Mem ⊕ (ro_Mem ⊕ (Int32 × ro_Mem)))) :=
  if 32 ≤ v4 then
  (some (.inl μ))
  else
  (if v6 = 9 then
  (if v7 < 0 then
  (some (.inl μ))
  else
  (if v7 < 12 then
  (fj_X2_run_93 rec o0 v2 v3 v4 v5 v6 v7 μ)
  else
  (some (.inl μ))))
  else
  (fj_X2_run_93 rec o0 v2 v3 v4 v5 v6 v7 μ))
theorem bj_X2_run_65 {K : ro_K} (hK : ro_C K RX2 cX2_run 9 1) (hR : ro_R K (some .int)) {o0 : Nat} {v2 : Int32} {v3 : Int32} {v4 : Int32} {v5 : Int32} {v6 : Int32} {v7 : Int32} (h0 : ro_sh o0 = (0, 2)) {rec : (Int32 × Int32 × Int32 × ro_Mem) → Option (ro_Mem ⊕ (ro_Mem ⊕ (ro_Mem ⊕ (Int32 × ro_Mem))))} {μ : ro_Mem} (hrec : ∀ (s : Int32 × Int32 × Int32 × ro_Mem) (q : (ro_Mem ⊕ (ro_Mem ⊕ (ro_Mem ⊕ (Int32 × ro_Mem))))), rec s = some q → ok_X2_run_8 K o0 v2 q → ro_X K 8 [(0, .ref (ro_ad (kG K) o0)), (2, .int v2), (3, .int s.1), (4, .int s.2.1), (5, .int s.2.2.1)] [] s.2.2.2) {out : (ro_Mem ⊕ (ro_Mem ⊕ (ro_Mem ⊕ (Int32 × ro_Mem))))} (hf : fj_X2_run_65 rec o0 v2 v3 v4 v5 v6 v7 μ = some out) (hq : ok_X2_run_8 K o0 v2 out) : ro_X K 65 [(0, .ref (ro_ad (kG K) o0)), (2, .int v2), (3, .int v3), (4, .int v4), (5, .int v5), (6, .int v6), (7, .int v7)] [] μ := by
  unfold fj_X2_run_65 at hf
  refine ro_iload hK 3 rfl dX2_run_65 ?_
  refine ro_bipush (v := 32) hK dX2_run_67 (by decide) ?_
  refine ro_icmp_ge hK 91 dX2_run_69 (by decide) (fun c11 => ?_) (fun c11 => ?_)
  · have hf := ro_it hf c11
    refine ro_sub (L' := []) [] rfl ?_
    obtain rfl := Option.some.inj hf
    exact hq
  · have hf := ro_ie hf c11
    refine ro_iload hK 5 rfl dX2_run_72 ?_
    refine ro_bipush (v := 9) hK dX2_run_74 (by decide) ?_
    refine ro_icmp_ne hK 93 dX2_run_76 (by decide) (fun c12 => ?_) (fun c12 => ?_)
    · have hf := ro_ie hf c12
      exact bj_X2_run_93 hK hR h0 hrec hf hq
    · have hf := ro_it hf c12
      refine ro_iload hK 6 rfl dX2_run_79 ?_
      refine ro_if_lt hK 91 dX2_run_81 (by decide) (fun c21 => ?_) (fun c21 => ?_)
      · have hf := ro_it hf c21
        refine ro_sub (L' := []) [] rfl ?_
        obtain rfl := Option.some.inj hf
        exact hq
      · have hf := ro_ie hf c21
        refine ro_iload hK 6 rfl dX2_run_84 ?_
        refine ro_bipush (v := 12) hK dX2_run_86 (by decide) ?_
        refine ro_icmp_lt hK 93 dX2_run_88 (by decide) (fun c22 => ?_) (fun c22 => ?_)
        · have hf := ro_it hf c22
          exact bj_X2_run_93 hK hR h0 hrec hf hq
        · have hf := ro_ie hf c22
          refine ro_sub (L' := []) [] rfl ?_
          obtain rfl := Option.some.inj hf
          exact hq
def fj_X2_run_250 (rec : (Int32 × Int32 × Int32 × ro_Mem) → Option (ro_Mem ⊕ (ro_Mem ⊕ (ro_Mem ⊕ (Int32 × ro_Mem))))) (o0 : Nat) (v2 : Int32) (v3 : Int32) (v4 : Int32) (v5 : Int32) (v6 : Int32) (μ : ro_Mem) : Option (ro_Mem ⊕ (ro_Mem ⊕ (ro_Mem ⊕ (Int32 × ro_Mem)))) :=
  if ro_in (v4 - 1) 32 then
  (if ro_in v4 32 then
  ((fn_X2_reckon v6 (μ (o0 + 8) (v4 - 1).toNatClampNeg) (μ (o0 + 8) v4.toNatClampNeg)).bind fun q30 =>
  ro_lt (ro_set μ (o0 + 8) (v4 - 1).toNatClampNeg q30) fun m32 =>
  rec (v3, v4, v5 + 1, m32)) else none) else none
theorem bj_X2_run_250 {K : ro_K} (hK : ro_C K RX2 cX2_run 9 1) (hR : ro_R K (some .int)) {o0 : Nat} {v2 : Int32} {v3 : Int32} {v4 : Int32} {v5 : Int32} {v6 : Int32} (h0 : ro_sh o0 = (0, 2)) {rec : (Int32 × Int32 × Int32 × ro_Mem) → Option (ro_Mem ⊕ (ro_Mem ⊕ (ro_Mem ⊕ (Int32 × ro_Mem))))} {μ : ro_Mem} (hrec : ∀ (s : Int32 × Int32 × Int32 × ro_Mem) (q : (ro_Mem ⊕ (ro_Mem ⊕ (ro_Mem ⊕ (Int32 × ro_Mem))))), rec s = some q → ok_X2_run_8 K o0 v2 q → ro_X K 8 [(0, .ref (ro_ad (kG K) o0)), (2, .int v2), (3, .int s.1), (4, .int s.2.1), (5, .int s.2.2.1)] [] s.2.2.2) {out : (ro_Mem ⊕ (ro_Mem ⊕ (ro_Mem ⊕ (Int32 × ro_Mem))))} (hf : fj_X2_run_250 rec o0 v2 v3 v4 v5 v6 μ = some out) (hq : ok_X2_run_8 K o0 v2 out) : ro_X K 250 [(0, .ref (ro_ad (kG K) o0)), (2, .int v2), (3, .int v3), (4, .int v4), (5, .int v5), (6, .int v6)] [] μ := by
  unfold fj_X2_run_250 at hf
  refine ro_aload_n hK 0 rfl dX2_run_250 rfl ?_
  refine ro_getr hK fl_X2_33 h0 dX2_run_251 ?_
  refine ro_iload hK 3 rfl dX2_run_254 ?_
  refine ro_iconst (v := 1) hK dX2_run_256 (by decide) ?_
  refine ro_isub hK dX2_run_257 ?_
  refine ro_iload hK 5 rfl dX2_run_258 ?_
  refine ro_aload_n hK 0 rfl dX2_run_260 rfl ?_
  refine ro_getr hK fl_X2_33 h0 dX2_run_261 ?_
  refine ro_iload hK 3 rfl dX2_run_264 ?_
  refine ro_iconst (v := 1) hK dX2_run_266 (by decide) ?_
  refine ro_isub hK dX2_run_267 ?_
  obtain ⟨g28, hf⟩ := ro_gd hf
  refine ro_iald hK (so_2_8 h0) g28 dX2_run_268 ?_
  refine ro_aload_n hK 0 rfl dX2_run_269 rfl ?_
  refine ro_getr hK fl_X2_33 h0 dX2_run_270 ?_
  refine ro_iload hK 3 rfl dX2_run_273 ?_
  obtain ⟨g29, hf⟩ := ro_gd hf
  refine ro_iald hK (so_2_8 h0) g29 dX2_run_275 ?_
  obtain ⟨q30, e31, hf⟩ := ro_bd hf
  refine ro_callsi hK [.int v6, .int (μ (o0 + 8) (v4 - 1).toNatClampNeg), .int (μ (o0 + 8) v4.toNatClampNeg)] ml_X2_52 ms_X2_reckon (mt_X2_reckon (kl K) (kG K)  e31) (by decide) rfl rfl (Nat.le_of_ble_eq_true rfl) dX2_run_276 ?_
  obtain ⟨m32, e33, hf⟩ := ro_ld hf
  refine ro_iast hK (so_2_8 h0) g28 dX2_run_279 ?_
  refine ro_mv e33 ?_
  refine ro_iinc (v := v5 + 1) (L' := [(5, .int (v5 + 1)), (0, .ref (ro_ad (kG K) o0)), (2, .int v2), (3, .int v3), (4, .int v4), (6, .int v6)]) hK 4 rfl dX2_run_280 rfl (by decide) rfl ?_
  refine ro_goto hK 8 dX2_run_283 (by decide) ?_
  refine ro_sub (L' := [(0, .ref (ro_ad (kG K) o0)), (2, .int v2), (3, .int v3), (4, .int v4), (5, .int (v5 + 1))]) [1, 2, 3, 4, 0] rfl ?_
  exact hrec (v3, v4, v5 + 1, m32) _ hf hq
def fj_X2_run_202 (rec : (Int32 × Int32 × Int32 × ro_Mem) → Option (ro_Mem ⊕ (ro_Mem ⊕ (ro_Mem ⊕ (Int32 × ro_Mem))))) (o0 : Nat) (v2 : Int32) (v3 : Int32) (v4 : Int32) (v5 : Int32) (v7 : Int32) (t0 : Int32) (t1 : Int32) (μ : ro_Mem) : Option (ro_Mem ⊕ (ro_Mem ⊕ (ro_Mem ⊕ (Int32 × ro_Mem)))) :=
  if t0 = t1 then
  (rec (v7, v4, v5 + 1, μ))
  else
  (rec (v3, v4 + (-1), v5 + 1, μ))
theorem bj_X2_run_202 {K : ro_K} (hK : ro_C K RX2 cX2_run 9 1) (hR : ro_R K (some .int)) {o0 : Nat} {v2 : Int32} {v3 : Int32} {v4 : Int32} {v5 : Int32} {v7 : Int32} {t0 : Int32} {t1 : Int32} (h0 : ro_sh o0 = (0, 2)) {rec : (Int32 × Int32 × Int32 × ro_Mem) → Option (ro_Mem ⊕ (ro_Mem ⊕ (ro_Mem ⊕ (Int32 × ro_Mem))))} {μ : ro_Mem} (hrec : ∀ (s : Int32 × Int32 × Int32 × ro_Mem) (q : (ro_Mem ⊕ (ro_Mem ⊕ (ro_Mem ⊕ (Int32 × ro_Mem))))), rec s = some q → ok_X2_run_8 K o0 v2 q → ro_X K 8 [(0, .ref (ro_ad (kG K) o0)), (2, .int v2), (3, .int s.1), (4, .int s.2.1), (5, .int s.2.2.1)] [] s.2.2.2) {out : (ro_Mem ⊕ (ro_Mem ⊕ (ro_Mem ⊕ (Int32 × ro_Mem))))} (hf : fj_X2_run_202 rec o0 v2 v3 v4 v5 v7 t0 t1 μ = some out) (hq : ok_X2_run_8 K o0 v2 out) : ro_X K 202 [(0, .ref (ro_ad (kG K) o0)), (2, .int v2), (3, .int v3), (4, .int v4), (5, .int v5), (7, .int v7)] [.int t1, .int t0] μ := by
  unfold fj_X2_run_202 at hf
  refine ro_icmp_ne hK 211 dX2_run_202 (by decide) (fun c41 => ?_) (fun c41 => ?_)
  · have hf := ro_ie hf c41
    refine ro_iinc (v := v4 + (-1)) (L' := [(4, .int (v4 + (-1))), (0, .ref (ro_ad (kG K) o0)), (2, .int v2), (3, .int v3), (5, .int v5), (7, .int v7)]) hK 3 rfl dX2_run_211 rfl (by decide) rfl ?_
    refine ro_goto hK 280 dX2_run_214 (by decide) ?_
    refine ro_iinc (v := v5 + 1) (L' := [(5, .int (v5 + 1)), (4, .int (v4 + (-1))), (0, .ref (ro_ad (kG K) o0)), (2, .int v2), (3, .int v3), (7, .int v7)]) hK 4 rfl dX2_run_280 rfl (by decide) rfl ?_
    refine ro_goto hK 8 dX2_run_283 (by decide) ?_
    refine ro_sub (L' := [(0, .ref (ro_ad (kG K) o0)), (2, .int v2), (3, .int v3), (4, .int (v4 + (-1))), (5, .int (v5 + 1))]) [2, 3, 4, 1, 0] rfl ?_
    exact hrec (v3, v4 + (-1), v5 + 1, μ) _ hf hq
  · have hf := ro_it hf c41
    refine ro_iload hK 5 rfl dX2_run_205 ?_
    refine ro_istore_n (L' := [(3, .int v7), (0, .ref (ro_ad (kG K) o0)), (2, .int v2), (4, .int v4), (5, .int v5), (7, .int v7)]) hK dX2_run_207 rfl (by decide) rfl ?_
    refine ro_goto hK 214 dX2_run_208 (by decide) ?_
    refine ro_goto hK 280 dX2_run_214 (by decide) ?_
    refine ro_iinc (v := v5 + 1) (L' := [(5, .int (v5 + 1)), (3, .int v7), (0, .ref (ro_ad (kG K) o0)), (2, .int v2), (4, .int v4), (7, .int v7)]) hK 4 rfl dX2_run_280 rfl (by decide) rfl ?_
    refine ro_goto hK 8 dX2_run_283 (by decide) ?_
    refine ro_sub (L' := [(0, .ref (ro_ad (kG K) o0)), (2, .int v2), (3, .int v7), (4, .int v4), (5, .int (v5 + 1))]) [2, 3, 1, 4, 0] rfl ?_
    exact hrec (v7, v4, v5 + 1, μ) _ hf hq
def fj_X2_run_157 (rec : (Int32 × Int32 × Int32 × ro_Mem) → Option (ro_Mem ⊕ (ro_Mem ⊕ (ro_Mem ⊕ (Int32 × ro_Mem))))) (o0 : Nat) (v2 : Int32) (v3 : Int32) (v4 : Int32) (v5 : Int32) (v6 : Int32) (v7 : Int32) (t0 : Int32) (μ : ro_Mem) : Option (ro_Mem ⊕ (ro_Mem ⊕ (ro_Mem ⊕ (Int32 × ro_Mem)))) :=
  if v6 = 10 then
  (if t0 = 0 then
  (if ro_in (v4 - 1) 32 then
  (ro_lt (ro_set μ (o0 + 8) (v4 - 1).toNatClampNeg 1) fun m44 =>
  rec (v3, v4, v5 + 1, m44)) else none)
  else
  (if ro_in (v4 - 1) 32 then
  (ro_lt (ro_set μ (o0 + 8) (v4 - 1).toNatClampNeg 0) fun m47 =>
  rec (v3, v4, v5 + 1, m47)) else none))
  else
  (if v6 = 12 then
  (fj_X2_run_202 rec o0 v2 v3 v4 v5 v7 t0 1 μ)
  else
  (fj_X2_run_202 rec o0 v2 v3 v4 v5 v7 t0 0 μ))
theorem bj_X2_run_157 {K : ro_K} (hK : ro_C K RX2 cX2_run 9 1) (hR : ro_R K (some .int)) {o0 : Nat} {v2 : Int32} {v3 : Int32} {v4 : Int32} {v5 : Int32} {v6 : Int32} {v7 : Int32} {t0 : Int32} (h0 : ro_sh o0 = (0, 2)) {rec : (Int32 × Int32 × Int32 × ro_Mem) → Option (ro_Mem ⊕ (ro_Mem ⊕ (ro_Mem ⊕ (Int32 × ro_Mem))))} {μ : ro_Mem} (hrec : ∀ (s : Int32 × Int32 × Int32 × ro_Mem) (q : (ro_Mem ⊕ (ro_Mem ⊕ (ro_Mem ⊕ (Int32 × ro_Mem))))), rec s = some q → ok_X2_run_8 K o0 v2 q → ro_X K 8 [(0, .ref (ro_ad (kG K) o0)), (2, .int v2), (3, .int s.1), (4, .int s.2.1), (5, .int s.2.2.1)] [] s.2.2.2) {out : (ro_Mem ⊕ (ro_Mem ⊕ (ro_Mem ⊕ (Int32 × ro_Mem))))} (hf : fj_X2_run_157 rec o0 v2 v3 v4 v5 v6 v7 t0 μ = some out) (hq : ok_X2_run_8 K o0 v2 out) : ro_X K 157 [(0, .ref (ro_ad (kG K) o0)), (2, .int v2), (3, .int v3), (4, .int v4), (5, .int v5), (6, .int v6), (7, .int v7)] [.int t0] μ := by
  unfold fj_X2_run_157 at hf
  refine ro_istore (L' := [(8, .int t0), (0, .ref (ro_ad (kG K) o0)), (2, .int v2), (3, .int v3), (4, .int v4), (5, .int v5), (6, .int v6), (7, .int v7)]) hK dX2_run_157 (by decide) rfl ?_
  refine ro_iload hK 6 rfl dX2_run_159 ?_
  refine ro_bipush (v := 10) hK dX2_run_161 (by decide) ?_
  refine ro_icmp_ne hK 188 dX2_run_163 (by decide) (fun c39 => ?_) (fun c39 => ?_)
  · have hf := ro_ie hf c39
    refine ro_iload hK 0 rfl dX2_run_188 ?_
    refine ro_iload hK 6 rfl dX2_run_190 ?_
    refine ro_bipush (v := 12) hK dX2_run_192 (by decide) ?_
    refine ro_icmp_ne hK 201 dX2_run_194 (by decide) (fun c40 => ?_) (fun c40 => ?_)
    · have hf := ro_ie hf c40
      refine ro_iconst (v := 0) hK dX2_run_201 (by decide) ?_
      refine ro_sub (L' := [(0, .ref (ro_ad (kG K) o0)), (2, .int v2), (3, .int v3), (4, .int v4), (5, .int v5), (7, .int v7)]) [1, 2, 3, 4, 5, 7] rfl ?_
      exact bj_X2_run_202 hK hR h0 hrec hf hq
    · have hf := ro_it hf c40
      refine ro_iconst (v := 1) hK dX2_run_197 (by decide) ?_
      refine ro_goto hK 202 dX2_run_198 (by decide) ?_
      refine ro_sub (L' := [(0, .ref (ro_ad (kG K) o0)), (2, .int v2), (3, .int v3), (4, .int v4), (5, .int v5), (7, .int v7)]) [1, 2, 3, 4, 5, 7] rfl ?_
      exact bj_X2_run_202 hK hR h0 hrec hf hq
  · have hf := ro_it hf c39
    refine ro_aload_n hK 1 rfl dX2_run_166 rfl ?_
    refine ro_getr hK fl_X2_33 h0 dX2_run_167 ?_
    refine ro_iload hK 4 rfl dX2_run_170 ?_
    refine ro_iconst (v := 1) hK dX2_run_172 (by decide) ?_
    refine ro_isub hK dX2_run_173 ?_
    refine ro_iload hK 0 rfl dX2_run_174 ?_
    refine ro_if_eq hK 183 dX2_run_176 (by decide) (fun c42 => ?_) (fun c42 => ?_)
    · have hf := ro_it hf c42
      refine ro_iconst (v := 1) hK dX2_run_183 (by decide) ?_
      obtain ⟨g43, hf⟩ := ro_gd hf
      obtain ⟨m44, e45, hf⟩ := ro_ld hf
      refine ro_iast hK (so_2_8 h0) g43 dX2_run_184 ?_
      refine ro_mv e45 ?_
      refine ro_goto hK 214 dX2_run_185 (by decide) ?_
      refine ro_goto hK 280 dX2_run_214 (by decide) ?_
      refine ro_iinc (v := v5 + 1) (L' := [(5, .int (v5 + 1)), (8, .int t0), (0, .ref (ro_ad (kG K) o0)), (2, .int v2), (3, .int v3), (4, .int v4), (6, .int v6), (7, .int v7)]) hK 5 rfl dX2_run_280 rfl (by decide) rfl ?_
      refine ro_goto hK 8 dX2_run_283 (by decide) ?_
      refine ro_sub (L' := [(0, .ref (ro_ad (kG K) o0)), (2, .int v2), (3, .int v3), (4, .int v4), (5, .int (v5 + 1))]) [2, 3, 4, 5, 0] rfl ?_
      exact hrec (v3, v4, v5 + 1, m44) _ hf hq
    · have hf := ro_ie hf c42
      refine ro_iconst (v := 0) hK dX2_run_179 (by decide) ?_
      refine ro_goto hK 184 dX2_run_180 (by decide) ?_
      obtain ⟨g46, hf⟩ := ro_gd hf
      obtain ⟨m47, e48, hf⟩ := ro_ld hf
      refine ro_iast hK (so_2_8 h0) g46 dX2_run_184 ?_
      refine ro_mv e48 ?_
      refine ro_goto hK 214 dX2_run_185 (by decide) ?_
      refine ro_goto hK 280 dX2_run_214 (by decide) ?_
      refine ro_iinc (v := v5 + 1) (L' := [(5, .int (v5 + 1)), (8, .int t0), (0, .ref (ro_ad (kG K) o0)), (2, .int v2), (3, .int v3), (4, .int v4), (6, .int v6), (7, .int v7)]) hK 5 rfl dX2_run_280 rfl (by decide) rfl ?_
      refine ro_goto hK 8 dX2_run_283 (by decide) ?_
      refine ro_sub (L' := [(0, .ref (ro_ad (kG K) o0)), (2, .int v2), (3, .int v3), (4, .int v4), (5, .int (v5 + 1))]) [2, 3, 4, 5, 0] rfl ?_
      exact hrec (v3, v4, v5 + 1, m47) _ hf hq
def fb_X2_run_8 (o0 : Nat) (v2 : Int32) (rec : (Int32 × Int32 × Int32 × ro_Mem) → Option (ro_Mem ⊕ (ro_Mem ⊕ (ro_Mem ⊕ (Int32 × ro_Mem))))) (v3 : Int32) (v4 : Int32) (v5 : Int32) (μ : ro_Mem) : Option (ro_Mem ⊕ (ro_Mem ⊕ (ro_Mem ⊕ (Int32 × ro_Mem)))) :=
  if 200 ≤ v5 then
  (some (.inr (.inr (.inr (v4, μ)))))
  else
  (if v3 < 0 then
  (some (.inr (.inr (.inr (v4, μ)))))
  else
  (if v2 ≤ v3 then
  (some (.inr (.inr (.inr (v4, μ)))))
  else
  (if 200 ≤ v3 then
  (some (.inr (.inr (.inr (v4, μ)))))
  else
  (if ro_in v3 200 then
  (ro_lt (μ (o0 + 1) v3.toNatClampNeg) fun z6 =>
  ro_lt (μ (o0 + 2) v3.toNatClampNeg) fun z8 =>
  if z6 = 8 then
  (fj_X2_run_65 rec o0 v2 (v3 + 1) v4 v5 z6 z8 μ)
  else
  (if z6 = 9 then
  (fj_X2_run_65 rec o0 v2 (v3 + 1) v4 v5 z6 z8 μ)
  else
  (if z6 < 10 then
  (if (v4 + (-1)) < 1 then
  (some (.inr (.inr (.inl μ))))
  else
  (if ro_in (v4 + (-1)) 32 then
  (if (μ (o0 + 8) (v4 + (-1)).toNatClampNeg) = 0 then
  (if z6 = 3 then
  (some (.inr (.inr (.inl μ))))
  else
  (if z6 = 4 then
  (some (.inr (.inr (.inl μ))))
  else
  (fj_X2_run_250 rec o0 v2 (v3 + 1) (v4 + (-1)) v5 z6 μ)))
  else
  (fj_X2_run_250 rec o0 v2 (v3 + 1) (v4 + (-1)) v5 z6 μ)) else none))
  else
  (if 1 ≤ v4 then
  (if ro_in (v4 - 1) 32 then
  (if (μ (o0 + 8) (v4 - 1).toNatClampNeg) = 0 then
  (fj_X2_run_157 rec o0 v2 (v3 + 1) v4 v5 z6 z8 0 μ)
  else
  (fj_X2_run_157 rec o0 v2 (v3 + 1) v4 v5 z6 z8 1 μ)) else none)
  else
  (some (.inr (.inl μ))))))) else none))))
theorem bb_X2_run_8 {K : ro_K} (hK : ro_C K RX2 cX2_run 9 1) (hR : ro_R K (some .int)) {o0 : Nat} {v2 : Int32} (h0 : ro_sh o0 = (0, 2)) {μ : ro_Mem} {rec : (Int32 × Int32 × Int32 × ro_Mem) → Option (ro_Mem ⊕ (ro_Mem ⊕ (ro_Mem ⊕ (Int32 × ro_Mem))))} {v3 : Int32} {v4 : Int32} {v5 : Int32} {q : (ro_Mem ⊕ (ro_Mem ⊕ (ro_Mem ⊕ (Int32 × ro_Mem))))} (hrec : ∀ (s : Int32 × Int32 × Int32 × ro_Mem) (q : (ro_Mem ⊕ (ro_Mem ⊕ (ro_Mem ⊕ (Int32 × ro_Mem))))), rec s = some q → ok_X2_run_8 K o0 v2 q → ro_X K 8 [(0, .ref (ro_ad (kG K) o0)), (2, .int v2), (3, .int s.1), (4, .int s.2.1), (5, .int s.2.2.1)] [] s.2.2.2) (hf : fb_X2_run_8 o0 v2 rec v3 v4 v5 μ = some q) (hq : ok_X2_run_8 K o0 v2 q) : ro_X K 8 [(0, .ref (ro_ad (kG K) o0)), (2, .int v2), (3, .int v3), (4, .int v4), (5, .int v5)] [] μ := by
  unfold fb_X2_run_8 at hf
  refine ro_iload hK 4 rfl dX2_run_8 ?_
  refine ro_sipush (v := 200) hK dX2_run_10 (by decide) ?_
  refine ro_icmp_ge hK 286 dX2_run_13 (by decide) (fun c1 => ?_) (fun c1 => ?_)
  · have hf := ro_it hf c1
    refine ro_sub (L' := [(0, .ref (ro_ad (kG K) o0)), (4, .int v4)]) [0, 3] rfl ?_
    obtain rfl := Option.some.inj hf
    exact hq
  · have hf := ro_ie hf c1
    refine ro_iload_n hK 2 rfl dX2_run_16 rfl ?_
    refine ro_if_lt hK 286 dX2_run_17 (by decide) (fun c2 => ?_) (fun c2 => ?_)
    · have hf := ro_it hf c2
      refine ro_sub (L' := [(0, .ref (ro_ad (kG K) o0)), (4, .int v4)]) [0, 3] rfl ?_
      obtain rfl := Option.some.inj hf
      exact hq
    · have hf := ro_ie hf c2
      refine ro_iload_n hK 2 rfl dX2_run_20 rfl ?_
      refine ro_iload_n hK 1 rfl dX2_run_21 rfl ?_
      refine ro_icmp_ge hK 286 dX2_run_22 (by decide) (fun c3 => ?_) (fun c3 => ?_)
      · have hf := ro_it hf c3
        refine ro_sub (L' := [(0, .ref (ro_ad (kG K) o0)), (4, .int v4)]) [0, 3] rfl ?_
        obtain rfl := Option.some.inj hf
        exact hq
      · have hf := ro_ie hf c3
        refine ro_iload_n hK 2 rfl dX2_run_25 rfl ?_
        refine ro_sipush (v := 200) hK dX2_run_26 (by decide) ?_
        refine ro_icmp_ge hK 286 dX2_run_29 (by decide) (fun c4 => ?_) (fun c4 => ?_)
        · have hf := ro_it hf c4
          refine ro_sub (L' := [(0, .ref (ro_ad (kG K) o0)), (4, .int v4)]) [0, 3] rfl ?_
          obtain rfl := Option.some.inj hf
          exact hq
        · have hf := ro_ie hf c4
          refine ro_aload_n hK 0 rfl dX2_run_32 rfl ?_
          refine ro_getr hK fl_X2_11 h0 dX2_run_33 ?_
          refine ro_iload_n hK 2 rfl dX2_run_36 rfl ?_
          obtain ⟨g5, hf⟩ := ro_gd hf
          refine ro_iald hK (so_2_1 h0) g5 dX2_run_37 ?_
          obtain ⟨z6, e7, hf⟩ := ro_ld hf
          refine ro_iv e7 ?_
          refine ro_istore (L' := [(6, .int z6), (0, .ref (ro_ad (kG K) o0)), (2, .int v2), (3, .int v3), (4, .int v4), (5, .int v5)]) hK dX2_run_38 (by decide) rfl ?_
          refine ro_aload_n hK 1 rfl dX2_run_40 rfl ?_
          refine ro_getr hK fl_X2_15 h0 dX2_run_41 ?_
          refine ro_iload_n hK 3 rfl dX2_run_44 rfl ?_
          refine ro_iald hK (so_2_2 h0) g5 dX2_run_45 ?_
          obtain ⟨z8, e9, hf⟩ := ro_ld hf
          refine ro_iv e9 ?_
          refine ro_istore (L' := [(7, .int z8), (6, .int z6), (0, .ref (ro_ad (kG K) o0)), (2, .int v2), (3, .int v3), (4, .int v4), (5, .int v5)]) hK dX2_run_46 (by decide) rfl ?_
          refine ro_iinc (v := v3 + 1) (L' := [(3, .int (v3 + 1)), (7, .int z8), (6, .int z6), (0, .ref (ro_ad (kG K) o0)), (2, .int v2), (4, .int v4), (5, .int v5)]) hK 4 rfl dX2_run_48 rfl (by decide) rfl ?_
          refine ro_iload hK 2 rfl dX2_run_51 ?_
          refine ro_bipush (v := 8) hK dX2_run_53 (by decide) ?_
          refine ro_icmp_eq hK 65 dX2_run_55 (by decide) (fun c10 => ?_) (fun c10 => ?_)
          · have hf := ro_it hf c10
            refine ro_sub (L' := [(0, .ref (ro_ad (kG K) o0)), (2, .int v2), (3, .int (v3 + 1)), (4, .int v4), (5, .int v5), (6, .int z6), (7, .int z8)]) [3, 4, 0, 5, 6, 2, 1] rfl ?_
            exact bj_X2_run_65 hK hR h0 hrec hf hq
          · have hf := ro_ie hf c10
            refine ro_iload hK 2 rfl dX2_run_58 ?_
            refine ro_bipush (v := 9) hK dX2_run_60 (by decide) ?_
            refine ro_icmp_ne hK 125 dX2_run_62 (by decide) (fun c23 => ?_) (fun c23 => ?_)
            · have hf := ro_ie hf c23
              refine ro_iload hK 2 rfl dX2_run_125 ?_
              refine ro_bipush (v := 10) hK dX2_run_127 (by decide) ?_
              refine ro_icmp_lt hK 217 dX2_run_129 (by decide) (fun c24 => ?_) (fun c24 => ?_)
              · have hf := ro_it hf c24
                refine ro_iinc (v := v4 + (-1)) (L' := [(4, .int (v4 + (-1))), (3, .int (v3 + 1)), (7, .int z8), (6, .int z6), (0, .ref (ro_ad (kG K) o0)), (2, .int v2), (5, .int v5)]) hK 5 rfl dX2_run_217 rfl (by decide) rfl ?_
                refine ro_iload hK 0 rfl dX2_run_220 ?_
                refine ro_iconst (v := 1) hK dX2_run_222 (by decide) ?_
                refine ro_icmp_lt hK 248 dX2_run_223 (by decide) (fun c25 => ?_) (fun c25 => ?_)
                · have hf := ro_it hf c25
                  refine ro_sub (L' := []) [] rfl ?_
                  obtain rfl := Option.some.inj hf
                  exact hq
                · have hf := ro_ie hf c25
                  refine ro_aload_n hK 4 rfl dX2_run_226 rfl ?_
                  refine ro_getr hK fl_X2_33 h0 dX2_run_227 ?_
                  refine ro_iload hK 0 rfl dX2_run_230 ?_
                  obtain ⟨g26, hf⟩ := ro_gd hf
                  refine ro_iald hK (so_2_8 h0) g26 dX2_run_232 ?_
                  refine ro_if_ne hK 250 dX2_run_233 (by decide) (fun c27 => ?_) (fun c27 => ?_)
                  · have hf := ro_ie hf c27
                    refine ro_sub (L' := [(0, .ref (ro_ad (kG K) o0)), (2, .int v2), (3, .int (v3 + 1)), (4, .int (v4 + (-1))), (5, .int v5), (6, .int z6)]) [4, 5, 1, 0, 6, 3] rfl ?_
                    exact bj_X2_run_250 hK hR h0 hrec hf hq
                  · have hf := ro_it hf c27
                    refine ro_iload hK 3 rfl dX2_run_236 ?_
                    refine ro_iconst (v := 3) hK dX2_run_238 (by decide) ?_
                    refine ro_icmp_eq hK 248 dX2_run_239 (by decide) (fun c34 => ?_) (fun c34 => ?_)
                    · have hf := ro_it hf c34
                      refine ro_sub (L' := []) [] rfl ?_
                      obtain rfl := Option.some.inj hf
                      exact hq
                    · have hf := ro_ie hf c34
                      refine ro_iload hK 3 rfl dX2_run_242 ?_
                      refine ro_iconst (v := 4) hK dX2_run_244 (by decide) ?_
                      refine ro_icmp_ne hK 250 dX2_run_245 (by decide) (fun c35 => ?_) (fun c35 => ?_)
                      · have hf := ro_ie hf c35
                        refine ro_sub (L' := [(0, .ref (ro_ad (kG K) o0)), (2, .int v2), (3, .int (v3 + 1)), (4, .int (v4 + (-1))), (5, .int v5), (6, .int z6)]) [4, 5, 1, 0, 6, 3] rfl ?_
                        exact bj_X2_run_250 hK hR h0 hrec hf hq
                      · have hf := ro_it hf c35
                        refine ro_sub (L' := []) [] rfl ?_
                        obtain rfl := Option.some.inj hf
                        exact hq
              · have hf := ro_ie hf c24
                refine ro_iload hK 5 rfl dX2_run_132 ?_
                refine ro_iconst (v := 1) hK dX2_run_134 (by decide) ?_
                refine ro_icmp_ge hK 140 dX2_run_135 (by decide) (fun c36 => ?_) (fun c36 => ?_)
                · have hf := ro_it hf c36
                  refine ro_aload_n hK 3 rfl dX2_run_140 rfl ?_
                  refine ro_getr hK fl_X2_33 h0 dX2_run_141 ?_
                  refine ro_iload hK 5 rfl dX2_run_144 ?_
                  refine ro_iconst (v := 1) hK dX2_run_146 (by decide) ?_
                  refine ro_isub hK dX2_run_147 ?_
                  obtain ⟨g37, hf⟩ := ro_gd hf
                  refine ro_iald hK (so_2_8 h0) g37 dX2_run_148 ?_
                  refine ro_if_eq hK 156 dX2_run_149 (by decide) (fun c38 => ?_) (fun c38 => ?_)
                  · have hf := ro_it hf c38
                    refine ro_iconst (v := 0) hK dX2_run_156 (by decide) ?_
                    refine ro_sub (L' := [(0, .ref (ro_ad (kG K) o0)), (2, .int v2), (3, .int (v3 + 1)), (4, .int v4), (5, .int v5), (6, .int z6), (7, .int z8)]) [3, 4, 0, 5, 6, 2, 1] rfl ?_
                    exact bj_X2_run_157 hK hR h0 hrec hf hq
                  · have hf := ro_ie hf c38
                    refine ro_iconst (v := 1) hK dX2_run_152 (by decide) ?_
                    refine ro_goto hK 157 dX2_run_153 (by decide) ?_
                    refine ro_sub (L' := [(0, .ref (ro_ad (kG K) o0)), (2, .int v2), (3, .int (v3 + 1)), (4, .int v4), (5, .int v5), (6, .int z6), (7, .int z8)]) [3, 4, 0, 5, 6, 2, 1] rfl ?_
                    exact bj_X2_run_157 hK hR h0 hrec hf hq
                · have hf := ro_ie hf c36
                  refine ro_sub (L' := []) [] rfl ?_
                  obtain rfl := Option.some.inj hf
                  exact hq
            · have hf := ro_it hf c23
              refine ro_sub (L' := [(0, .ref (ro_ad (kG K) o0)), (2, .int v2), (3, .int (v3 + 1)), (4, .int v4), (5, .int v5), (6, .int z6), (7, .int z8)]) [3, 4, 0, 5, 6, 2, 1] rfl ?_
              exact bj_X2_run_65 hK hR h0 hrec hf hq
def fl_X2_run_8 (o0 : Nat) (v2 : Int32) : (Int32 × Int32 × Int32 × ro_Mem) → Option (ro_Mem ⊕ (ro_Mem ⊕ (ro_Mem ⊕ (Int32 × ro_Mem)))) :=
  ro_loop (fun rec s => fb_X2_run_8 o0 v2 rec s.1 s.2.1 s.2.2.1 s.2.2.2) ro_FU
theorem lp_X2_run_8 {K : ro_K} (hK : ro_C K RX2 cX2_run 9 1) (hR : ro_R K (some .int)) {o0 : Nat} {v2 : Int32} (h0 : ro_sh o0 = (0, 2)) {s : Int32 × Int32 × Int32 × ro_Mem} {q : (ro_Mem ⊕ (ro_Mem ⊕ (ro_Mem ⊕ (Int32 × ro_Mem))))} (hf : fl_X2_run_8 o0 v2 s = some q) (hq : ok_X2_run_8 K o0 v2 q) : ro_X K 8 [(0, .ref (ro_ad (kG K) o0)), (2, .int v2), (3, .int s.1), (4, .int s.2.1), (5, .int s.2.2.1)] [] s.2.2.2 :=
  ro_loopX (b := fun rec s => fb_X2_run_8 o0 v2 rec s.1 s.2.1 s.2.2.1 s.2.2.2) (X := fun s => ro_X K 8 [(0, .ref (ro_ad (kG K) o0)), (2, .int v2), (3, .int s.1), (4, .int s.2.1), (5, .int s.2.2.1)] [] s.2.2.2) (OK := ok_X2_run_8 K o0 v2) (fun rec s q hrec hb ho => bb_X2_run_8 hK hR h0 hrec hb ho) ro_FU s q hf hq
def fj_X2_run_286 (o0 : Nat) (v4 : Int32) (μ : ro_Mem) : Option (Int32 × ro_Mem) :=
  if v4 = 1 then
  (some (μ (o0 + 8) (0 : Int32).toNatClampNeg, μ))
  else
  (some (0, μ))
theorem bj_X2_run_286 {K : ro_K} (hK : ro_C K RX2 cX2_run 9 1) (hR : ro_R K (some .int)) {o0 : Nat} {v4 : Int32} (h0 : ro_sh o0 = (0, 2))  {μ : ro_Mem}  {out : Int32 × ro_Mem} (hf : fj_X2_run_286 o0 v4 μ = some out) (hq : kQ K (some (.int out.1)) out.2) : ro_X K 286 [(0, .ref (ro_ad (kG K) o0)), (4, .int v4)] [] μ := by
  unfold fj_X2_run_286 at hf
  refine ro_iload hK 1 rfl dX2_run_286 ?_
  refine ro_iconst (v := 1) hK dX2_run_288 (by decide) ?_
  refine ro_icmp_ne hK 301 dX2_run_289 (by decide) (fun c57 => ?_) (fun c57 => ?_)
  · have hf := ro_ie hf c57
    refine ro_iconst (v := 0) hK dX2_run_301 (by decide) ?_
    obtain rfl := Option.some.inj hf
    exact ro_iret hK hR dX2_run_302 hq
  · have hf := ro_it hf c57
    refine ro_aload_n hK 0 rfl dX2_run_292 rfl ?_
    refine ro_getr hK fl_X2_33 h0 dX2_run_293 ?_
    refine ro_iconst (v := 0) hK dX2_run_296 (by decide) ?_
    refine ro_iald hK (so_2_8 h0) (by decide) dX2_run_297 ?_
    refine ro_goto hK 302 dX2_run_298 (by decide) ?_
    obtain rfl := Option.some.inj hf
    exact ro_iret hK hR dX2_run_302 hq
def fn_X2_run (o0 : Nat) (v1 : Int32) (v2 : Int32) (μ : ro_Mem) : Option (Int32 × ro_Mem) :=
  (fl_X2_run_8 o0 v2 (v1, 0, 0, μ)).bind fun q49 =>
  q49.elim (fun e51 => some (0, e51)) (fun e52 => e52.elim (fun e53 => some (0, e53)) (fun e54 => e54.elim (fun e55 => some (0, e55)) (fun e56 => fj_X2_run_286 o0 e56.1 e56.2)))
theorem be_X2_run {K : ro_K} (hK : ro_C K RX2 cX2_run 9 1) (hR : ro_R K (some .int)) {o0 : Nat} {v1 : Int32} {v2 : Int32} (h0 : ro_sh o0 = (0, 2)) {μ : ro_Mem} {out : Int32 × ro_Mem} (hf : fn_X2_run o0 v1 v2 μ = some out) (hq : kQ K (some (.int out.1)) out.2) : ro_X K 0 [(0, .ref (ro_ad (kG K) o0)), (1, .int v1), (2, .int v2)] [] μ := by
  unfold fn_X2_run at hf
  refine ro_iload_n hK 1 rfl dX2_run_0 rfl ?_
  refine ro_istore_n (L' := [(3, .int v1), (0, .ref (ro_ad (kG K) o0)), (1, .int v1), (2, .int v2)]) hK dX2_run_1 rfl (by decide) rfl ?_
  refine ro_iconst (v := 0) hK dX2_run_2 (by decide) ?_
  refine ro_istore (L' := [(4, .int 0), (3, .int v1), (0, .ref (ro_ad (kG K) o0)), (1, .int v1), (2, .int v2)]) hK dX2_run_3 (by decide) rfl ?_
  refine ro_iconst (v := 0) hK dX2_run_5 (by decide) ?_
  refine ro_istore (L' := [(5, .int 0), (4, .int 0), (3, .int v1), (0, .ref (ro_ad (kG K) o0)), (1, .int v1), (2, .int v2)]) hK dX2_run_6 (by decide) rfl ?_
  obtain ⟨q49, e50, hf⟩ := ro_bd hf
  refine ro_sub (L' := [(0, .ref (ro_ad (kG K) o0)), (2, .int v2), (3, .int v1), (4, .int 0), (5, .int 0)]) [3, 5, 2, 1, 0] rfl ?_
  refine lp_X2_run_8 hK hR h0 e50 ?_
  rcases q49 with e51 | e52
  · have hf := ro_el hf
    show ro_X K 91 [] [] e51
    refine ro_iconst (v := 0) hK dX2_run_91 (by decide) ?_
    obtain rfl := Option.some.inj hf
    exact ro_iret hK hR dX2_run_92 hq
  · have hf := ro_er hf
    rcases e52 with e53 | e54
    · have hf := ro_el hf
      show ro_X K 138 [] [] e53
      refine ro_iconst (v := 0) hK dX2_run_138 (by decide) ?_
      obtain rfl := Option.some.inj hf
      exact ro_iret hK hR dX2_run_139 hq
    · have hf := ro_er hf
      rcases e54 with e55 | e56
      · have hf := ro_el hf
        show ro_X K 248 [] [] e55
        refine ro_iconst (v := 0) hK dX2_run_248 (by decide) ?_
        obtain rfl := Option.some.inj hf
        exact ro_iret hK hR dX2_run_249 hq
      · have hf := ro_er hf
        show ro_X K 286 [(0, .ref (ro_ad (kG K) o0)), (4, .int e56.1)] [] e56.2
        exact bj_X2_run_286 hK hR h0 hf hq
theorem mt_X2_run (l : Launch) (G : ro_G) {o0 : Nat} {v1 : Int32} {v2 : Int32} (h0 : ro_sh o0 = (0, 2)) {μ : ro_Mem} {out : Int32 × ro_Mem} (hf : fn_X2_run o0 v1 v2 μ = some out) : ro_MX l G yX2_run cX2_run 9 (some .int) 1 [.ref (ro_ad G o0), .int v1, .int v2] μ (some (.int out.1)) out.2 := by
  refine ro_MX.of (by decide +kernel) (Nat.le_of_ble_eq_true rfl) (fun K hG hl hq hK hR => ?_)
  subst hG
  exact be_X2_run hK hR h0 hf hq
-- ===== X2_amount =====
theorem dX2_amount_0 : decode cX2_amount 0 = .ok (.iconst 0, 1) := by decide +kernel
theorem dX2_amount_1 : decode cX2_amount 1 = .ok (.istore_n 3, 1) := by decide +kernel
theorem dX2_amount_2 : decode cX2_amount 2 = .ok (.iload_n 3, 1) := by decide +kernel
theorem dX2_amount_3 : decode cX2_amount 3 = .ok (.aload_n 0, 1) := by decide +kernel
theorem dX2_amount_4 : decode cX2_amount 4 = .ok (.getfield 36, 3) := by decide +kernel
theorem dX2_amount_7 : decode cX2_amount 7 = .ok (.if_icmp .ge 63, 3) := by decide +kernel
theorem dX2_amount_10 : decode cX2_amount 10 = .ok (.aload_n 0, 1) := by decide +kernel
theorem dX2_amount_11 : decode cX2_amount 11 = .ok (.getfield 18, 3) := by decide +kernel
theorem dX2_amount_14 : decode cX2_amount 14 = .ok (.iload_n 3, 1) := by decide +kernel
theorem dX2_amount_15 : decode cX2_amount 15 = .ok (.iaload, 1) := by decide +kernel
theorem dX2_amount_16 : decode cX2_amount 16 = .ok (.iload_n 1, 1) := by decide +kernel
theorem dX2_amount_17 : decode cX2_amount 17 = .ok (.if_icmp .ne 47, 3) := by decide +kernel
theorem dX2_amount_20 : decode cX2_amount 20 = .ok (.aload_n 0, 1) := by decide +kernel
theorem dX2_amount_21 : decode cX2_amount 21 = .ok (.aload_n 0, 1) := by decide +kernel
theorem dX2_amount_22 : decode cX2_amount 22 = .ok (.getfield 24, 3) := by decide +kernel
theorem dX2_amount_25 : decode cX2_amount 25 = .ok (.iload_n 3, 1) := by decide +kernel
theorem dX2_amount_26 : decode cX2_amount 26 = .ok (.iaload, 1) := by decide +kernel
theorem dX2_amount_27 : decode cX2_amount 27 = .ok (.aload_n 0, 1) := by decide +kernel
theorem dX2_amount_28 : decode cX2_amount 28 = .ok (.getfield 27, 3) := by decide +kernel
theorem dX2_amount_31 : decode cX2_amount 31 = .ok (.iload_n 3, 1) := by decide +kernel
theorem dX2_amount_32 : decode cX2_amount 32 = .ok (.iaload, 1) := by decide +kernel
theorem dX2_amount_33 : decode cX2_amount 33 = .ok (.invokevirtual 40, 3) := by decide +kernel
theorem dX2_amount_36 : decode cX2_amount 36 = .ok (.ifCond .eq 28, 3) := by decide +kernel
theorem dX2_amount_39 : decode cX2_amount 39 = .ok (.iconst 0, 1) := by decide +kernel
theorem dX2_amount_40 : decode cX2_amount 40 = .ok (.iload_n 2, 1) := by decide +kernel
theorem dX2_amount_41 : decode cX2_amount 41 = .ok (.aload_n 0, 1) := by decide +kernel
theorem dX2_amount_42 : decode cX2_amount 42 = .ok (.aload_n 0, 1) := by decide +kernel
theorem dX2_amount_43 : decode cX2_amount 43 = .ok (.getfield 21, 3) := by decide +kernel
theorem dX2_amount_46 : decode cX2_amount 46 = .ok (.iload_n 3, 1) := by decide +kernel
theorem dX2_amount_47 : decode cX2_amount 47 = .ok (.iaload, 1) := by decide +kernel
theorem dX2_amount_48 : decode cX2_amount 48 = .ok (.aload_n 0, 1) := by decide +kernel
theorem dX2_amount_49 : decode cX2_amount 49 = .ok (.getfield 24, 3) := by decide +kernel
theorem dX2_amount_52 : decode cX2_amount 52 = .ok (.iload_n 3, 1) := by decide +kernel
theorem dX2_amount_53 : decode cX2_amount 53 = .ok (.iaload, 1) := by decide +kernel
theorem dX2_amount_54 : decode cX2_amount 54 = .ok (.invokevirtual 40, 3) := by decide +kernel
theorem dX2_amount_57 : decode cX2_amount 57 = .ok (.invokestatic 44, 3) := by decide +kernel
theorem dX2_amount_60 : decode cX2_amount 60 = .ok (.invokestatic 49, 3) := by decide +kernel
theorem dX2_amount_63 : decode cX2_amount 63 = .ok (.ireturn, 1) := by decide +kernel
theorem dX2_amount_64 : decode cX2_amount 64 = .ok (.iinc 3 1, 3) := by decide +kernel
theorem dX2_amount_67 : decode cX2_amount 67 = .ok (.goto (-65), 3) := by decide +kernel
theorem dX2_amount_70 : decode cX2_amount 70 = .ok (.iconst 0, 1) := by decide +kernel
theorem dX2_amount_71 : decode cX2_amount 71 = .ok (.ireturn, 1) := by decide +kernel
def ok_X2_amount_2 (K : ro_K) (o0 : Nat) (v1 : Int32) (v2 : Int32) : ((Int32 × ro_Mem) ⊕ ro_Mem) → Prop := Sum.elim (fun e => ro_X K 39 [(0, .ref (ro_ad (kG K) o0)), (2, .int v2), (3, .int e.1)] [] e.2) (fun e => ro_X K 70 [] [] e)
def fb_X2_amount_2 (o0 : Nat) (v1 : Int32) (v2 : Int32) (rec : (Int32 × ro_Mem) → Option ((Int32 × ro_Mem) ⊕ ro_Mem)) (v3 : Int32) (μ : ro_Mem) : Option ((Int32 × ro_Mem) ⊕ ro_Mem) :=
  if (μ o0 3) ≤ v3 then
  (some (.inr μ))
  else
  (if ro_in v3 14 then
  (if (μ (o0 + 3) v3.toNatClampNeg) = v1 then
  ((fn_X2_run o0 (μ (o0 + 5) v3.toNatClampNeg) (μ (o0 + 6) v3.toNatClampNeg) μ).bind fun q4 =>
  if q4.1 = 0 then
  (rec (v3 + 1, q4.2))
  else
  (some (.inl (v3, q4.2))))
  else
  (rec (v3 + 1, μ))) else none)
theorem bb_X2_amount_2 {K : ro_K} (hK : ro_C K RX2 cX2_amount 4 2) (hR : ro_R K (some .int)) {o0 : Nat} {v1 : Int32} {v2 : Int32} (h0 : ro_sh o0 = (0, 2)) {μ : ro_Mem} {rec : (Int32 × ro_Mem) → Option ((Int32 × ro_Mem) ⊕ ro_Mem)} {v3 : Int32} {q : ((Int32 × ro_Mem) ⊕ ro_Mem)} (hrec : ∀ (s : Int32 × ro_Mem) (q : ((Int32 × ro_Mem) ⊕ ro_Mem)), rec s = some q → ok_X2_amount_2 K o0 v1 v2 q → ro_X K 2 [(0, .ref (ro_ad (kG K) o0)), (1, .int v1), (2, .int v2), (3, .int s.1)] [] s.2) (hf : fb_X2_amount_2 o0 v1 v2 rec v3 μ = some q) (hq : ok_X2_amount_2 K o0 v1 v2 q) : ro_X K 2 [(0, .ref (ro_ad (kG K) o0)), (1, .int v1), (2, .int v2), (3, .int v3)] [] μ := by
  unfold fb_X2_amount_2 at hf
  refine ro_iload_n hK 3 rfl dX2_amount_2 rfl ?_
  refine ro_aload_n hK 0 rfl dX2_amount_3 rfl ?_
  refine ro_geti hK fl_X2_36 h0 dX2_amount_4 ?_
  refine ro_icmp_ge hK 70 dX2_amount_7 (by decide) (fun c1 => ?_) (fun c1 => ?_)
  · have hf := ro_it hf c1
    refine ro_sub (L' := []) [] rfl ?_
    obtain rfl := Option.some.inj hf
    exact hq
  · have hf := ro_ie hf c1
    refine ro_aload_n hK 0 rfl dX2_amount_10 rfl ?_
    refine ro_getr hK fl_X2_18 h0 dX2_amount_11 ?_
    refine ro_iload_n hK 3 rfl dX2_amount_14 rfl ?_
    obtain ⟨g2, hf⟩ := ro_gd hf
    refine ro_iald hK (so_2_3 h0) g2 dX2_amount_15 ?_
    refine ro_iload_n hK 1 rfl dX2_amount_16 rfl ?_
    refine ro_icmp_ne hK 64 dX2_amount_17 (by decide) (fun c3 => ?_) (fun c3 => ?_)
    · have hf := ro_ie hf c3
      refine ro_iinc (v := v3 + 1) (L' := [(3, .int (v3 + 1)), (0, .ref (ro_ad (kG K) o0)), (1, .int v1), (2, .int v2)]) hK 3 rfl dX2_amount_64 rfl (by decide) rfl ?_
      refine ro_goto hK 2 dX2_amount_67 (by decide) ?_
      refine ro_sub (L' := [(0, .ref (ro_ad (kG K) o0)), (1, .int v1), (2, .int v2), (3, .int (v3 + 1))]) [1, 2, 3, 0] rfl ?_
      exact hrec (v3 + 1, μ) _ hf hq
    · have hf := ro_it hf c3
      refine ro_aload_n hK 0 rfl dX2_amount_20 rfl ?_
      refine ro_aload_n hK 0 rfl dX2_amount_21 rfl ?_
      refine ro_getr hK fl_X2_24 h0 dX2_amount_22 ?_
      refine ro_iload_n hK 3 rfl dX2_amount_25 rfl ?_
      refine ro_iald hK (so_2_5 h0) g2 dX2_amount_26 ?_
      refine ro_aload_n hK 0 rfl dX2_amount_27 rfl ?_
      refine ro_getr hK fl_X2_27 h0 dX2_amount_28 ?_
      refine ro_iload_n hK 3 rfl dX2_amount_31 rfl ?_
      refine ro_iald hK (so_2_6 h0) g2 dX2_amount_32 ?_
      obtain ⟨q4, e5, hf⟩ := ro_bd hf
      refine ro_callvi hK [.int (μ (o0 + 5) v3.toNatClampNeg), .int (μ (o0 + 6) v3.toNatClampNeg)] ml_X2_40 mv_X2_run (mt_X2_run (kl K) (kG K) h0 e5) h0 ⟨_, rfl, rfl⟩ (by decide) rfl rfl (Nat.le_of_ble_eq_true rfl) dX2_amount_33 ?_
      refine ro_if_eq hK 64 dX2_amount_36 (by decide) (fun c6 => ?_) (fun c6 => ?_)
      · have hf := ro_it hf c6
        refine ro_iinc (v := v3 + 1) (L' := [(3, .int (v3 + 1)), (0, .ref (ro_ad (kG K) o0)), (1, .int v1), (2, .int v2)]) hK 3 rfl dX2_amount_64 rfl (by decide) rfl ?_
        refine ro_goto hK 2 dX2_amount_67 (by decide) ?_
        refine ro_sub (L' := [(0, .ref (ro_ad (kG K) o0)), (1, .int v1), (2, .int v2), (3, .int (v3 + 1))]) [1, 2, 3, 0] rfl ?_
        exact hrec (v3 + 1, q4.2) _ hf hq
      · have hf := ro_ie hf c6
        refine ro_sub (L' := [(0, .ref (ro_ad (kG K) o0)), (2, .int v2), (3, .int v3)]) [0, 2, 3] rfl ?_
        obtain rfl := Option.some.inj hf
        exact hq
def fl_X2_amount_2 (o0 : Nat) (v1 : Int32) (v2 : Int32) : (Int32 × ro_Mem) → Option ((Int32 × ro_Mem) ⊕ ro_Mem) :=
  ro_loop (fun rec s => fb_X2_amount_2 o0 v1 v2 rec s.1 s.2) ro_FU
theorem lp_X2_amount_2 {K : ro_K} (hK : ro_C K RX2 cX2_amount 4 2) (hR : ro_R K (some .int)) {o0 : Nat} {v1 : Int32} {v2 : Int32} (h0 : ro_sh o0 = (0, 2)) {s : Int32 × ro_Mem} {q : ((Int32 × ro_Mem) ⊕ ro_Mem)} (hf : fl_X2_amount_2 o0 v1 v2 s = some q) (hq : ok_X2_amount_2 K o0 v1 v2 q) : ro_X K 2 [(0, .ref (ro_ad (kG K) o0)), (1, .int v1), (2, .int v2), (3, .int s.1)] [] s.2 :=
  ro_loopX (b := fun rec s => fb_X2_amount_2 o0 v1 v2 rec s.1 s.2) (X := fun s => ro_X K 2 [(0, .ref (ro_ad (kG K) o0)), (1, .int v1), (2, .int v2), (3, .int s.1)] [] s.2) (OK := ok_X2_amount_2 K o0 v1 v2) (fun rec s q hrec hb ho => bb_X2_amount_2 hK hR h0 hrec hb ho) ro_FU s q hf hq
def fn_X2_amount (o0 : Nat) (v1 : Int32) (v2 : Int32) (μ : ro_Mem) : Option (Int32 × ro_Mem) :=
  (fl_X2_amount_2 o0 v1 v2 (0, μ)).bind fun q7 =>
  q7.elim (fun e9 => if ro_in e9.1 14 then
  ((fn_X2_run o0 (e9.2 (o0 + 4) e9.1.toNatClampNeg) (e9.2 (o0 + 5) e9.1.toNatClampNeg) e9.2).bind fun q12 =>
  some (ro_mx 0 (ro_mn v2 q12.1), q12.2)) else none) (fun e10 => some (0, e10))
theorem be_X2_amount {K : ro_K} (hK : ro_C K RX2 cX2_amount 4 2) (hR : ro_R K (some .int)) {o0 : Nat} {v1 : Int32} {v2 : Int32} (h0 : ro_sh o0 = (0, 2)) {μ : ro_Mem} {out : Int32 × ro_Mem} (hf : fn_X2_amount o0 v1 v2 μ = some out) (hq : kQ K (some (.int out.1)) out.2) : ro_X K 0 [(0, .ref (ro_ad (kG K) o0)), (1, .int v1), (2, .int v2)] [] μ := by
  unfold fn_X2_amount at hf
  refine ro_iconst (v := 0) hK dX2_amount_0 (by decide) ?_
  refine ro_istore_n (L' := [(3, .int 0), (0, .ref (ro_ad (kG K) o0)), (1, .int v1), (2, .int v2)]) hK dX2_amount_1 rfl (by decide) rfl ?_
  obtain ⟨q7, e8, hf⟩ := ro_bd hf
  refine ro_sub (L' := [(0, .ref (ro_ad (kG K) o0)), (1, .int v1), (2, .int v2), (3, .int 0)]) [1, 2, 3, 0] rfl ?_
  refine lp_X2_amount_2 hK hR h0 e8 ?_
  rcases q7 with e9 | e10
  · have hf := ro_el hf
    show ro_X K 39 [(0, .ref (ro_ad (kG K) o0)), (2, .int v2), (3, .int e9.1)] [] e9.2
    refine ro_iconst (v := 0) hK dX2_amount_39 (by decide) ?_
    refine ro_iload_n hK 1 rfl dX2_amount_40 rfl ?_
    refine ro_aload_n hK 0 rfl dX2_amount_41 rfl ?_
    refine ro_aload_n hK 0 rfl dX2_amount_42 rfl ?_
    refine ro_getr hK fl_X2_21 h0 dX2_amount_43 ?_
    refine ro_iload_n hK 2 rfl dX2_amount_46 rfl ?_
    obtain ⟨g11, hf⟩ := ro_gd hf
    refine ro_iald hK (so_2_4 h0) g11 dX2_amount_47 ?_
    refine ro_aload_n hK 0 rfl dX2_amount_48 rfl ?_
    refine ro_getr hK fl_X2_24 h0 dX2_amount_49 ?_
    refine ro_iload_n hK 2 rfl dX2_amount_52 rfl ?_
    refine ro_iald hK (so_2_5 h0) g11 dX2_amount_53 ?_
    obtain ⟨q12, e13, hf⟩ := ro_bd hf
    refine ro_callvi hK [.int (e9.2 (o0 + 4) e9.1.toNatClampNeg), .int (e9.2 (o0 + 5) e9.1.toNatClampNeg)] ml_X2_40 mv_X2_run (mt_X2_run (kl K) (kG K) h0 e13) h0 ⟨_, rfl, rfl⟩ (by decide) rfl rfl (Nat.le_of_ble_eq_true rfl) dX2_amount_54 ?_
    refine ro_mmin hK ml_X2_44 (by decide) (Nat.le_of_ble_eq_true rfl) dX2_amount_57 ?_
    refine ro_mmax hK ml_X2_49 (by decide) (Nat.le_of_ble_eq_true rfl) dX2_amount_60 ?_
    obtain rfl := Option.some.inj hf
    exact ro_iret hK hR dX2_amount_63 hq
  · have hf := ro_er hf
    show ro_X K 70 [] [] e10
    refine ro_iconst (v := 0) hK dX2_amount_70 (by decide) ?_
    obtain rfl := Option.some.inj hf
    exact ro_iret hK hR dX2_amount_71 hq
theorem mt_X2_amount (l : Launch) (G : ro_G) {o0 : Nat} {v1 : Int32} {v2 : Int32} (h0 : ro_sh o0 = (0, 2)) {μ : ro_Mem} {out : Int32 × ro_Mem} (hf : fn_X2_amount o0 v1 v2 μ = some out) : ro_MX l G yX2_amount cX2_amount 4 (some .int) 2 [.ref (ro_ad G o0), .int v1, .int v2] μ (some (.int out.1)) out.2 := by
  refine ro_MX.of (by decide +kernel) (Nat.le_of_ble_eq_true rfl) (fun K hG hl hq hK hR => ?_)
  subst hG
  exact be_X2_amount hK hR h0 hf hq
