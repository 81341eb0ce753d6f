-- ===== X11_seated =====
theorem dX11_seated_0 : decode cX11_seated 0 = .ok (.iload_n 1, 1) := by decide +kernel
theorem dX11_seated_1 : decode cX11_seated 1 = .ok (.invokestatic 115, 3) := by decide +kernel
theorem dX11_seated_4 : decode cX11_seated 4 = .ok (.ifCond .eq 36, 3) := by decide +kernel
theorem dX11_seated_7 : decode cX11_seated 7 = .ok (.aload_n 0, 1) := by decide +kernel
theorem dX11_seated_8 : decode cX11_seated 8 = .ok (.iload_n 2, 1) := by decide +kernel
theorem dX11_seated_9 : decode cX11_seated 9 = .ok (.invokevirtual 212, 3) := by decide +kernel
theorem dX11_seated_12 : decode cX11_seated 12 = .ok (.ifCond .eq 28, 3) := by decide +kernel
theorem dX11_seated_15 : decode cX11_seated 15 = .ok (.iload_n 3, 1) := by decide +kernel
theorem dX11_seated_16 : decode cX11_seated 16 = .ok (.iload_n 2, 1) := by decide +kernel
theorem dX11_seated_17 : decode cX11_seated 17 = .ok (.invokestatic 215, 3) := by decide +kernel
theorem dX11_seated_20 : decode cX11_seated 20 = .ok (.if_icmp .ne 20, 3) := by decide +kernel
theorem dX11_seated_23 : decode cX11_seated 23 = .ok (.iload_n 3, 1) := by decide +kernel
theorem dX11_seated_24 : decode cX11_seated 24 = .ok (.bipush 8, 2) := by decide +kernel
theorem dX11_seated_26 : decode cX11_seated 26 = .ok (.if_icmp .gt 14, 3) := by decide +kernel
theorem dX11_seated_29 : decode cX11_seated 29 = .ok (.iload_n 3, 1) := by decide +kernel
theorem dX11_seated_30 : decode cX11_seated 30 = .ok (.aload_n 0, 1) := by decide +kernel
theorem dX11_seated_31 : decode cX11_seated 31 = .ok (.getfield 40, 3) := by decide +kernel
theorem dX11_seated_34 : decode cX11_seated 34 = .ok (.getfield 134, 3) := by decide +kernel
theorem dX11_seated_37 : decode cX11_seated 37 = .ok (.if_icmp .le 5, 3) := by decide +kernel
theorem dX11_seated_40 : decode cX11_seated 40 = .ok (.iconst (-1), 1) := by decide +kernel
theorem dX11_seated_41 : decode cX11_seated 41 = .ok (.ireturn, 1) := by decide +kernel
theorem dX11_seated_42 : decode cX11_seated 42 = .ok (.iload 4, 2) := by decide +kernel
theorem dX11_seated_44 : decode cX11_seated 44 = .ok (.ifCond .lt 24, 3) := by decide +kernel
theorem dX11_seated_47 : decode cX11_seated 47 = .ok (.iload 4, 2) := by decide +kernel
theorem dX11_seated_49 : decode cX11_seated 49 = .ok (.bipush 10, 2) := by decide +kernel
theorem dX11_seated_51 : decode cX11_seated 51 = .ok (.if_icmp .ge 17, 3) := by decide +kernel
theorem dX11_seated_54 : decode cX11_seated 54 = .ok (.iload_n 2, 1) := by decide +kernel
theorem dX11_seated_55 : decode cX11_seated 55 = .ok (.iload 4, 2) := by decide +kernel
theorem dX11_seated_57 : decode cX11_seated 57 = .ok (.ishr, 1) := by decide +kernel
theorem dX11_seated_58 : decode cX11_seated 58 = .ok (.iconst 1, 1) := by decide +kernel
theorem dX11_seated_59 : decode cX11_seated 59 = .ok (.iand, 1) := by decide +kernel
theorem dX11_seated_60 : decode cX11_seated 60 = .ok (.iconst 1, 1) := by decide +kernel
theorem dX11_seated_61 : decode cX11_seated 61 = .ok (.if_icmp .ne 7, 3) := by decide +kernel
theorem dX11_seated_64 : decode cX11_seated 64 = .ok (.iconst 1, 1) := by decide +kernel
theorem dX11_seated_65 : decode cX11_seated 65 = .ok (.goto 4, 3) := by decide +kernel
theorem dX11_seated_68 : decode cX11_seated 68 = .ok (.iconst 0, 1) := by decide +kernel
theorem dX11_seated_69 : decode cX11_seated 69 = .ok (.istore 5, 2) := by decide +kernel
theorem dX11_seated_71 : decode cX11_seated 71 = .ok (.iload 4, 2) := by decide +kernel
theorem dX11_seated_73 : decode cX11_seated 73 = .ok (.bipush 10, 2) := by decide +kernel
theorem dX11_seated_75 : decode cX11_seated 75 = .ok (.if_icmp .eq 17, 3) := by decide +kernel
theorem dX11_seated_78 : decode cX11_seated 78 = .ok (.iload 4, 2) := by decide +kernel
theorem dX11_seated_80 : decode cX11_seated 80 = .ok (.bipush 11, 2) := by decide +kernel
theorem dX11_seated_82 : decode cX11_seated 82 = .ok (.if_icmp .eq 10, 3) := by decide +kernel
theorem dX11_seated_85 : decode cX11_seated 85 = .ok (.iload 5, 2) := by decide +kernel
theorem dX11_seated_87 : decode cX11_seated 87 = .ok (.ifCond .ne 5, 3) := by decide +kernel
theorem dX11_seated_90 : decode cX11_seated 90 = .ok (.iconst (-1), 1) := by decide +kernel
theorem dX11_seated_91 : decode cX11_seated 91 = .ok (.ireturn, 1) := by decide +kernel
theorem dX11_seated_92 : decode cX11_seated 92 = .ok (.aload_n 0, 1) := by decide +kernel
theorem dX11_seated_93 : decode cX11_seated 93 = .ok (.getfield 40, 3) := by decide +kernel
theorem dX11_seated_96 : decode cX11_seated 96 = .ok (.iconst 0, 1) := by decide +kernel
theorem dX11_seated_97 : decode cX11_seated 97 = .ok (.putfield 134, 3) := by decide +kernel
theorem dX11_seated_100 : decode cX11_seated 100 = .ok (.aload_n 0, 1) := by decide +kernel
theorem dX11_seated_101 : decode cX11_seated 101 = .ok (.getfield 58, 3) := by decide +kernel
theorem dX11_seated_104 : decode cX11_seated 104 = .ok (.aload_n 0, 1) := by decide +kernel
theorem dX11_seated_105 : decode cX11_seated 105 = .ok (.getfield 40, 3) := by decide +kernel
theorem dX11_seated_108 : decode cX11_seated 108 = .ok (.iload_n 3, 1) := by decide +kernel
theorem dX11_seated_109 : decode cX11_seated 109 = .ok (.invokevirtual 220, 3) := by decide +kernel
theorem dX11_seated_112 : decode cX11_seated 112 = .ok (.ifCond .eq 12, 3) := by decide +kernel
theorem dX11_seated_115 : decode cX11_seated 115 = .ok (.aload_n 0, 1) := by decide +kernel
theorem dX11_seated_116 : decode cX11_seated 116 = .ok (.iload_n 1, 1) := by decide +kernel
theorem dX11_seated_117 : decode cX11_seated 117 = .ok (.iload_n 2, 1) := by decide +kernel
theorem dX11_seated_118 : decode cX11_seated 118 = .ok (.invokevirtual 224, 3) := by decide +kernel
theorem dX11_seated_121 : decode cX11_seated 121 = .ok (.ifCond .eq 6, 3) := by decide +kernel
theorem dX11_seated_124 : decode cX11_seated 124 = .ok (.bipush (-2), 2) := by decide +kernel
theorem dX11_seated_126 : decode cX11_seated 126 = .ok (.ireturn, 1) := by decide +kernel
theorem dX11_seated_127 : decode cX11_seated 127 = .ok (.aload_n 0, 1) := by decide +kernel
theorem dX11_seated_128 : decode cX11_seated 128 = .ok (.invokevirtual 176, 3) := by decide +kernel
theorem dX11_seated_131 : decode cX11_seated 131 = .ok (.aload_n 0, 1) := by decide +kernel
theorem dX11_seated_132 : decode cX11_seated 132 = .ok (.getfield 58, 3) := by decide +kernel
theorem dX11_seated_135 : decode cX11_seated 135 = .ok (.aload_n 0, 1) := by decide +kernel
theorem dX11_seated_136 : decode cX11_seated 136 = .ok (.getfield 10, 3) := by decide +kernel
theorem dX11_seated_139 : decode cX11_seated 139 = .ok (.getfield 89, 3) := by decide +kernel
theorem dX11_seated_142 : decode cX11_seated 142 = .ok (.iload_n 2, 1) := by decide +kernel
theorem dX11_seated_143 : decode cX11_seated 143 = .ok (.aload_n 0, 1) := by decide +kernel
theorem dX11_seated_144 : decode cX11_seated 144 = .ok (.getfield 47, 3) := by decide +kernel
theorem dX11_seated_147 : decode cX11_seated 147 = .ok (.iload_n 1, 1) := by decide +kernel
theorem dX11_seated_148 : decode cX11_seated 148 = .ok (.invokevirtual 228, 3) := by decide +kernel
theorem dX11_seated_151 : decode cX11_seated 151 = .ok (.iload 4, 2) := by decide +kernel
theorem dX11_seated_153 : decode cX11_seated 153 = .ok (.bipush 11, 2) := by decide +kernel
theorem dX11_seated_155 : decode cX11_seated 155 = .ok (.if_icmp .ne 18, 3) := by decide +kernel
theorem dX11_seated_158 : decode cX11_seated 158 = .ok (.aload_n 0, 1) := by decide +kernel
theorem dX11_seated_159 : decode cX11_seated 159 = .ok (.getfield 58, 3) := by decide +kernel
theorem dX11_seated_162 : decode cX11_seated 162 = .ok (.aload_n 0, 1) := by decide +kernel
theorem dX11_seated_163 : decode cX11_seated 163 = .ok (.getfield 10, 3) := by decide +kernel
theorem dX11_seated_166 : decode cX11_seated 166 = .ok (.getfield 89, 3) := by decide +kernel
theorem dX11_seated_169 : decode cX11_seated 169 = .ok (.iload_n 1, 1) := by decide +kernel
theorem dX11_seated_170 : decode cX11_seated 170 = .ok (.invokevirtual 232, 3) := by decide +kernel
theorem dX11_seated_173 : decode cX11_seated 173 = .ok (.iload 5, 2) := by decide +kernel
theorem dX11_seated_175 : decode cX11_seated 175 = .ok (.ifCond .eq 15, 3) := by decide +kernel
theorem dX11_seated_178 : decode cX11_seated 178 = .ok (.aload_n 0, 1) := by decide +kernel
theorem dX11_seated_179 : decode cX11_seated 179 = .ok (.getfield 58, 3) := by decide +kernel
theorem dX11_seated_182 : decode cX11_seated 182 = .ok (.iload 4, 2) := by decide +kernel
theorem dX11_seated_184 : decode cX11_seated 184 = .ok (.invokevirtual 236, 3) := by decide +kernel
theorem dX11_seated_187 : decode cX11_seated 187 = .ok (.goto 12, 3) := by decide +kernel
theorem dX11_seated_190 : decode cX11_seated 190 = .ok (.aload_n 0, 1) := by decide +kernel
theorem dX11_seated_191 : decode cX11_seated 191 = .ok (.getfield 58, 3) := by decide +kernel
theorem dX11_seated_194 : decode cX11_seated 194 = .ok (.getfield 239, 3) := by decide +kernel
theorem dX11_seated_197 : decode cX11_seated 197 = .ok (.iconst 0, 1) := by decide +kernel
theorem dX11_seated_198 : decode cX11_seated 198 = .ok (.iaload, 1) := by decide +kernel
theorem dX11_seated_199 : decode cX11_seated 199 = .ok (.ireturn, 1) := by decide +kernel
def fj_X11_seated_173 (v4 : Int32) (v5 : Int32) (μ : ro_Mem) : Option (Int32 × ro_Mem) :=
  if v5 = 0 then
  (some (μ 71 (0 : Int32).toNatClampNeg, μ))
  else
  ((fn_X6_seatOf v4 μ).bind fun q28 =>
  some (q28, μ))
theorem bj_X11_seated_173 {K : ro_K} (hK : ro_C K RX11 cX11_seated 6 6) (hR : ro_R K (some .int)) {v4 : Int32} {v5 : Int32}   {μ : ro_Mem}  {out : Int32 × ro_Mem} (hf : fj_X11_seated_173 v4 v5 μ = some out) (hq : kQ K (some (.int out.1)) out.2) : ro_X K 173 [(0, .ref (ro_ad (kG K) 0)), (4, .int v4), (5, .int v5)] [] μ := by
  unfold fj_X11_seated_173 at hf
  refine ro_iload hK 2 rfl dX11_seated_173 ?_
  refine ro_if_eq hK 190 dX11_seated_175 (by decide) (fun c27 => ?_) (fun c27 => ?_)
  · have hf := ro_it hf c27
    refine ro_aload_n hK 0 rfl dX11_seated_190 rfl ?_
    refine ro_getr hK fl_X11_58 sh_0 dX11_seated_191 ?_
    refine ro_getr hK fl_X11_239 sh_69 dX11_seated_194 ?_
    refine ro_iconst (v := 0) hK dX11_seated_197 (by decide) ?_
    refine ro_iald hK sh_71 (by decide) dX11_seated_198 ?_
    obtain rfl := Option.some.inj hf
    exact ro_iret hK hR dX11_seated_199 hq
  · have hf := ro_ie hf c27
    refine ro_aload_n hK 0 rfl dX11_seated_178 rfl ?_
    refine ro_getr hK fl_X11_58 sh_0 dX11_seated_179 ?_
    refine ro_iload hK 1 rfl dX11_seated_182 ?_
    obtain ⟨q28, e29, hf⟩ := ro_bd hf
    refine ro_callvi hK [.int v4] ml_X11_236 mv_X6_seatOf (mt_X6_seatOf (kl K) (kG K)  e29) sh_69 ⟨_, rfl, rfl⟩ (by decide) rfl rfl (Nat.le_of_ble_eq_true rfl) dX11_seated_184 ?_
    refine ro_goto hK 199 dX11_seated_187 (by decide) ?_
    obtain rfl := Option.some.inj hf
    exact ro_iret hK hR dX11_seated_199 hq
def fj_X11_seated_92 (v1 : Int32) (v2 : Int32) (v3 : Int32) (v4 : Int32) (v5 : Int32) (μ : ro_Mem) : Option (Int32 × ro_Mem) :=
  ro_lt (ro_set μ 60 1 0) fun m14 =>
  (fn_X6_takeSeats v3 m14).bind fun q16 =>
  if q16.1 = 0 then
  (some ((-2), q16.2))
  else
  ((fn_X11_isAnyTaken v1 v2 q16.2).bind fun q19 =>
  if q19 = 0 then
  ((fn_X11_refresh q16.2).bind fun q22 =>
  (fn_X6_solve 2 v2 v1 q22).bind fun q24 =>
  if v4 = 11 then
  ((fn_X6_putInto 2 v1 q24).bind fun q30 =>
  fj_X11_seated_173 v4 v5 q30)
  else
  (fj_X11_seated_173 v4 v5 q24))
  else
  (some ((-2), q16.2)))
theorem bj_X11_seated_92 {K : ro_K} (hK : ro_C K RX11 cX11_seated 6 6) (hR : ro_R K (some .int)) {v1 : Int32} {v2 : Int32} {v3 : Int32} {v4 : Int32} {v5 : Int32}   {μ : ro_Mem}  {out : Int32 × ro_Mem} (hf : fj_X11_seated_92 v1 v2 v3 v4 v5 μ = some out) (hq : kQ K (some (.int out.1)) out.2) : ro_X K 92 [(0, .ref (ro_ad (kG K) 0)), (1, .int v1), (2, .int v2), (3, .int v3), (4, .int v4), (5, .int v5)] [] μ := by
  unfold fj_X11_seated_92 at hf
  refine ro_aload_n hK 0 rfl dX11_seated_92 rfl ?_
  refine ro_getr hK fl_X11_40 sh_0 dX11_seated_93 ?_
  refine ro_iconst (v := 0) hK dX11_seated_96 (by decide) ?_
  obtain ⟨m14, e15, hf⟩ := ro_ld hf
  refine ro_puti hK fl_X11_134 sh_60 rfl rfl dX11_seated_97 ?_
  refine ro_mv e15 ?_
  refine ro_aload_n hK 0 rfl dX11_seated_100 rfl ?_
  refine ro_getr hK fl_X11_58 sh_0 dX11_seated_101 ?_
  refine ro_aload_n hK 0 rfl dX11_seated_104 rfl ?_
  refine ro_getr hK fl_X11_40 sh_0 dX11_seated_105 ?_
  refine ro_iload_n hK 3 rfl dX11_seated_108 rfl ?_
  obtain ⟨q16, e17, hf⟩ := ro_bd hf
  refine ro_callvi hK [.ref (ro_ad (kG K) 60), .int v3] ml_X11_220 mv_X6_takeSeats (mt_X6_takeSeats (kl K) (kG K)  e17) sh_69 ⟨_, rfl, rfl⟩ (by decide) rfl rfl (Nat.le_of_ble_eq_true rfl) dX11_seated_109 ?_
  refine ro_if_eq hK 124 dX11_seated_112 (by decide) (fun c18 => ?_) (fun c18 => ?_)
  · have hf := ro_it hf c18
    refine ro_bipush (v := (-2)) hK dX11_seated_124 (by decide) ?_
    obtain rfl := Option.some.inj hf
    exact ro_iret hK hR dX11_seated_126 hq
  · have hf := ro_ie hf c18
    refine ro_aload_n hK 0 rfl dX11_seated_115 rfl ?_
    refine ro_iload_n hK 1 rfl dX11_seated_116 rfl ?_
    refine ro_iload_n hK 2 rfl dX11_seated_117 rfl ?_
    obtain ⟨q19, e20, hf⟩ := ro_bd hf
    refine ro_callvi hK [.int v1, .int v2] ml_X11_224 mv_X11_isAnyTaken (mt_X11_isAnyTaken (kl K) (kG K)  e20) sh_0 ⟨_, rfl, rfl⟩ (by decide) rfl rfl (Nat.le_of_ble_eq_true rfl) dX11_seated_118 ?_
    refine ro_if_eq hK 127 dX11_seated_121 (by decide) (fun c21 => ?_) (fun c21 => ?_)
    · have hf := ro_it hf c21
      refine ro_aload_n hK 0 rfl dX11_seated_127 rfl ?_
      obtain ⟨q22, e23, hf⟩ := ro_bd hf
      refine ro_callvv hK [] ml_X11_176 mv_X11_refresh (mt_X11_refresh (kl K) (kG K)  e23) sh_0 ⟨_, rfl, rfl⟩ (by decide) rfl rfl (Nat.le_of_ble_eq_true rfl) dX11_seated_128 ?_
      refine ro_aload_n hK 0 rfl dX11_seated_131 rfl ?_
      refine ro_getr hK fl_X11_58 sh_0 dX11_seated_132 ?_
      refine ro_aload_n hK 0 rfl dX11_seated_135 rfl ?_
      refine ro_getr hK fl_X11_10 sh_0 dX11_seated_136 ?_
      refine ro_getr hK fl_X11_89 sh_1 dX11_seated_139 ?_
      refine ro_iload_n hK 2 rfl dX11_seated_142 rfl ?_
      refine ro_aload_n hK 0 rfl dX11_seated_143 rfl ?_
      refine ro_getr hK fl_X11_47 sh_0 dX11_seated_144 ?_
      refine ro_iload_n hK 1 rfl dX11_seated_147 rfl ?_
      obtain ⟨q24, e25, hf⟩ := ro_bd hf
      refine ro_callvv hK [.ref (ro_ad (kG K) 2), .int v2, .ref (ro_ad (kG K) 62), .int v1] ml_X11_228 mv_X6_solve (mt_X6_solve (kl K) (kG K) sh_2 e25) sh_69 ⟨_, rfl, rfl⟩ (by decide) rfl rfl (Nat.le_of_ble_eq_true rfl) dX11_seated_148 ?_
      refine ro_iload hK 4 rfl dX11_seated_151 ?_
      refine ro_bipush (v := 11) hK dX11_seated_153 (by decide) ?_
      refine ro_icmp_ne hK 173 dX11_seated_155 (by decide) (fun c26 => ?_) (fun c26 => ?_)
      · have hf := ro_ie hf c26
        refine ro_sub (L' := [(0, .ref (ro_ad (kG K) 0)), (4, .int v4), (5, .int v5)]) [0, 4, 5] rfl ?_
        exact bj_X11_seated_173 hK hR  hf hq
      · have hf := ro_it hf c26
        refine ro_aload_n hK 0 rfl dX11_seated_158 rfl ?_
        refine ro_getr hK fl_X11_58 sh_0 dX11_seated_159 ?_
        refine ro_aload_n hK 0 rfl dX11_seated_162 rfl ?_
        refine ro_getr hK fl_X11_10 sh_0 dX11_seated_163 ?_
        refine ro_getr hK fl_X11_89 sh_1 dX11_seated_166 ?_
        refine ro_iload_n hK 1 rfl dX11_seated_169 rfl ?_
        obtain ⟨q30, e31, hf⟩ := ro_bd hf
        refine ro_callvv hK [.ref (ro_ad (kG K) 2), .int v1] ml_X11_232 mv_X6_putInto (mt_X6_putInto (kl K) (kG K) sh_2 e31) sh_69 ⟨_, rfl, rfl⟩ (by decide) rfl rfl (Nat.le_of_ble_eq_true rfl) dX11_seated_170 ?_
        refine ro_sub (L' := [(0, .ref (ro_ad (kG K) 0)), (4, .int v4), (5, .int v5)]) [0, 4, 5] rfl ?_
        exact bj_X11_seated_173 hK hR  hf hq
    · have hf := ro_ie hf c21
      refine ro_bipush (v := (-2)) hK dX11_seated_124 (by decide) ?_
      obtain rfl := Option.some.inj hf
      exact ro_iret hK hR dX11_seated_126 hq
def fj_X11_seated_69 (v1 : Int32) (v2 : Int32) (v3 : Int32) (v4 : Int32) (t0 : Int32) (μ : ro_Mem) : Option (Int32 × ro_Mem) :=
  if v4 = 10 then
  (fj_X11_seated_92 v1 v2 v3 v4 t0 μ)
  else
  (if v4 = 11 then
  (fj_X11_seated_92 v1 v2 v3 v4 t0 μ)
  else
  (if t0 = 0 then
  (some ((-1), μ))
  else
  (fj_X11_seated_92 v1 v2 v3 v4 t0 μ)))
theorem bj_X11_seated_69 {K : ro_K} (hK : ro_C K RX11 cX11_seated 6 6) (hR : ro_R K (some .int)) {v1 : Int32} {v2 : Int32} {v3 : Int32} {v4 : Int32} {t0 : Int32}   {μ : ro_Mem}  {out : Int32 × ro_Mem} (hf : fj_X11_seated_69 v1 v2 v3 v4 t0 μ = some out) (hq : kQ K (some (.int out.1)) out.2) : ro_X K 69 [(0, .ref (ro_ad (kG K) 0)), (1, .int v1), (2, .int v2), (3, .int v3), (4, .int v4)] [.int t0] μ := by
  unfold fj_X11_seated_69 at hf
  refine ro_istore (L' := [(5, .int t0), (0, .ref (ro_ad (kG K) 0)), (1, .int v1), (2, .int v2), (3, .int v3), (4, .int v4)]) hK dX11_seated_69 (by decide) rfl ?_
  refine ro_iload hK 5 rfl dX11_seated_71 ?_
  refine ro_bipush (v := 10) hK dX11_seated_73 (by decide) ?_
  refine ro_icmp_eq hK 92 dX11_seated_75 (by decide) (fun c13 => ?_) (fun c13 => ?_)
  · have hf := ro_it hf c13
    refine ro_sub (L' := [(0, .ref (ro_ad (kG K) 0)), (1, .int v1), (2, .int v2), (3, .int v3), (4, .int v4), (5, .int t0)]) [1, 2, 3, 4, 5, 0] rfl ?_
    exact bj_X11_seated_92 hK hR  hf hq
  · have hf := ro_ie hf c13
    refine ro_iload hK 5 rfl dX11_seated_78 ?_
    refine ro_bipush (v := 11) hK dX11_seated_80 (by decide) ?_
    refine ro_icmp_eq hK 92 dX11_seated_82 (by decide) (fun c32 => ?_) (fun c32 => ?_)
    · have hf := ro_it hf c32
      refine ro_sub (L' := [(0, .ref (ro_ad (kG K) 0)), (1, .int v1), (2, .int v2), (3, .int v3), (4, .int v4), (5, .int t0)]) [1, 2, 3, 4, 5, 0] rfl ?_
      exact bj_X11_seated_92 hK hR  hf hq
    · have hf := ro_ie hf c32
      refine ro_iload hK 0 rfl dX11_seated_85 ?_
      refine ro_if_ne hK 92 dX11_seated_87 (by decide) (fun c33 => ?_) (fun c33 => ?_)
      · have hf := ro_ie hf c33
        refine ro_sub (L' := [(0, .ref (ro_ad (kG K) 0)), (1, .int v1), (2, .int v2), (3, .int v3), (4, .int v4), (5, .int t0)]) [1, 2, 3, 4, 5, 0] rfl ?_
        exact bj_X11_seated_92 hK hR  hf hq
      · have hf := ro_it hf c33
        refine ro_iconst (v := (-1)) hK dX11_seated_90 (by decide) ?_
        obtain rfl := Option.some.inj hf
        exact ro_iret hK hR dX11_seated_91 hq
def fj_X11_seated_68 (v1 : Int32) (v2 : Int32) (v3 : Int32) (v4 : Int32) (μ : ro_Mem) : Option (Int32 × ro_Mem) :=
  fj_X11_seated_69 v1 v2 v3 v4 0 μ
theorem bj_X11_seated_68 {K : ro_K} (hK : ro_C K RX11 cX11_seated 6 6) (hR : ro_R K (some .int)) {v1 : Int32} {v2 : Int32} {v3 : Int32} {v4 : Int32}   {μ : ro_Mem}  {out : Int32 × ro_Mem} (hf : fj_X11_seated_68 v1 v2 v3 v4 μ = some out) (hq : kQ K (some (.int out.1)) out.2) : ro_X K 68 [(0, .ref (ro_ad (kG K) 0)), (1, .int v1), (2, .int v2), (3, .int v3), (4, .int v4)] [] μ := by
  unfold fj_X11_seated_68 at hf
  refine ro_iconst (v := 0) hK dX11_seated_68 (by decide) ?_
  exact bj_X11_seated_69 hK hR  hf hq
def fn_X11_seated (v1 : Int32) (v2 : Int32) (v3 : Int32) (v4 : Int32) (μ : ro_Mem) : Option (Int32 × ro_Mem) :=
  (fn_X11_isAct v1).bind fun q1 =>
  if q1 = 0 then
  (some ((-1), μ))
  else
  ((fn_X11_areGuests v2 μ).bind fun q4 =>
  if q4 = 0 then
  (some ((-1), μ))
  else
  ((fn_J6_bitCount_0f7a4 v2).bind fun q7 =>
  if v3 = q7 then
  (if 8 < v3 then
  (some ((-1), μ))
  else
  (if v3 ≤ (μ 60 1) then
  (if v4 < 0 then
  (fj_X11_seated_68 v1 v2 v3 v4 μ)
  else
  (if 10 ≤ v4 then
  (fj_X11_seated_68 v1 v2 v3 v4 μ)
  else
  (if ((v2 >>> (v4 &&& 31)) &&& 1) = 1 then
  (fj_X11_seated_69 v1 v2 v3 v4 1 μ)
  else
  (fj_X11_seated_68 v1 v2 v3 v4 μ))))
  else
  (some ((-1), μ))))
  else
  (some ((-1), μ))))
theorem be_X11_seated {K : ro_K} (hK : ro_C K RX11 cX11_seated 6 6) (hR : ro_R K (some .int)) {v1 : Int32} {v2 : Int32} {v3 : Int32} {v4 : Int32}  {μ : ro_Mem} {out : Int32 × ro_Mem} (hf : fn_X11_seated v1 v2 v3 v4 μ = some out) (hq : kQ K (some (.int out.1)) out.2) : ro_X K 0 [(0, .ref (ro_ad (kG K) 0)), (1, .int v1), (2, .int v2), (3, .int v3), (4, .int v4)] [] μ := by
  unfold fn_X11_seated at hf
  refine ro_iload_n hK 1 rfl dX11_seated_0 rfl ?_
  obtain ⟨q1, e2, hf⟩ := ro_bd hf
  refine ro_callsi hK [.int v1] ml_X11_115 ms_X11_isAct (mt_X11_isAct (kl K) (kG K)  e2) (by decide) rfl rfl (Nat.le_of_ble_eq_true rfl) dX11_seated_1 ?_
  refine ro_if_eq hK 40 dX11_seated_4 (by decide) (fun c3 => ?_) (fun c3 => ?_)
  · have hf := ro_it hf c3
    refine ro_iconst (v := (-1)) hK dX11_seated_40 (by decide) ?_
    obtain rfl := Option.some.inj hf
    exact ro_iret hK hR dX11_seated_41 hq
  · have hf := ro_ie hf c3
    refine ro_aload_n hK 0 rfl dX11_seated_7 rfl ?_
    refine ro_iload_n hK 2 rfl dX11_seated_8 rfl ?_
    obtain ⟨q4, e5, hf⟩ := ro_bd hf
    refine ro_callvi hK [.int v2] ml_X11_212 mv_X11_areGuests (mt_X11_areGuests (kl K) (kG K)  e5) sh_0 ⟨_, rfl, rfl⟩ (by decide) rfl rfl (Nat.le_of_ble_eq_true rfl) dX11_seated_9 ?_
    refine ro_if_eq hK 40 dX11_seated_12 (by decide) (fun c6 => ?_) (fun c6 => ?_)
    · have hf := ro_it hf c6
      refine ro_iconst (v := (-1)) hK dX11_seated_40 (by decide) ?_
      obtain rfl := Option.some.inj hf
      exact ro_iret hK hR dX11_seated_41 hq
    · have hf := ro_ie hf c6
      refine ro_iload_n hK 3 rfl dX11_seated_15 rfl ?_
      refine ro_iload_n hK 2 rfl dX11_seated_16 rfl ?_
      obtain ⟨q7, e8, hf⟩ := ro_bd hf
      refine ro_callsi hK [.int v2] ml_X11_215 ms_J6_bitCount_0f7a4 (mt_J6_bitCount_0f7a4 (kl K) (kG K)  e8) (by decide) rfl rfl (Nat.le_of_ble_eq_true rfl) dX11_seated_17 ?_
      refine ro_icmp_ne hK 40 dX11_seated_20 (by decide) (fun c9 => ?_) (fun c9 => ?_)
      · have hf := ro_ie hf c9
        refine ro_iconst (v := (-1)) hK dX11_seated_40 (by decide) ?_
        obtain rfl := Option.some.inj hf
        exact ro_iret hK hR dX11_seated_41 hq
      · have hf := ro_it hf c9
        refine ro_iload_n hK 3 rfl dX11_seated_23 rfl ?_
        refine ro_bipush (v := 8) hK dX11_seated_24 (by decide) ?_
        refine ro_icmp_gt hK 40 dX11_seated_26 (by decide) (fun c10 => ?_) (fun c10 => ?_)
        · have hf := ro_it hf c10
          refine ro_iconst (v := (-1)) hK dX11_seated_40 (by decide) ?_
          obtain rfl := Option.some.inj hf
          exact ro_iret hK hR dX11_seated_41 hq
        · have hf := ro_ie hf c10
          refine ro_iload_n hK 3 rfl dX11_seated_29 rfl ?_
          refine ro_aload_n hK 0 rfl dX11_seated_30 rfl ?_
          refine ro_getr hK fl_X11_40 sh_0 dX11_seated_31 ?_
          refine ro_geti hK fl_X11_134 sh_60 dX11_seated_34 ?_
          refine ro_icmp_le hK 42 dX11_seated_37 (by decide) (fun c11 => ?_) (fun c11 => ?_)
          · have hf := ro_it hf c11
            refine ro_iload hK 4 rfl dX11_seated_42 ?_
            refine ro_if_lt hK 68 dX11_seated_44 (by decide) (fun c12 => ?_) (fun c12 => ?_)
            · have hf := ro_it hf c12
              exact bj_X11_seated_68 hK hR  hf hq
            · have hf := ro_ie hf c12
              refine ro_iload hK 4 rfl dX11_seated_47 ?_
              refine ro_bipush (v := 10) hK dX11_seated_49 (by decide) ?_
              refine ro_icmp_ge hK 68 dX11_seated_51 (by decide) (fun c34 => ?_) (fun c34 => ?_)
              · have hf := ro_it hf c34
                exact bj_X11_seated_68 hK hR  hf hq
              · have hf := ro_ie hf c34
                refine ro_iload_n hK 2 rfl dX11_seated_54 rfl ?_
                refine ro_iload hK 4 rfl dX11_seated_55 ?_
                refine ro_ishr hK dX11_seated_57 ?_
                refine ro_iconst (v := 1) hK dX11_seated_58 (by decide) ?_
                refine ro_iand hK dX11_seated_59 ?_
                refine ro_iconst (v := 1) hK dX11_seated_60 (by decide) ?_
                refine ro_icmp_ne hK 68 dX11_seated_61 (by decide) (fun c35 => ?_) (fun c35 => ?_)
                · have hf := ro_ie hf c35
                  exact bj_X11_seated_68 hK hR  hf hq
                · have hf := ro_it hf c35
                  refine ro_iconst (v := 1) hK dX11_seated_64 (by decide) ?_
                  refine ro_goto hK 69 dX11_seated_65 (by decide) ?_
                  exact bj_X11_seated_69 hK hR  hf hq
          · have hf := ro_ie hf c11
            refine ro_iconst (v := (-1)) hK dX11_seated_40 (by decide) ?_
            obtain rfl := Option.some.inj hf
            exact ro_iret hK hR dX11_seated_41 hq
theorem mt_X11_seated (l : Launch) (G : ro_G) {v1 : Int32} {v2 : Int32} {v3 : Int32} {v4 : Int32}  {μ : ro_Mem} {out : Int32 × ro_Mem} (hf : fn_X11_seated v1 v2 v3 v4 μ = some out) : ro_MX l G yX11_seated cX11_seated 6 (some .int) 6 [.ref (ro_ad G 0), .int v1, .int v2, .int v3, .int v4] μ (some (.int out.1)) out.2 := by
  refine ro_MX.of (by decide +kernel) (Nat.le_of_ble_eq_true rfl) (fun K hG hl hq hK hR => ?_)
  subst hG
  exact be_X11_seated hK hR  hf hq
-- ===== X11_transposed =====
theorem dX11_transposed_0 : decode cX11_transposed 0 = .ok (.aload_n 0, 1) := by decide +kernel
theorem dX11_transposed_1 : decode cX11_transposed 1 = .ok (.getfield 10, 3) := by decide +kernel
theorem dX11_transposed_4 : decode cX11_transposed 4 = .ok (.getfield 89, 3) := by decide +kernel
theorem dX11_transposed_7 : decode cX11_transposed 7 = .ok (.iload_n 1, 1) := by decide +kernel
theorem dX11_transposed_8 : decode cX11_transposed 8 = .ok (.invokevirtual 125, 3) := by decide +kernel
theorem dX11_transposed_11 : decode cX11_transposed 11 = .ok (.ifCond .eq 25, 3) := by decide +kernel
theorem dX11_transposed_14 : decode cX11_transposed 14 = .ok (.iload_n 2, 1) := by decide +kernel
theorem dX11_transposed_15 : decode cX11_transposed 15 = .ok (.ifCond .lt 21, 3) := by decide +kernel
theorem dX11_transposed_18 : decode cX11_transposed 18 = .ok (.iload_n 2, 1) := by decide +kernel
theorem dX11_transposed_19 : decode cX11_transposed 19 = .ok (.iconst 1, 1) := by decide +kernel
theorem dX11_transposed_20 : decode cX11_transposed 20 = .ok (.if_icmp .gt 16, 3) := by decide +kernel
theorem dX11_transposed_23 : decode cX11_transposed 23 = .ok (.aload_n 0, 1) := by decide +kernel
theorem dX11_transposed_24 : decode cX11_transposed 24 = .ok (.getfield 10, 3) := by decide +kernel
theorem dX11_transposed_27 : decode cX11_transposed 27 = .ok (.getfield 147, 3) := by decide +kernel
theorem dX11_transposed_30 : decode cX11_transposed 30 = .ok (.getfield 158, 3) := by decide +kernel
theorem dX11_transposed_33 : decode cX11_transposed 33 = .ok (.ifCond .ne 6, 3) := by decide +kernel
theorem dX11_transposed_36 : decode cX11_transposed 36 = .ok (.bipush (-100), 2) := by decide +kernel
theorem dX11_transposed_38 : decode cX11_transposed 38 = .ok (.ireturn, 1) := by decide +kernel
theorem dX11_transposed_39 : decode cX11_transposed 39 = .ok (.iconst 0, 1) := by decide +kernel
theorem dX11_transposed_40 : decode cX11_transposed 40 = .ok (.istore_n 3, 1) := by decide +kernel
theorem dX11_transposed_41 : decode cX11_transposed 41 = .ok (.aload_n 0, 1) := by decide +kernel
theorem dX11_transposed_42 : decode cX11_transposed 42 = .ok (.getfield 10, 3) := by decide +kernel
theorem dX11_transposed_45 : decode cX11_transposed 45 = .ok (.iload_n 1, 1) := by decide +kernel
theorem dX11_transposed_46 : decode cX11_transposed 46 = .ok (.iconst 0, 1) := by decide +kernel
theorem dX11_transposed_47 : decode cX11_transposed 47 = .ok (.invokevirtual 242, 3) := by decide +kernel
theorem dX11_transposed_50 : decode cX11_transposed 50 = .ok (.istore 4, 2) := by decide +kernel
theorem dX11_transposed_52 : decode cX11_transposed 52 = .ok (.iconst 1, 1) := by decide +kernel
theorem dX11_transposed_53 : decode cX11_transposed 53 = .ok (.istore 5, 2) := by decide +kernel
theorem dX11_transposed_55 : decode cX11_transposed 55 = .ok (.iload 5, 2) := by decide +kernel
theorem dX11_transposed_57 : decode cX11_transposed 57 = .ok (.bipush 12, 2) := by decide +kernel
theorem dX11_transposed_59 : decode cX11_transposed 59 = .ok (.if_icmp .gt 84, 3) := by decide +kernel
theorem dX11_transposed_62 : decode cX11_transposed 62 = .ok (.iload 4, 2) := by decide +kernel
theorem dX11_transposed_64 : decode cX11_transposed 64 = .ok (.ifCond .le 79, 3) := by decide +kernel
theorem dX11_transposed_67 : decode cX11_transposed 67 = .ok (.iload 5, 2) := by decide +kernel
theorem dX11_transposed_69 : decode cX11_transposed 69 = .ok (.istore 6, 2) := by decide +kernel
theorem dX11_transposed_71 : decode cX11_transposed 71 = .ok (.iload 6, 2) := by decide +kernel
theorem dX11_transposed_73 : decode cX11_transposed 73 = .ok (.iload 5, 2) := by decide +kernel
theorem dX11_transposed_75 : decode cX11_transposed 75 = .ok (.ineg, 1) := by decide +kernel
theorem dX11_transposed_76 : decode cX11_transposed 76 = .ok (.if_icmp .lt 61, 3) := by decide +kernel
theorem dX11_transposed_79 : decode cX11_transposed 79 = .ok (.aload_n 0, 1) := by decide +kernel
theorem dX11_transposed_80 : decode cX11_transposed 80 = .ok (.getfield 10, 3) := by decide +kernel
theorem dX11_transposed_83 : decode cX11_transposed 83 = .ok (.getfield 147, 3) := by decide +kernel
theorem dX11_transposed_86 : decode cX11_transposed 86 = .ok (.iload 6, 2) := by decide +kernel
theorem dX11_transposed_88 : decode cX11_transposed 88 = .ok (.invokevirtual 245, 3) := by decide +kernel
theorem dX11_transposed_91 : decode cX11_transposed 91 = .ok (.ifCond .eq 16, 3) := by decide +kernel
theorem dX11_transposed_94 : decode cX11_transposed 94 = .ok (.aload_n 0, 1) := by decide +kernel
theorem dX11_transposed_95 : decode cX11_transposed 95 = .ok (.getfield 10, 3) := by decide +kernel
theorem dX11_transposed_98 : decode cX11_transposed 98 = .ok (.iload_n 1, 1) := by decide +kernel
theorem dX11_transposed_99 : decode cX11_transposed 99 = .ok (.iload 6, 2) := by decide +kernel
theorem dX11_transposed_101 : decode cX11_transposed 101 = .ok (.invokevirtual 242, 3) := by decide +kernel
theorem dX11_transposed_104 : decode cX11_transposed 104 = .ok (.goto 5, 3) := by decide +kernel
theorem dX11_transposed_107 : decode cX11_transposed 107 = .ok (.iload 4, 2) := by decide +kernel
theorem dX11_transposed_109 : decode cX11_transposed 109 = .ok (.istore 7, 2) := by decide +kernel
theorem dX11_transposed_111 : decode cX11_transposed 111 = .ok (.iload 7, 2) := by decide +kernel
theorem dX11_transposed_113 : decode cX11_transposed 113 = .ok (.iload 4, 2) := by decide +kernel
theorem dX11_transposed_115 : decode cX11_transposed 115 = .ok (.if_icmp .ge 10, 3) := by decide +kernel
theorem dX11_transposed_118 : decode cX11_transposed 118 = .ok (.iload 7, 2) := by decide +kernel
theorem dX11_transposed_120 : decode cX11_transposed 120 = .ok (.istore 4, 2) := by decide +kernel
theorem dX11_transposed_122 : decode cX11_transposed 122 = .ok (.iload 6, 2) := by decide +kernel
theorem dX11_transposed_124 : decode cX11_transposed 124 = .ok (.istore_n 3, 1) := by decide +kernel
theorem dX11_transposed_125 : decode cX11_transposed 125 = .ok (.iload 6, 2) := by decide +kernel
theorem dX11_transposed_127 : decode cX11_transposed 127 = .ok (.iconst 2, 1) := by decide +kernel
theorem dX11_transposed_128 : decode cX11_transposed 128 = .ok (.iload 5, 2) := by decide +kernel
theorem dX11_transposed_130 : decode cX11_transposed 130 = .ok (.imul, 1) := by decide +kernel
theorem dX11_transposed_131 : decode cX11_transposed 131 = .ok (.isub, 1) := by decide +kernel
theorem dX11_transposed_132 : decode cX11_transposed 132 = .ok (.istore 6, 2) := by decide +kernel
theorem dX11_transposed_134 : decode cX11_transposed 134 = .ok (.goto (-63), 3) := by decide +kernel
theorem dX11_transposed_137 : decode cX11_transposed 137 = .ok (.iinc 5 1, 3) := by decide +kernel
theorem dX11_transposed_140 : decode cX11_transposed 140 = .ok (.goto (-85), 3) := by decide +kernel
theorem dX11_transposed_143 : decode cX11_transposed 143 = .ok (.iload_n 2, 1) := by decide +kernel
theorem dX11_transposed_144 : decode cX11_transposed 144 = .ok (.ifCond .ne 7, 3) := by decide +kernel
theorem dX11_transposed_147 : decode cX11_transposed 147 = .ok (.iload_n 3, 1) := by decide +kernel
theorem dX11_transposed_148 : decode cX11_transposed 148 = .ok (.goto 5, 3) := by decide +kernel
theorem dX11_transposed_151 : decode cX11_transposed 151 = .ok (.iload 4, 2) := by decide +kernel
theorem dX11_transposed_153 : decode cX11_transposed 153 = .ok (.ireturn, 1) := by decide +kernel
def ok_X11_transposed_55 (K : ro_K) (v1 : Int32) (v2 : Int32) : (Int32 × Int32 × ro_Mem) → Prop := fun e => ro_X K 143 [(2, .int v2), (3, .int e.1), (4, .int e.2.1)] [] e.2.2
def ok_X11_transposed_71 (K : ro_K) (v1 : Int32) (v2 : Int32) (v5 : Int32) : (Int32 × Int32 × ro_Mem) → Prop := fun e => ro_X K 137 [(0, .ref (ro_ad (kG K) 0)), (1, .int v1), (2, .int v2), (3, .int e.1), (4, .int e.2.1), (5, .int v5)] [] e.2.2
def fj_X11_transposed_125 (rec : (Int32 × Int32 × Int32 × ro_Mem) → Option (Int32 × Int32 × ro_Mem)) (v1 : Int32) (v2 : Int32) (v3 : Int32) (v4 : Int32) (v5 : Int32) (v6 : Int32) (μ : ro_Mem) : Option (Int32 × Int32 × ro_Mem) :=
  ro_lt (v6 - (2 * v5)) fun z18 =>
  rec (v3, v4, z18, μ)
theorem bj_X11_transposed_125 {K : ro_K} (hK : ro_C K RX11 cX11_transposed 8 6) (hR : ro_R K (some .int)) {v1 : Int32} {v2 : Int32} {v3 : Int32} {v4 : Int32} {v5 : Int32} {v6 : Int32}  {rec : (Int32 × Int32 × Int32 × ro_Mem) → Option (Int32 × Int32 × ro_Mem)} {μ : ro_Mem} (hrec : ∀ (s : Int32 × Int32 × Int32 × ro_Mem) (q : (Int32 × Int32 × ro_Mem)), rec s = some q → ok_X11_transposed_71 K v1 v2 v5 q → ro_X K 71 [(0, .ref (ro_ad (kG K) 0)), (1, .int v1), (2, .int v2), (3, .int s.1), (4, .int s.2.1), (5, .int v5), (6, .int s.2.2.1)] [] s.2.2.2) {out : (Int32 × Int32 × ro_Mem)} (hf : fj_X11_transposed_125 rec v1 v2 v3 v4 v5 v6 μ = some out) (hq : ok_X11_transposed_71 K v1 v2 v5 out) : ro_X K 125 [(0, .ref (ro_ad (kG K) 0)), (1, .int v1), (2, .int v2), (3, .int v3), (4, .int v4), (5, .int v5), (6, .int v6)] [] μ := by
  unfold fj_X11_transposed_125 at hf
  refine ro_iload hK 6 rfl dX11_transposed_125 ?_
  refine ro_iconst (v := 2) hK dX11_transposed_127 (by decide) ?_
  refine ro_iload hK 5 rfl dX11_transposed_128 ?_
  refine ro_imul hK dX11_transposed_130 ?_
  refine ro_isub hK dX11_transposed_131 ?_
  obtain ⟨z18, e19, hf⟩ := ro_ld hf
  refine ro_iv e19 ?_
  refine ro_istore (L' := [(6, .int z18), (0, .ref (ro_ad (kG K) 0)), (1, .int v1), (2, .int v2), (3, .int v3), (4, .int v4), (5, .int v5)]) hK dX11_transposed_132 (by decide) rfl ?_
  refine ro_goto hK 71 dX11_transposed_134 (by decide) ?_
  refine ro_sub (L' := [(0, .ref (ro_ad (kG K) 0)), (1, .int v1), (2, .int v2), (3, .int v3), (4, .int v4), (5, .int v5), (6, .int z18)]) [1, 2, 3, 4, 5, 6, 0] rfl ?_
  exact hrec (v3, v4, z18, μ) _ hf hq
def fj_X11_transposed_109 (rec : (Int32 × Int32 × Int32 × ro_Mem) → Option (Int32 × Int32 × ro_Mem)) (v1 : Int32) (v2 : Int32) (v3 : Int32) (v4 : Int32) (v5 : Int32) (v6 : Int32) (t0 : Int32) (μ : ro_Mem) : Option (Int32 × Int32 × ro_Mem) :=
  if v4 ≤ t0 then
  (fj_X11_transposed_125 rec v1 v2 v3 v4 v5 v6 μ)
  else
  (fj_X11_transposed_125 rec v1 v2 v6 t0 v5 v6 μ)
theorem bj_X11_transposed_109 {K : ro_K} (hK : ro_C K RX11 cX11_transposed 8 6) (hR : ro_R K (some .int)) {v1 : Int32} {v2 : Int32} {v3 : Int32} {v4 : Int32} {v5 : Int32} {v6 : Int32} {t0 : Int32}  {rec : (Int32 × Int32 × Int32 × ro_Mem) → Option (Int32 × Int32 × ro_Mem)} {μ : ro_Mem} (hrec : ∀ (s : Int32 × Int32 × Int32 × ro_Mem) (q : (Int32 × Int32 × ro_Mem)), rec s = some q → ok_X11_transposed_71 K v1 v2 v5 q → ro_X K 71 [(0, .ref (ro_ad (kG K) 0)), (1, .int v1), (2, .int v2), (3, .int s.1), (4, .int s.2.1), (5, .int v5), (6, .int s.2.2.1)] [] s.2.2.2) {out : (Int32 × Int32 × ro_Mem)} (hf : fj_X11_transposed_109 rec v1 v2 v3 v4 v5 v6 t0 μ = some out) (hq : ok_X11_transposed_71 K v1 v2 v5 out) : ro_X K 109 [(0, .ref (ro_ad (kG K) 0)), (1, .int v1), (2, .int v2), (3, .int v3), (4, .int v4), (5, .int v5), (6, .int v6)] [.int t0] μ := by
  unfold fj_X11_transposed_109 at hf
  refine ro_istore (L' := [(7, .int t0), (0, .ref (ro_ad (kG K) 0)), (1, .int v1), (2, .int v2), (3, .int v3), (4, .int v4), (5, .int v5), (6, .int v6)]) hK dX11_transposed_109 (by decide) rfl ?_
  refine ro_iload hK 0 rfl dX11_transposed_111 ?_
  refine ro_iload hK 5 rfl dX11_transposed_113 ?_
  refine ro_icmp_ge hK 125 dX11_transposed_115 (by decide) (fun c17 => ?_) (fun c17 => ?_)
  · have hf := ro_it hf c17
    refine ro_sub (L' := [(0, .ref (ro_ad (kG K) 0)), (1, .int v1), (2, .int v2), (3, .int v3), (4, .int v4), (5, .int v5), (6, .int v6)]) [1, 2, 3, 4, 5, 6, 7] rfl ?_
    exact bj_X11_transposed_125 hK hR  hrec hf hq
  · have hf := ro_ie hf c17
    refine ro_iload hK 0 rfl dX11_transposed_118 ?_
    refine ro_istore (L' := [(4, .int t0), (7, .int t0), (0, .ref (ro_ad (kG K) 0)), (1, .int v1), (2, .int v2), (3, .int v3), (5, .int v5), (6, .int v6)]) hK dX11_transposed_120 (by decide) rfl ?_
    refine ro_iload hK 7 rfl dX11_transposed_122 ?_
    refine ro_istore_n (L' := [(3, .int v6), (4, .int t0), (7, .int t0), (0, .ref (ro_ad (kG K) 0)), (1, .int v1), (2, .int v2), (5, .int v5), (6, .int v6)]) hK dX11_transposed_124 rfl (by decide) rfl ?_
    refine ro_sub (L' := [(0, .ref (ro_ad (kG K) 0)), (1, .int v1), (2, .int v2), (3, .int v6), (4, .int t0), (5, .int v5), (6, .int v6)]) [3, 4, 5, 0, 1, 6, 7] rfl ?_
    exact bj_X11_transposed_125 hK hR  hrec hf hq
def fb_X11_transposed_71 (v1 : Int32) (v2 : Int32) (v5 : Int32) (rec : (Int32 × Int32 × Int32 × ro_Mem) → Option (Int32 × Int32 × ro_Mem)) (v3 : Int32) (v4 : Int32) (v6 : Int32) (μ : ro_Mem) : Option (Int32 × Int32 × ro_Mem) :=
  if v6 < (0 - v5) then
  (some (v3, v4, μ))
  else
  (if ro_sh (ro_rf μ 1 1) = (0, 5) then
  ((fn_X5_canShift (ro_rf μ 1 1) v6 μ).bind fun q14 =>
  if q14 = 0 then
  (fj_X11_transposed_109 rec v1 v2 v3 v4 v5 v6 v4 μ)
  else
  ((fn_X9_shiftedWet v1 v6 μ).bind fun q20 =>
  fj_X11_transposed_109 rec v1 v2 v3 v4 v5 v6 q20.1 q20.2)) else none)
theorem bb_X11_transposed_71 {K : ro_K} (hK : ro_C K RX11 cX11_transposed 8 6) (hR : ro_R K (some .int)) {v1 : Int32} {v2 : Int32} {v5 : Int32}  {μ : ro_Mem} {rec : (Int32 × Int32 × Int32 × ro_Mem) → Option (Int32 × Int32 × ro_Mem)} {v3 : Int32} {v4 : Int32} {v6 : Int32} {q : (Int32 × Int32 × ro_Mem)} (hrec : ∀ (s : Int32 × Int32 × Int32 × ro_Mem) (q : (Int32 × Int32 × ro_Mem)), rec s = some q → ok_X11_transposed_71 K v1 v2 v5 q → ro_X K 71 [(0, .ref (ro_ad (kG K) 0)), (1, .int v1), (2, .int v2), (3, .int s.1), (4, .int s.2.1), (5, .int v5), (6, .int s.2.2.1)] [] s.2.2.2) (hf : fb_X11_transposed_71 v1 v2 v5 rec v3 v4 v6 μ = some q) (hq : ok_X11_transposed_71 K v1 v2 v5 q) : ro_X K 71 [(0, .ref (ro_ad (kG K) 0)), (1, .int v1), (2, .int v2), (3, .int v3), (4, .int v4), (5, .int v5), (6, .int v6)] [] μ := by
  unfold fb_X11_transposed_71 at hf
  refine ro_iload hK 6 rfl dX11_transposed_71 ?_
  refine ro_iload hK 5 rfl dX11_transposed_73 ?_
  refine ro_ineg hK dX11_transposed_75 ?_
  refine ro_icmp_lt hK 137 dX11_transposed_76 (by decide) (fun c12 => ?_) (fun c12 => ?_)
  · have hf := ro_it hf c12
    refine ro_sub (L' := [(0, .ref (ro_ad (kG K) 0)), (1, .int v1), (2, .int v2), (3, .int v3), (4, .int v4), (5, .int v5)]) [0, 1, 2, 3, 4, 5] rfl ?_
    obtain rfl := Option.some.inj hf
    exact hq
  · have hf := ro_ie hf c12
    refine ro_aload_n hK 0 rfl dX11_transposed_79 rfl ?_
    refine ro_getr hK fl_X11_10 sh_0 dX11_transposed_80 ?_
    obtain ⟨g13, hf⟩ := ro_gd hf
    refine ro_getm hK fl_X11_147 sh_1 dX11_transposed_83 ?_
    refine ro_iload hK 6 rfl dX11_transposed_86 ?_
    obtain ⟨q14, e15, hf⟩ := ro_bd hf
    refine ro_callvi hK [.int v6] ml_X11_245 mv_X5_canShift (mt_X5_canShift (kl K) (kG K) g13 e15) g13 ⟨_, rfl, rfl⟩ (by decide) rfl rfl (Nat.le_of_ble_eq_true rfl) dX11_transposed_88 ?_
    refine ro_if_eq hK 107 dX11_transposed_91 (by decide) (fun c16 => ?_) (fun c16 => ?_)
    · have hf := ro_it hf c16
      refine ro_iload hK 4 rfl dX11_transposed_107 ?_
      exact bj_X11_transposed_109 hK hR  hrec hf hq
    · have hf := ro_ie hf c16
      refine ro_aload_n hK 0 rfl dX11_transposed_94 rfl ?_
      refine ro_getr hK fl_X11_10 sh_0 dX11_transposed_95 ?_
      refine ro_iload_n hK 1 rfl dX11_transposed_98 rfl ?_
      refine ro_iload hK 6 rfl dX11_transposed_99 ?_
      obtain ⟨q20, e21, hf⟩ := ro_bd hf
      refine ro_callvi hK [.int v1, .int v6] ml_X11_242 mv_X9_shiftedWet (mt_X9_shiftedWet (kl K) (kG K)  e21) sh_1 ⟨_, rfl, rfl⟩ (by decide) rfl rfl (Nat.le_of_ble_eq_true rfl) dX11_transposed_101 ?_
      refine ro_goto hK 109 dX11_transposed_104 (by decide) ?_
      exact bj_X11_transposed_109 hK hR  hrec hf hq
def fl_X11_transposed_71 (v1 : Int32) (v2 : Int32) (v5 : Int32) : (Int32 × Int32 × Int32 × ro_Mem) → Option (Int32 × Int32 × ro_Mem) :=
  ro_loop (fun rec s => fb_X11_transposed_71 v1 v2 v5 rec s.1 s.2.1 s.2.2.1 s.2.2.2) ro_FU
theorem lp_X11_transposed_71 {K : ro_K} (hK : ro_C K RX11 cX11_transposed 8 6) (hR : ro_R K (some .int)) {v1 : Int32} {v2 : Int32} {v5 : Int32}  {s : Int32 × Int32 × Int32 × ro_Mem} {q : (Int32 × Int32 × ro_Mem)} (hf : fl_X11_transposed_71 v1 v2 v5 s = some q) (hq : ok_X11_transposed_71 K v1 v2 v5 q) : ro_X K 71 [(0, .ref (ro_ad (kG K) 0)), (1, .int v1), (2, .int v2), (3, .int s.1), (4, .int s.2.1), (5, .int v5), (6, .int s.2.2.1)] [] s.2.2.2 :=
  ro_loopX (b := fun rec s => fb_X11_transposed_71 v1 v2 v5 rec s.1 s.2.1 s.2.2.1 s.2.2.2) (X := fun s => ro_X K 71 [(0, .ref (ro_ad (kG K) 0)), (1, .int v1), (2, .int v2), (3, .int s.1), (4, .int s.2.1), (5, .int v5), (6, .int s.2.2.1)] [] s.2.2.2) (OK := ok_X11_transposed_71 K v1 v2 v5) (fun rec s q hrec hb ho => bb_X11_transposed_71 hK hR  hrec hb ho) ro_FU s q hf hq
def fb_X11_transposed_55 (v1 : Int32) (v2 : Int32) (rec : (Int32 × Int32 × Int32 × ro_Mem) → Option (Int32 × Int32 × ro_Mem)) (v3 : Int32) (v4 : Int32) (v5 : Int32) (μ : ro_Mem) : Option (Int32 × Int32 × ro_Mem) :=
  if 12 < v5 then
  (some (v3, v4, μ))
  else
  (if v4 ≤ 0 then
  (some (v3, v4, μ))
  else
  ((fl_X11_transposed_71 v1 v2 v5 (v3, v4, v5, μ)).bind fun q22 =>
  rec (q22.1, q22.2.1, v5 + 1, q22.2.2)))
theorem bb_X11_transposed_55 {K : ro_K} (hK : ro_C K RX11 cX11_transposed 8 6) (hR : ro_R K (some .int)) {v1 : Int32} {v2 : Int32}  {μ : ro_Mem} {rec : (Int32 × Int32 × Int32 × ro_Mem) → Option (Int32 × Int32 × ro_Mem)} {v3 : Int32} {v4 : Int32} {v5 : Int32} {q : (Int32 × Int32 × ro_Mem)} (hrec : ∀ (s : Int32 × Int32 × Int32 × ro_Mem) (q : (Int32 × Int32 × ro_Mem)), rec s = some q → ok_X11_transposed_55 K v1 v2 q → ro_X K 55 [(0, .ref (ro_ad (kG K) 0)), (1, .int v1), (2, .int v2), (3, .int s.1), (4, .int s.2.1), (5, .int s.2.2.1)] [] s.2.2.2) (hf : fb_X11_transposed_55 v1 v2 rec v3 v4 v5 μ = some q) (hq : ok_X11_transposed_55 K v1 v2 q) : ro_X K 55 [(0, .ref (ro_ad (kG K) 0)), (1, .int v1), (2, .int v2), (3, .int v3), (4, .int v4), (5, .int v5)] [] μ := by
  unfold fb_X11_transposed_55 at hf
  refine ro_iload hK 5 rfl dX11_transposed_55 ?_
  refine ro_bipush (v := 12) hK dX11_transposed_57 (by decide) ?_
  refine ro_icmp_gt hK 143 dX11_transposed_59 (by decide) (fun c10 => ?_) (fun c10 => ?_)
  · have hf := ro_it hf c10
    refine ro_sub (L' := [(2, .int v2), (3, .int v3), (4, .int v4)]) [2, 3, 4] rfl ?_
    obtain rfl := Option.some.inj hf
    exact hq
  · have hf := ro_ie hf c10
    refine ro_iload hK 4 rfl dX11_transposed_62 ?_
    refine ro_if_le hK 143 dX11_transposed_64 (by decide) (fun c11 => ?_) (fun c11 => ?_)
    · have hf := ro_it hf c11
      refine ro_sub (L' := [(2, .int v2), (3, .int v3), (4, .int v4)]) [2, 3, 4] rfl ?_
      obtain rfl := Option.some.inj hf
      exact hq
    · have hf := ro_ie hf c11
      refine ro_iload hK 5 rfl dX11_transposed_67 ?_
      refine ro_istore (L' := [(6, .int v5), (0, .ref (ro_ad (kG K) 0)), (1, .int v1), (2, .int v2), (3, .int v3), (4, .int v4), (5, .int v5)]) hK dX11_transposed_69 (by decide) rfl ?_
      obtain ⟨q22, e23, hf⟩ := ro_bd hf
      refine ro_sub (L' := [(0, .ref (ro_ad (kG K) 0)), (1, .int v1), (2, .int v2), (3, .int v3), (4, .int v4), (5, .int v5), (6, .int v5)]) [1, 2, 3, 4, 5, 6, 0] rfl ?_
      refine lp_X11_transposed_71 hK hR  e23 ?_
      show ro_X K 137 [(0, .ref (ro_ad (kG K) 0)), (1, .int v1), (2, .int v2), (3, .int q22.1), (4, .int q22.2.1), (5, .int v5)] [] q22.2.2
      refine ro_iinc (v := v5 + 1) (L' := [(5, .int (v5 + 1)), (0, .ref (ro_ad (kG K) 0)), (1, .int v1), (2, .int v2), (3, .int q22.1), (4, .int q22.2.1)]) hK 5 rfl dX11_transposed_137 rfl (by decide) rfl ?_
      refine ro_goto hK 55 dX11_transposed_140 (by decide) ?_
      refine ro_sub (L' := [(0, .ref (ro_ad (kG K) 0)), (1, .int v1), (2, .int v2), (3, .int q22.1), (4, .int q22.2.1), (5, .int (v5 + 1))]) [1, 2, 3, 4, 5, 0] rfl ?_
      exact hrec (q22.1, q22.2.1, v5 + 1, q22.2.2) _ hf hq
def fl_X11_transposed_55 (v1 : Int32) (v2 : Int32) : (Int32 × Int32 × Int32 × ro_Mem) → Option (Int32 × Int32 × ro_Mem) :=
  ro_loop (fun rec s => fb_X11_transposed_55 v1 v2 rec s.1 s.2.1 s.2.2.1 s.2.2.2) ro_FU
theorem lp_X11_transposed_55 {K : ro_K} (hK : ro_C K RX11 cX11_transposed 8 6) (hR : ro_R K (some .int)) {v1 : Int32} {v2 : Int32}  {s : Int32 × Int32 × Int32 × ro_Mem} {q : (Int32 × Int32 × ro_Mem)} (hf : fl_X11_transposed_55 v1 v2 s = some q) (hq : ok_X11_transposed_55 K v1 v2 q) : ro_X K 55 [(0, .ref (ro_ad (kG K) 0)), (1, .int v1), (2, .int v2), (3, .int s.1), (4, .int s.2.1), (5, .int s.2.2.1)] [] s.2.2.2 :=
  ro_loopX (b := fun rec s => fb_X11_transposed_55 v1 v2 rec s.1 s.2.1 s.2.2.1 s.2.2.2) (X := fun s => ro_X K 55 [(0, .ref (ro_ad (kG K) 0)), (1, .int v1), (2, .int v2), (3, .int s.1), (4, .int s.2.1), (5, .int s.2.2.1)] [] s.2.2.2) (OK := ok_X11_transposed_55 K v1 v2) (fun rec s q hrec hb ho => bb_X11_transposed_55 hK hR  hrec hb ho) ro_FU s q hf hq
def fj_X11_transposed_143 (v2 : Int32) (v3 : Int32) (v4 : Int32) (μ : ro_Mem) : Option (Int32 × ro_Mem) :=
  if v2 = 0 then
  (some (v3, μ))
  else
  (some (v4, μ))
theorem bj_X11_transposed_143 {K : ro_K} (hK : ro_C K RX11 cX11_transposed 8 6) (hR : ro_R K (some .int)) {v2 : Int32} {v3 : Int32} {v4 : Int32}   {μ : ro_Mem}  {out : Int32 × ro_Mem} (hf : fj_X11_transposed_143 v2 v3 v4 μ = some out) (hq : kQ K (some (.int out.1)) out.2) : ro_X K 143 [(2, .int v2), (3, .int v3), (4, .int v4)] [] μ := by
  unfold fj_X11_transposed_143 at hf
  refine ro_iload_n hK 0 rfl dX11_transposed_143 rfl ?_
  refine ro_if_ne hK 151 dX11_transposed_144 (by decide) (fun c26 => ?_) (fun c26 => ?_)
  · have hf := ro_ie hf c26
    refine ro_iload hK 2 rfl dX11_transposed_151 ?_
    obtain rfl := Option.some.inj hf
    exact ro_iret hK hR dX11_transposed_153 hq
  · have hf := ro_it hf c26
    refine ro_iload_n hK 1 rfl dX11_transposed_147 rfl ?_
    refine ro_goto hK 153 dX11_transposed_148 (by decide) ?_
    obtain rfl := Option.some.inj hf
    exact ro_iret hK hR dX11_transposed_153 hq
def fn_X11_transposed (v1 : Int32) (v2 : Int32) (μ : ro_Mem) : Option (Int32 × ro_Mem) :=
  (fn_X1_isGuest 2 v1 μ).bind fun q1 =>
  if q1 = 0 then
  (some ((-100), μ))
  else
  (if v2 < 0 then
  (some ((-100), μ))
  else
  (if 1 < v2 then
  (some ((-100), μ))
  else
  (if ro_sh (ro_rf μ 1 1) = (0, 5) then
  (if (μ (ro_rf μ 1 1) 5) = 0 then
  (some ((-100), μ))
  else
  ((fn_X9_shiftedWet v1 0 μ).bind fun q8 =>
  (fl_X11_transposed_55 v1 v2 (0, q8.1, 1, q8.2)).bind fun q24 =>
  fj_X11_transposed_143 v2 q24.1 q24.2.1 q24.2.2)) else none)))
theorem be_X11_transposed {K : ro_K} (hK : ro_C K RX11 cX11_transposed 8 6) (hR : ro_R K (some .int)) {v1 : Int32} {v2 : Int32}  {μ : ro_Mem} {out : Int32 × ro_Mem} (hf : fn_X11_transposed v1 v2 μ = some out) (hq : kQ K (some (.int out.1)) out.2) : ro_X K 0 [(0, .ref (ro_ad (kG K) 0)), (1, .int v1), (2, .int v2)] [] μ := by
  unfold fn_X11_transposed at hf
  refine ro_aload_n hK 0 rfl dX11_transposed_0 rfl ?_
  refine ro_getr hK fl_X11_10 sh_0 dX11_transposed_1 ?_
  refine ro_getr hK fl_X11_89 sh_1 dX11_transposed_4 ?_
  refine ro_iload_n hK 1 rfl dX11_transposed_7 rfl ?_
  obtain ⟨q1, e2, hf⟩ := ro_bd hf
  refine ro_callvi hK [.int v1] ml_X11_125 mv_X1_isGuest (mt_X1_isGuest (kl K) (kG K) sh_2 e2) sh_2 ⟨_, rfl, rfl⟩ (by decide) rfl rfl (Nat.le_of_ble_eq_true rfl) dX11_transposed_8 ?_
  refine ro_if_eq hK 36 dX11_transposed_11 (by decide) (fun c3 => ?_) (fun c3 => ?_)
  · have hf := ro_it hf c3
    refine ro_bipush (v := (-100)) hK dX11_transposed_36 (by decide) ?_
    obtain rfl := Option.some.inj hf
    exact ro_iret hK hR dX11_transposed_38 hq
  · have hf := ro_ie hf c3
    refine ro_iload_n hK 2 rfl dX11_transposed_14 rfl ?_
    refine ro_if_lt hK 36 dX11_transposed_15 (by decide) (fun c4 => ?_) (fun c4 => ?_)
    · have hf := ro_it hf c4
      refine ro_bipush (v := (-100)) hK dX11_transposed_36 (by decide) ?_
      obtain rfl := Option.some.inj hf
      exact ro_iret hK hR dX11_transposed_38 hq
    · have hf := ro_ie hf c4
      refine ro_iload_n hK 2 rfl dX11_transposed_18 rfl ?_
      refine ro_iconst (v := 1) hK dX11_transposed_19 (by decide) ?_
      refine ro_icmp_gt hK 36 dX11_transposed_20 (by decide) (fun c5 => ?_) (fun c5 => ?_)
      · have hf := ro_it hf c5
        refine ro_bipush (v := (-100)) hK dX11_transposed_36 (by decide) ?_
        obtain rfl := Option.some.inj hf
        exact ro_iret hK hR dX11_transposed_38 hq
      · have hf := ro_ie hf c5
        refine ro_aload_n hK 0 rfl dX11_transposed_23 rfl ?_
        refine ro_getr hK fl_X11_10 sh_0 dX11_transposed_24 ?_
        obtain ⟨g6, hf⟩ := ro_gd hf
        refine ro_getm hK fl_X11_147 sh_1 dX11_transposed_27 ?_
        refine ro_geti hK fl_X11_158 g6 dX11_transposed_30 ?_
        refine ro_if_ne hK 39 dX11_transposed_33 (by decide) (fun c7 => ?_) (fun c7 => ?_)
        · have hf := ro_ie hf c7
          refine ro_iconst (v := 0) hK dX11_transposed_39 (by decide) ?_
          refine ro_istore_n (L' := [(3, .int 0), (0, .ref (ro_ad (kG K) 0)), (1, .int v1), (2, .int v2)]) hK dX11_transposed_40 rfl (by decide) rfl ?_
          refine ro_aload_n hK 1 rfl dX11_transposed_41 rfl ?_
          refine ro_getr hK fl_X11_10 sh_0 dX11_transposed_42 ?_
          refine ro_iload_n hK 2 rfl dX11_transposed_45 rfl ?_
          refine ro_iconst (v := 0) hK dX11_transposed_46 (by decide) ?_
          obtain ⟨q8, e9, hf⟩ := ro_bd hf
          refine ro_callvi hK [.int v1, .int 0] ml_X11_242 mv_X9_shiftedWet (mt_X9_shiftedWet (kl K) (kG K)  e9) sh_1 ⟨_, rfl, rfl⟩ (by decide) rfl rfl (Nat.le_of_ble_eq_true rfl) dX11_transposed_47 ?_
          refine ro_istore (L' := [(4, .int q8.1), (3, .int 0), (0, .ref (ro_ad (kG K) 0)), (1, .int v1), (2, .int v2)]) hK dX11_transposed_50 (by decide) rfl ?_
          refine ro_iconst (v := 1) hK dX11_transposed_52 (by decide) ?_
          refine ro_istore (L' := [(5, .int 1), (4, .int q8.1), (3, .int 0), (0, .ref (ro_ad (kG K) 0)), (1, .int v1), (2, .int v2)]) hK dX11_transposed_53 (by decide) rfl ?_
          obtain ⟨q24, e25, hf⟩ := ro_bd hf
          refine ro_sub (L' := [(0, .ref (ro_ad (kG K) 0)), (1, .int v1), (2, .int v2), (3, .int 0), (4, .int q8.1), (5, .int 1)]) [3, 4, 5, 2, 1, 0] rfl ?_
          refine lp_X11_transposed_55 hK hR  e25 ?_
          show ro_X K 143 [(2, .int v2), (3, .int q24.1), (4, .int q24.2.1)] [] q24.2.2
          exact bj_X11_transposed_143 hK hR  hf hq
        · have hf := ro_it hf c7
          refine ro_bipush (v := (-100)) hK dX11_transposed_36 (by decide) ?_
          obtain rfl := Option.some.inj hf
          exact ro_iret hK hR dX11_transposed_38 hq
theorem mt_X11_transposed (l : Launch) (G : ro_G) {v1 : Int32} {v2 : Int32}  {μ : ro_Mem} {out : Int32 × ro_Mem} (hf : fn_X11_transposed v1 v2 μ = some out) : ro_MX l G yX11_transposed cX11_transposed 8 (some .int) 6 [.ref (ro_ad G 0), .int v1, .int v2] μ (some (.int out.1)) out.2 := by
  refine ro_MX.of (by decide +kernel) (Nat.le_of_ble_eq_true rfl) (fun K hG hl hq hK hR => ?_)
  subst hG
  exact be_X11_transposed hK hR  hf hq
-- ===== X11_weighNotes =====
theorem dX11_weighNotes_0 : decode cX11_weighNotes 0 = .ok (.iconst 0, 1) := by decide +kernel
theorem dX11_weighNotes_1 : decode cX11_weighNotes 1 = .ok (.istore_n 3, 1) := by decide +kernel
theorem dX11_weighNotes_2 : decode cX11_weighNotes 2 = .ok (.iload_n 3, 1) := by decide +kernel
theorem dX11_weighNotes_3 : decode cX11_weighNotes 3 = .ok (.bipush 32, 2) := by decide +kernel
theorem dX11_weighNotes_5 : decode cX11_weighNotes 5 = .ok (.if_icmp .ge 81, 3) := by decide +kernel
theorem dX11_weighNotes_8 : decode cX11_weighNotes 8 = .ok (.iload_n 3, 1) := by decide +kernel
theorem dX11_weighNotes_9 : decode cX11_weighNotes 9 = .ok (.aload_n 0, 1) := by decide +kernel
theorem dX11_weighNotes_10 : decode cX11_weighNotes 10 = .ok (.getfield 10, 3) := by decide +kernel
theorem dX11_weighNotes_13 : decode cX11_weighNotes 13 = .ok (.getfield 147, 3) := by decide +kernel
theorem dX11_weighNotes_16 : decode cX11_weighNotes 16 = .ok (.getfield 158, 3) := by decide +kernel
theorem dX11_weighNotes_19 : decode cX11_weighNotes 19 = .ok (.if_icmp .ge 23, 3) := by decide +kernel
theorem dX11_weighNotes_22 : decode cX11_weighNotes 22 = .ok (.aload_n 0, 1) := by decide +kernel
theorem dX11_weighNotes_23 : decode cX11_weighNotes 23 = .ok (.getfield 10, 3) := by decide +kernel
theorem dX11_weighNotes_26 : decode cX11_weighNotes 26 = .ok (.getfield 147, 3) := by decide +kernel
theorem dX11_weighNotes_29 : decode cX11_weighNotes 29 = .ok (.getfield 173, 3) := by decide +kernel
theorem dX11_weighNotes_32 : decode cX11_weighNotes 32 = .ok (.iload_n 3, 1) := by decide +kernel
theorem dX11_weighNotes_33 : decode cX11_weighNotes 33 = .ok (.iaload, 1) := by decide +kernel
theorem dX11_weighNotes_34 : decode cX11_weighNotes 34 = .ok (.iload_n 1, 1) := by decide +kernel
theorem dX11_weighNotes_35 : decode cX11_weighNotes 35 = .ok (.if_icmp .ne 7, 3) := by decide +kernel
theorem dX11_weighNotes_38 : decode cX11_weighNotes 38 = .ok (.iconst 1, 1) := by decide +kernel
theorem dX11_weighNotes_39 : decode cX11_weighNotes 39 = .ok (.goto 4, 3) := by decide +kernel
theorem dX11_weighNotes_42 : decode cX11_weighNotes 42 = .ok (.iconst 0, 1) := by decide +kernel
theorem dX11_weighNotes_43 : decode cX11_weighNotes 43 = .ok (.istore 4, 2) := by decide +kernel
theorem dX11_weighNotes_45 : decode cX11_weighNotes 45 = .ok (.aload_n 0, 1) := by decide +kernel
theorem dX11_weighNotes_46 : decode cX11_weighNotes 46 = .ok (.getfield 81, 3) := by decide +kernel
theorem dX11_weighNotes_49 : decode cX11_weighNotes 49 = .ok (.getfield 363, 3) := by decide +kernel
theorem dX11_weighNotes_52 : decode cX11_weighNotes 52 = .ok (.iload_n 3, 1) := by decide +kernel
theorem dX11_weighNotes_53 : decode cX11_weighNotes 53 = .ok (.iload 4, 2) := by decide +kernel
theorem dX11_weighNotes_55 : decode cX11_weighNotes 55 = .ok (.ifCond .eq 23, 3) := by decide +kernel
theorem dX11_weighNotes_58 : decode cX11_weighNotes 58 = .ok (.aload_n 0, 1) := by decide +kernel
theorem dX11_weighNotes_59 : decode cX11_weighNotes 59 = .ok (.getfield 47, 3) := by decide +kernel
theorem dX11_weighNotes_62 : decode cX11_weighNotes 62 = .ok (.iload_n 3, 1) := by decide +kernel
theorem dX11_weighNotes_63 : decode cX11_weighNotes 63 = .ok (.iload_n 1, 1) := by decide +kernel
theorem dX11_weighNotes_64 : decode cX11_weighNotes 64 = .ok (.iload_n 2, 1) := by decide +kernel
theorem dX11_weighNotes_65 : decode cX11_weighNotes 65 = .ok (.aload_n 0, 1) := by decide +kernel
theorem dX11_weighNotes_66 : decode cX11_weighNotes 66 = .ok (.getfield 10, 3) := by decide +kernel
theorem dX11_weighNotes_69 : decode cX11_weighNotes 69 = .ok (.getfield 89, 3) := by decide +kernel
theorem dX11_weighNotes_72 : decode cX11_weighNotes 72 = .ok (.invokevirtual 366, 3) := by decide +kernel
theorem dX11_weighNotes_75 : decode cX11_weighNotes 75 = .ok (.goto 4, 3) := by decide +kernel
theorem dX11_weighNotes_78 : decode cX11_weighNotes 78 = .ok (.iconst 0, 1) := by decide +kernel
theorem dX11_weighNotes_79 : decode cX11_weighNotes 79 = .ok (.iastore, 1) := by decide +kernel
theorem dX11_weighNotes_80 : decode cX11_weighNotes 80 = .ok (.iinc 3 1, 3) := by decide +kernel
theorem dX11_weighNotes_83 : decode cX11_weighNotes 83 = .ok (.goto (-81), 3) := by decide +kernel
theorem dX11_weighNotes_86 : decode cX11_weighNotes 86 = .ok (.aload_n 0, 1) := by decide +kernel
theorem dX11_weighNotes_87 : decode cX11_weighNotes 87 = .ok (.getfield 81, 3) := by decide +kernel
theorem dX11_weighNotes_90 : decode cX11_weighNotes 90 = .ok (.invokevirtual 370, 3) := by decide +kernel
theorem dX11_weighNotes_93 : decode cX11_weighNotes 93 = .ok (.return_, 1) := by decide +kernel
def ok_X11_weighNotes_2 (K : ro_K) (v1 : Int32) (v2 : Int32) : ro_Mem → Prop := fun e => ro_X K 86 [(0, .ref (ro_ad (kG K) 0))] [] e
def fj_X11_weighNotes_43 (rec : (Int32 × ro_Mem) → Option ro_Mem) (v1 : Int32) (v2 : Int32) (v3 : Int32) (t0 : Int32) (μ : ro_Mem) : Option ro_Mem :=
  if t0 = 0 then
  (if ro_in v3 32 then
  (ro_lt (ro_set μ 205 v3.toNatClampNeg 0) fun m6 =>
  rec (v3 + 1, m6)) else none)
  else
  ((fn_X0_fromNote v3 v1 v2 2 μ).bind fun q8 =>
  if ro_in v3 32 then
  (ro_lt (ro_set μ 205 v3.toNatClampNeg q8) fun m11 =>
  rec (v3 + 1, m11)) else none)
theorem bj_X11_weighNotes_43 {K : ro_K} (hK : ro_C K RX11 cX11_weighNotes 5 4) (hR : ro_R K none) {v1 : Int32} {v2 : Int32} {v3 : Int32} {t0 : Int32}  {rec : (Int32 × ro_Mem) → Option ro_Mem} {μ : ro_Mem} (hrec : ∀ (s : Int32 × ro_Mem) (q : ro_Mem), rec s = some q → ok_X11_weighNotes_2 K v1 v2 q → ro_X K 2 [(0, .ref (ro_ad (kG K) 0)), (1, .int v1), (2, .int v2), (3, .int s.1)] [] s.2) {out : ro_Mem} (hf : fj_X11_weighNotes_43 rec v1 v2 v3 t0 μ = some out) (hq : ok_X11_weighNotes_2 K v1 v2 out) : ro_X K 43 [(0, .ref (ro_ad (kG K) 0)), (1, .int v1), (2, .int v2), (3, .int v3)] [.int t0] μ := by
  unfold fj_X11_weighNotes_43 at hf
  refine ro_istore (L' := [(4, .int t0), (0, .ref (ro_ad (kG K) 0)), (1, .int v1), (2, .int v2), (3, .int v3)]) hK dX11_weighNotes_43 (by decide) rfl ?_
  refine ro_aload_n hK 1 rfl dX11_weighNotes_45 rfl ?_
  refine ro_getr hK fl_X11_81 sh_0 dX11_weighNotes_46 ?_
  refine ro_getr hK fl_X11_363 sh_204 dX11_weighNotes_49 ?_
  refine ro_iload_n hK 4 rfl dX11_weighNotes_52 rfl ?_
  refine ro_iload hK 0 rfl dX11_weighNotes_53 ?_
  refine ro_if_eq hK 78 dX11_weighNotes_55 (by decide) (fun c4 => ?_) (fun c4 => ?_)
  · have hf := ro_it hf c4
    refine ro_iconst (v := 0) hK dX11_weighNotes_78 (by decide) ?_
    obtain ⟨g5, hf⟩ := ro_gd hf
    obtain ⟨m6, e7, hf⟩ := ro_ld hf
    refine ro_iast hK sh_205 g5 dX11_weighNotes_79 ?_
    refine ro_mv e7 ?_
    refine ro_iinc (v := v3 + 1) (L' := [(3, .int (v3 + 1)), (4, .int t0), (0, .ref (ro_ad (kG K) 0)), (1, .int v1), (2, .int v2)]) hK 4 rfl dX11_weighNotes_80 rfl (by decide) rfl ?_
    refine ro_goto hK 2 dX11_weighNotes_83 (by decide) ?_
    refine ro_sub (L' := [(0, .ref (ro_ad (kG K) 0)), (1, .int v1), (2, .int v2), (3, .int (v3 + 1))]) [2, 3, 4, 0] rfl ?_
    exact hrec (v3 + 1, m6) _ hf hq
  · have hf := ro_ie hf c4
    refine ro_aload_n hK 1 rfl dX11_weighNotes_58 rfl ?_
    refine ro_getr hK fl_X11_47 sh_0 dX11_weighNotes_59 ?_
    refine ro_iload_n hK 4 rfl dX11_weighNotes_62 rfl ?_
    refine ro_iload_n hK 2 rfl dX11_weighNotes_63 rfl ?_
    refine ro_iload_n hK 3 rfl dX11_weighNotes_64 rfl ?_
    refine ro_aload_n hK 1 rfl dX11_weighNotes_65 rfl ?_
    refine ro_getr hK fl_X11_10 sh_0 dX11_weighNotes_66 ?_
    refine ro_getr hK fl_X11_89 sh_1 dX11_weighNotes_69 ?_
    obtain ⟨q8, e9, hf⟩ := ro_bd hf
    refine ro_callvi hK [.int v3, .int v1, .int v2, .ref (ro_ad (kG K) 2)] ml_X11_366 mv_X0_fromNote (mt_X0_fromNote (kl K) (kG K) sh_2 e9) sh_62 ⟨_, rfl, rfl⟩ (by decide) rfl rfl (Nat.le_of_ble_eq_true rfl) dX11_weighNotes_72 ?_
    refine ro_goto hK 79 dX11_weighNotes_75 (by decide) ?_
    obtain ⟨g10, hf⟩ := ro_gd hf
    obtain ⟨m11, e12, hf⟩ := ro_ld hf
    refine ro_iast hK sh_205 g10 dX11_weighNotes_79 ?_
    refine ro_mv e12 ?_
    refine ro_iinc (v := v3 + 1) (L' := [(3, .int (v3 + 1)), (4, .int t0), (0, .ref (ro_ad (kG K) 0)), (1, .int v1), (2, .int v2)]) hK 4 rfl dX11_weighNotes_80 rfl (by decide) rfl ?_
    refine ro_goto hK 2 dX11_weighNotes_83 (by decide) ?_
    refine ro_sub (L' := [(0, .ref (ro_ad (kG K) 0)), (1, .int v1), (2, .int v2), (3, .int (v3 + 1))]) [2, 3, 4, 0] rfl ?_
    exact hrec (v3 + 1, m11) _ hf hq
def fj_X11_weighNotes_42 (rec : (Int32 × ro_Mem) → Option ro_Mem) (v1 : Int32) (v2 : Int32) (v3 : Int32) (μ : ro_Mem) : Option ro_Mem :=
  fj_X11_weighNotes_43 rec v1 v2 v3 0 μ
theorem bj_X11_weighNotes_42 {K : ro_K} (hK : ro_C K RX11 cX11_weighNotes 5 4) (hR : ro_R K none) {v1 : Int32} {v2 : Int32} {v3 : Int32}  {rec : (Int32 × ro_Mem) → Option ro_Mem} {μ : ro_Mem} (hrec : ∀ (s : Int32 × ro_Mem) (q : ro_Mem), rec s = some q → ok_X11_weighNotes_2 K v1 v2 q → ro_X K 2 [(0, .ref (ro_ad (kG K) 0)), (1, .int v1), (2, .int v2), (3, .int s.1)] [] s.2) {out : ro_Mem} (hf : fj_X11_weighNotes_42 rec v1 v2 v3 μ = some out) (hq : ok_X11_weighNotes_2 K v1 v2 out) : ro_X K 42 [(0, .ref (ro_ad (kG K) 0)), (1, .int v1), (2, .int v2), (3, .int v3)] [] μ := by
  unfold fj_X11_weighNotes_42 at hf
  refine ro_iconst (v := 0) hK dX11_weighNotes_42 (by decide) ?_
  exact bj_X11_weighNotes_43 hK hR  hrec hf hq
def fb_X11_weighNotes_2 (v1 : Int32) (v2 : Int32) (rec : (Int32 × ro_Mem) → Option ro_Mem) (v3 : Int32) (μ : ro_Mem) : Option ro_Mem :=
  if 32 ≤ v3 then
  (some μ)
  else
  (if ro_sh (ro_rf μ 1 1) = (0, 5) then
  (if (μ (ro_rf μ 1 1) 5) ≤ v3 then
  (fj_X11_weighNotes_42 rec v1 v2 v3 μ)
  else
  (if ro_in v3 32 then
  (if (μ ((ro_rf μ 1 1) + 5) v3.toNatClampNeg) = v1 then
  (fj_X11_weighNotes_43 rec v1 v2 v3 1 μ)
  else
  (fj_X11_weighNotes_42 rec v1 v2 v3 μ)) else none)) else none)
theorem bb_X11_weighNotes_2 {K : ro_K} (hK : ro_C K RX11 cX11_weighNotes 5 4) (hR : ro_R K none) {v1 : Int32} {v2 : Int32}  {μ : ro_Mem} {rec : (Int32 × ro_Mem) → Option ro_Mem} {v3 : Int32} {q : ro_Mem} (hrec : ∀ (s : Int32 × ro_Mem) (q : ro_Mem), rec s = some q → ok_X11_weighNotes_2 K v1 v2 q → ro_X K 2 [(0, .ref (ro_ad (kG K) 0)), (1, .int v1), (2, .int v2), (3, .int s.1)] [] s.2) (hf : fb_X11_weighNotes_2 v1 v2 rec v3 μ = some q) (hq : ok_X11_weighNotes_2 K v1 v2 q) : ro_X K 2 [(0, .ref (ro_ad (kG K) 0)), (1, .int v1), (2, .int v2), (3, .int v3)] [] μ := by
  unfold fb_X11_weighNotes_2 at hf
  refine ro_iload_n hK 3 rfl dX11_weighNotes_2 rfl ?_
  refine ro_bipush (v := 32) hK dX11_weighNotes_3 (by decide) ?_
  refine ro_icmp_ge hK 86 dX11_weighNotes_5 (by decide) (fun c1 => ?_) (fun c1 => ?_)
  · have hf := ro_it hf c1
    refine ro_sub (L' := [(0, .ref (ro_ad (kG K) 0))]) [0] rfl ?_
    obtain rfl := Option.some.inj hf
    exact hq
  · have hf := ro_ie hf c1
    refine ro_iload_n hK 3 rfl dX11_weighNotes_8 rfl ?_
    refine ro_aload_n hK 0 rfl dX11_weighNotes_9 rfl ?_
    refine ro_getr hK fl_X11_10 sh_0 dX11_weighNotes_10 ?_
    obtain ⟨g2, hf⟩ := ro_gd hf
    refine ro_getm hK fl_X11_147 sh_1 dX11_weighNotes_13 ?_
    refine ro_geti hK fl_X11_158 g2 dX11_weighNotes_16 ?_
    refine ro_icmp_ge hK 42 dX11_weighNotes_19 (by decide) (fun c3 => ?_) (fun c3 => ?_)
    · have hf := ro_it hf c3
      exact bj_X11_weighNotes_42 hK hR  hrec hf hq
    · have hf := ro_ie hf c3
      refine ro_aload_n hK 0 rfl dX11_weighNotes_22 rfl ?_
      refine ro_getr hK fl_X11_10 sh_0 dX11_weighNotes_23 ?_
      refine ro_getm hK fl_X11_147 sh_1 dX11_weighNotes_26 ?_
      refine ro_getr hK fl_X11_173 g2 dX11_weighNotes_29 ?_
      refine ro_iload_n hK 3 rfl dX11_weighNotes_32 rfl ?_
      obtain ⟨g13, hf⟩ := ro_gd hf
      refine ro_iald hK (so_5_5 g2) g13 dX11_weighNotes_33 ?_
      refine ro_iload_n hK 1 rfl dX11_weighNotes_34 rfl ?_
      refine ro_icmp_ne hK 42 dX11_weighNotes_35 (by decide) (fun c14 => ?_) (fun c14 => ?_)
      · have hf := ro_ie hf c14
        exact bj_X11_weighNotes_42 hK hR  hrec hf hq
      · have hf := ro_it hf c14
        refine ro_iconst (v := 1) hK dX11_weighNotes_38 (by decide) ?_
        refine ro_goto hK 43 dX11_weighNotes_39 (by decide) ?_
        exact bj_X11_weighNotes_43 hK hR  hrec hf hq
def fl_X11_weighNotes_2 (v1 : Int32) (v2 : Int32) : (Int32 × ro_Mem) → Option ro_Mem :=
  ro_loop (fun rec s => fb_X11_weighNotes_2 v1 v2 rec s.1 s.2) ro_FU
theorem lp_X11_weighNotes_2 {K : ro_K} (hK : ro_C K RX11 cX11_weighNotes 5 4) (hR : ro_R K none) {v1 : Int32} {v2 : Int32}  {s : Int32 × ro_Mem} {q : ro_Mem} (hf : fl_X11_weighNotes_2 v1 v2 s = some q) (hq : ok_X11_weighNotes_2 K v1 v2 q) : ro_X K 2 [(0, .ref (ro_ad (kG K) 0)), (1, .int v1), (2, .int v2), (3, .int s.1)] [] s.2 :=
  ro_loopX (b := fun rec s => fb_X11_weighNotes_2 v1 v2 rec s.1 s.2) (X := fun s => ro_X K 2 [(0, .ref (ro_ad (kG K) 0)), (1, .int v1), (2, .int v2), (3, .int s.1)] [] s.2) (OK := ok_X11_weighNotes_2 K v1 v2) (fun rec s q hrec hb ho => bb_X11_weighNotes_2 hK hR  hrec hb ho) ro_FU s q hf hq
def fn_X11_weighNotes (v1 : Int32) (v2 : Int32) (μ : ro_Mem) : Option ro_Mem :=
  (fl_X11_weighNotes_2 v1 v2 (0, μ)).bind fun q15 =>
  (fn_X10_sort 204 q15).bind fun q17 =>
  some q17
theorem be_X11_weighNotes {K : ro_K} (hK : ro_C K RX11 cX11_weighNotes 5 4) (hR : ro_R K none) {v1 : Int32} {v2 : Int32}  {μ : ro_Mem} {out : ro_Mem} (hf : fn_X11_weighNotes v1 v2 μ = some out) (hq : kQ K none out) : ro_X K 0 [(0, .ref (ro_ad (kG K) 0)), (1, .int v1), (2, .int v2)] [] μ := by
  unfold fn_X11_weighNotes at hf
  refine ro_iconst (v := 0) hK dX11_weighNotes_0 (by decide) ?_
  refine ro_istore_n (L' := [(3, .int 0), (0, .ref (ro_ad (kG K) 0)), (1, .int v1), (2, .int v2)]) hK dX11_weighNotes_1 rfl (by decide) rfl ?_
  obtain ⟨q15, e16, hf⟩ := ro_bd hf
  refine ro_sub (L' := [(0, .ref (ro_ad (kG K) 0)), (1, .int v1), (2, .int v2), (3, .int 0)]) [1, 2, 3, 0] rfl ?_
  refine lp_X11_weighNotes_2 hK hR  e16 ?_
  show ro_X K 86 [(0, .ref (ro_ad (kG K) 0))] [] q15
  refine ro_aload_n hK 0 rfl dX11_weighNotes_86 rfl ?_
  refine ro_getr hK fl_X11_81 sh_0 dX11_weighNotes_87 ?_
  obtain ⟨q17, e18, hf⟩ := ro_bd hf
  refine ro_callvv hK [] ml_X11_370 mv_X10_sort (mt_X10_sort (kl K) (kG K) sh_204 e18) sh_204 ⟨_, rfl, rfl⟩ (by decide) rfl rfl (Nat.le_of_ble_eq_true rfl) dX11_weighNotes_90 ?_
  obtain rfl := Option.some.inj hf
  exact ro_vret hK hR dX11_weighNotes_93 hq
theorem mt_X11_weighNotes (l : Launch) (G : ro_G) {v1 : Int32} {v2 : Int32}  {μ : ro_Mem} {out : ro_Mem} (hf : fn_X11_weighNotes v1 v2 μ = some out) : ro_MX l G yX11_weighNotes cX11_weighNotes 5 none 4 [.ref (ro_ad G 0), .int v1, .int v2] μ none out := by
  refine ro_MX.of (by decide +kernel) (Nat.le_of_ble_eq_true rfl) (fun K hG hl hq hK hR => ?_)
  subst hG
  exact be_X11_weighNotes hK hR  hf hq
-- ===== X11_leftOut =====
theorem dX11_leftOut_0 : decode cX11_leftOut 0 = .ok (.aload_n 0, 1) := by decide +kernel
theorem dX11_leftOut_1 : decode cX11_leftOut 1 = .ok (.getfield 10, 3) := by decide +kernel
theorem dX11_leftOut_4 : decode cX11_leftOut 4 = .ok (.getfield 89, 3) := by decide +kernel
theorem dX11_leftOut_7 : decode cX11_leftOut 7 = .ok (.iload_n 1, 1) := by decide +kernel
theorem dX11_leftOut_8 : decode cX11_leftOut 8 = .ok (.invokevirtual 125, 3) := by decide +kernel
theorem dX11_leftOut_11 : decode cX11_leftOut 11 = .ok (.ifCond .eq 10, 3) := by decide +kernel
theorem dX11_leftOut_14 : decode cX11_leftOut 14 = .ok (.iload_n 2, 1) := by decide +kernel
theorem dX11_leftOut_15 : decode cX11_leftOut 15 = .ok (.invokestatic 115, 3) := by decide +kernel
theorem dX11_leftOut_18 : decode cX11_leftOut 18 = .ok (.ifCond .ne 5, 3) := by decide +kernel
theorem dX11_leftOut_21 : decode cX11_leftOut 21 = .ok (.iconst (-1), 1) := by decide +kernel
theorem dX11_leftOut_22 : decode cX11_leftOut 22 = .ok (.ireturn, 1) := by decide +kernel
theorem dX11_leftOut_23 : decode cX11_leftOut 23 = .ok (.aload_n 0, 1) := by decide +kernel
theorem dX11_leftOut_24 : decode cX11_leftOut 24 = .ok (.invokevirtual 176, 3) := by decide +kernel
theorem dX11_leftOut_27 : decode cX11_leftOut 27 = .ok (.aload_n 0, 1) := by decide +kernel
theorem dX11_leftOut_28 : decode cX11_leftOut 28 = .ok (.getfield 10, 3) := by decide +kernel
theorem dX11_leftOut_31 : decode cX11_leftOut 31 = .ok (.getfield 89, 3) := by decide +kernel
theorem dX11_leftOut_34 : decode cX11_leftOut 34 = .ok (.getfield 131, 3) := by decide +kernel
theorem dX11_leftOut_37 : decode cX11_leftOut 37 = .ok (.iload_n 2, 1) := by decide +kernel
theorem dX11_leftOut_38 : decode cX11_leftOut 38 = .ok (.bipush 10, 2) := by decide +kernel
theorem dX11_leftOut_40 : decode cX11_leftOut 40 = .ok (.imul, 1) := by decide +kernel
theorem dX11_leftOut_41 : decode cX11_leftOut 41 = .ok (.iload_n 1, 1) := by decide +kernel
theorem dX11_leftOut_42 : decode cX11_leftOut 42 = .ok (.iadd, 1) := by decide +kernel
theorem dX11_leftOut_43 : decode cX11_leftOut 43 = .ok (.iaload, 1) := by decide +kernel
theorem dX11_leftOut_44 : decode cX11_leftOut 44 = .ok (.istore 4, 2) := by decide +kernel
theorem dX11_leftOut_46 : decode cX11_leftOut 46 = .ok (.aload_n 0, 1) := by decide +kernel
theorem dX11_leftOut_47 : decode cX11_leftOut 47 = .ok (.iload_n 1, 1) := by decide +kernel
theorem dX11_leftOut_48 : decode cX11_leftOut 48 = .ok (.iload_n 2, 1) := by decide +kernel
theorem dX11_leftOut_49 : decode cX11_leftOut 49 = .ok (.invokevirtual 188, 3) := by decide +kernel
theorem dX11_leftOut_52 : decode cX11_leftOut 52 = .ok (.istore 5, 2) := by decide +kernel
theorem dX11_leftOut_54 : decode cX11_leftOut 54 = .ok (.aload_n 0, 1) := by decide +kernel
theorem dX11_leftOut_55 : decode cX11_leftOut 55 = .ok (.iload_n 2, 1) := by decide +kernel
theorem dX11_leftOut_56 : decode cX11_leftOut 56 = .ok (.iload 4, 2) := by decide +kernel
theorem dX11_leftOut_58 : decode cX11_leftOut 58 = .ok (.invokevirtual 248, 3) := by decide +kernel
theorem dX11_leftOut_61 : decode cX11_leftOut 61 = .ok (.aload_n 0, 1) := by decide +kernel
theorem dX11_leftOut_62 : decode cX11_leftOut 62 = .ok (.getfield 81, 3) := by decide +kernel
theorem dX11_leftOut_65 : decode cX11_leftOut 65 = .ok (.iload 5, 2) := by decide +kernel
theorem dX11_leftOut_67 : decode cX11_leftOut 67 = .ok (.invokevirtual 251, 3) := by decide +kernel
theorem dX11_leftOut_70 : decode cX11_leftOut 70 = .ok (.istore 6, 2) := by decide +kernel
theorem dX11_leftOut_72 : decode cX11_leftOut 72 = .ok (.iload 6, 2) := by decide +kernel
theorem dX11_leftOut_74 : decode cX11_leftOut 74 = .ok (.iconst (-1), 1) := by decide +kernel
theorem dX11_leftOut_75 : decode cX11_leftOut 75 = .ok (.if_icmp .ne 6, 3) := by decide +kernel
theorem dX11_leftOut_78 : decode cX11_leftOut 78 = .ok (.bipush (-2), 2) := by decide +kernel
theorem dX11_leftOut_80 : decode cX11_leftOut 80 = .ok (.ireturn, 1) := by decide +kernel
theorem dX11_leftOut_81 : decode cX11_leftOut 81 = .ok (.iload_n 3, 1) := by decide +kernel
theorem dX11_leftOut_82 : decode cX11_leftOut 82 = .ok (.iconst (-1), 1) := by decide +kernel
theorem dX11_leftOut_83 : decode cX11_leftOut 83 = .ok (.if_icmp .ne 6, 3) := by decide +kernel
theorem dX11_leftOut_86 : decode cX11_leftOut 86 = .ok (.iload 6, 2) := by decide +kernel
theorem dX11_leftOut_88 : decode cX11_leftOut 88 = .ok (.ireturn, 1) := by decide +kernel
theorem dX11_leftOut_89 : decode cX11_leftOut 89 = .ok (.iload_n 3, 1) := by decide +kernel
theorem dX11_leftOut_90 : decode cX11_leftOut 90 = .ok (.ifCond .lt 9, 3) := by decide +kernel
theorem dX11_leftOut_93 : decode cX11_leftOut 93 = .ok (.iload_n 3, 1) := by decide +kernel
theorem dX11_leftOut_94 : decode cX11_leftOut 94 = .ok (.iload 6, 2) := by decide +kernel
theorem dX11_leftOut_96 : decode cX11_leftOut 96 = .ok (.if_icmp .lt 8, 3) := by decide +kernel
theorem dX11_leftOut_99 : decode cX11_leftOut 99 = .ok (.bipush (-2), 2) := by decide +kernel
theorem dX11_leftOut_101 : decode cX11_leftOut 101 = .ok (.goto 13, 3) := by decide +kernel
theorem dX11_leftOut_104 : decode cX11_leftOut 104 = .ok (.aload_n 0, 1) := by decide +kernel
theorem dX11_leftOut_105 : decode cX11_leftOut 105 = .ok (.getfield 81, 3) := by decide +kernel
theorem dX11_leftOut_108 : decode cX11_leftOut 108 = .ok (.iload 5, 2) := by decide +kernel
theorem dX11_leftOut_110 : decode cX11_leftOut 110 = .ok (.iload_n 3, 1) := by decide +kernel
theorem dX11_leftOut_111 : decode cX11_leftOut 111 = .ok (.invokevirtual 254, 3) := by decide +kernel
theorem dX11_leftOut_114 : decode cX11_leftOut 114 = .ok (.ireturn, 1) := by decide +kernel
def fn_X11_leftOut (v1 : Int32) (v2 : Int32) (v3 : Int32) (μ : ro_Mem) : Option (Int32 × ro_Mem) :=
  (fn_X1_isGuest 2 v1 μ).bind fun q1 =>
  if q1 = 0 then
  (some ((-1), μ))
  else
  ((fn_X11_isAct v2).bind fun q4 =>
  if q4 = 0 then
  (some ((-1), μ))
  else
  ((fn_X11_refresh μ).bind fun q7 =>
  if ro_in ((v2 * 10) + v1) 40 then
  (ro_lt (q7 11 ((v2 * 10) + v1).toNatClampNeg) fun z10 =>
  (fn_X11_wetOfGuest v1 v2 q7).bind fun q12 =>
  (fn_X11_weighNotes v2 z10 q7).bind fun q14 =>
  (fn_X10_fewest 204 q12 q14).bind fun q16 =>
  if q16 = (-1) then
  (some ((-2), q14))
  else
  (if v3 = (-1) then
  (some (q16, q14))
  else
  (if v3 < 0 then
  (some ((-2), q14))
  else
  (if v3 < q16 then
  ((fn_X10_pick 204 q12 v3 q14).bind fun q22 =>
  some (q22, q14))
  else
  (some ((-2), q14)))))) else none))
theorem be_X11_leftOut {K : ro_K} (hK : ro_C K RX11 cX11_leftOut 7 6) (hR : ro_R K (some .int)) {v1 : Int32} {v2 : Int32} {v3 : Int32}  {μ : ro_Mem} {out : Int32 × ro_Mem} (hf : fn_X11_leftOut v1 v2 v3 μ = some out) (hq : kQ K (some (.int out.1)) out.2) : ro_X K 0 [(0, .ref (ro_ad (kG K) 0)), (1, .int v1), (2, .int v2), (3, .int v3)] [] μ := by
  unfold fn_X11_leftOut at hf
  refine ro_aload_n hK 0 rfl dX11_leftOut_0 rfl ?_
  refine ro_getr hK fl_X11_10 sh_0 dX11_leftOut_1 ?_
  refine ro_getr hK fl_X11_89 sh_1 dX11_leftOut_4 ?_
  refine ro_iload_n hK 1 rfl dX11_leftOut_7 rfl ?_
  obtain ⟨q1, e2, hf⟩ := ro_bd hf
  refine ro_callvi hK [.int v1] ml_X11_125 mv_X1_isGuest (mt_X1_isGuest (kl K) (kG K) sh_2 e2) sh_2 ⟨_, rfl, rfl⟩ (by decide) rfl rfl (Nat.le_of_ble_eq_true rfl) dX11_leftOut_8 ?_
  refine ro_if_eq hK 21 dX11_leftOut_11 (by decide) (fun c3 => ?_) (fun c3 => ?_)
  · have hf := ro_it hf c3
    refine ro_iconst (v := (-1)) hK dX11_leftOut_21 (by decide) ?_
    obtain rfl := Option.some.inj hf
    exact ro_iret hK hR dX11_leftOut_22 hq
  · have hf := ro_ie hf c3
    refine ro_iload_n hK 2 rfl dX11_leftOut_14 rfl ?_
    obtain ⟨q4, e5, hf⟩ := ro_bd hf
    refine ro_callsi hK [.int v2] ml_X11_115 ms_X11_isAct (mt_X11_isAct (kl K) (kG K)  e5) (by decide) rfl rfl (Nat.le_of_ble_eq_true rfl) dX11_leftOut_15 ?_
    refine ro_if_ne hK 23 dX11_leftOut_18 (by decide) (fun c6 => ?_) (fun c6 => ?_)
    · have hf := ro_ie hf c6
      refine ro_aload_n hK 0 rfl dX11_leftOut_23 rfl ?_
      obtain ⟨q7, e8, hf⟩ := ro_bd hf
      refine ro_callvv hK [] ml_X11_176 mv_X11_refresh (mt_X11_refresh (kl K) (kG K)  e8) sh_0 ⟨_, rfl, rfl⟩ (by decide) rfl rfl (Nat.le_of_ble_eq_true rfl) dX11_leftOut_24 ?_
      refine ro_aload_n hK 0 rfl dX11_leftOut_27 rfl ?_
      refine ro_getr hK fl_X11_10 sh_0 dX11_leftOut_28 ?_
      refine ro_getr hK fl_X11_89 sh_1 dX11_leftOut_31 ?_
      refine ro_getr hK fl_X11_131 sh_2 dX11_leftOut_34 ?_
      refine ro_iload_n hK 2 rfl dX11_leftOut_37 rfl ?_
      refine ro_bipush (v := 10) hK dX11_leftOut_38 (by decide) ?_
      refine ro_imul hK dX11_leftOut_40 ?_
      refine ro_iload_n hK 1 rfl dX11_leftOut_41 rfl ?_
      refine ro_iadd hK dX11_leftOut_42 ?_
      obtain ⟨g9, hf⟩ := ro_gd hf
      refine ro_iald hK sh_11 g9 dX11_leftOut_43 ?_
      obtain ⟨z10, e11, hf⟩ := ro_ld hf
      refine ro_iv e11 ?_
      refine ro_istore (L' := [(4, .int z10), (0, .ref (ro_ad (kG K) 0)), (1, .int v1), (2, .int v2), (3, .int v3)]) hK dX11_leftOut_44 (by decide) rfl ?_
      refine ro_aload_n hK 1 rfl dX11_leftOut_46 rfl ?_
      refine ro_iload_n hK 2 rfl dX11_leftOut_47 rfl ?_
      refine ro_iload_n hK 3 rfl dX11_leftOut_48 rfl ?_
      obtain ⟨q12, e13, hf⟩ := ro_bd hf
      refine ro_callvi hK [.int v1, .int v2] ml_X11_188 mv_X11_wetOfGuest (mt_X11_wetOfGuest (kl K) (kG K)  e13) sh_0 ⟨_, rfl, rfl⟩ (by decide) rfl rfl (Nat.le_of_ble_eq_true rfl) dX11_leftOut_49 ?_
      refine ro_istore (L' := [(5, .int q12), (4, .int z10), (0, .ref (ro_ad (kG K) 0)), (1, .int v1), (2, .int v2), (3, .int v3)]) hK dX11_leftOut_52 (by decide) rfl ?_
      refine ro_aload_n hK 2 rfl dX11_leftOut_54 rfl ?_
      refine ro_iload_n hK 4 rfl dX11_leftOut_55 rfl ?_
      refine ro_iload hK 1 rfl dX11_leftOut_56 ?_
      obtain ⟨q14, e15, hf⟩ := ro_bd hf
      refine ro_callvv hK [.int v2, .int z10] ml_X11_248 mv_X11_weighNotes (mt_X11_weighNotes (kl K) (kG K)  e15) sh_0 ⟨_, rfl, rfl⟩ (by decide) rfl rfl (Nat.le_of_ble_eq_true rfl) dX11_leftOut_58 ?_
      refine ro_aload_n hK 2 rfl dX11_leftOut_61 rfl ?_
      refine ro_getr hK fl_X11_81 sh_0 dX11_leftOut_62 ?_
      refine ro_iload hK 0 rfl dX11_leftOut_65 ?_
      obtain ⟨q16, e17, hf⟩ := ro_bd hf
      refine ro_callvi hK [.int q12] ml_X11_251 mv_X10_fewest (mt_X10_fewest (kl K) (kG K) sh_204 e17) sh_204 ⟨_, rfl, rfl⟩ (by decide) rfl rfl (Nat.le_of_ble_eq_true rfl) dX11_leftOut_67 ?_
      refine ro_istore (L' := [(6, .int q16), (5, .int q12), (4, .int z10), (0, .ref (ro_ad (kG K) 0)), (1, .int v1), (2, .int v2), (3, .int v3)]) hK dX11_leftOut_70 (by decide) rfl ?_
      refine ro_iload hK 0 rfl dX11_leftOut_72 ?_
      refine ro_iconst (v := (-1)) hK dX11_leftOut_74 (by decide) ?_
      refine ro_icmp_ne hK 81 dX11_leftOut_75 (by decide) (fun c18 => ?_) (fun c18 => ?_)
      · have hf := ro_ie hf c18
        refine ro_iload_n hK 6 rfl dX11_leftOut_81 rfl ?_
        refine ro_iconst (v := (-1)) hK dX11_leftOut_82 (by decide) ?_
        refine ro_icmp_ne hK 89 dX11_leftOut_83 (by decide) (fun c19 => ?_) (fun c19 => ?_)
        · have hf := ro_ie hf c19
          refine ro_iload_n hK 6 rfl dX11_leftOut_89 rfl ?_
          refine ro_if_lt hK 99 dX11_leftOut_90 (by decide) (fun c20 => ?_) (fun c20 => ?_)
          · have hf := ro_it hf c20
            refine ro_bipush (v := (-2)) hK dX11_leftOut_99 (by decide) ?_
            refine ro_goto hK 114 dX11_leftOut_101 (by decide) ?_
            obtain rfl := Option.some.inj hf
            exact ro_iret hK hR dX11_leftOut_114 hq
          · have hf := ro_ie hf c20
            refine ro_iload_n hK 6 rfl dX11_leftOut_93 rfl ?_
            refine ro_iload hK 0 rfl dX11_leftOut_94 ?_
            refine ro_icmp_lt hK 104 dX11_leftOut_96 (by decide) (fun c21 => ?_) (fun c21 => ?_)
            · have hf := ro_it hf c21
              refine ro_aload_n hK 3 rfl dX11_leftOut_104 rfl ?_
              refine ro_getr hK fl_X11_81 sh_0 dX11_leftOut_105 ?_
              refine ro_iload hK 1 rfl dX11_leftOut_108 ?_
              refine ro_iload_n hK 6 rfl dX11_leftOut_110 rfl ?_
              obtain ⟨q22, e23, hf⟩ := ro_bd hf
              refine ro_callvi hK [.int q12, .int v3] ml_X11_254 mv_X10_pick (mt_X10_pick (kl K) (kG K) sh_204 e23) sh_204 ⟨_, rfl, rfl⟩ (by decide) rfl rfl (Nat.le_of_ble_eq_true rfl) dX11_leftOut_111 ?_
              obtain rfl := Option.some.inj hf
              exact ro_iret hK hR dX11_leftOut_114 hq
            · have hf := ro_ie hf c21
              refine ro_bipush (v := (-2)) hK dX11_leftOut_99 (by decide) ?_
              refine ro_goto hK 114 dX11_leftOut_101 (by decide) ?_
              obtain rfl := Option.some.inj hf
              exact ro_iret hK hR dX11_leftOut_114 hq
        · have hf := ro_it hf c19
          refine ro_iload hK 0 rfl dX11_leftOut_86 ?_
          obtain rfl := Option.some.inj hf
          exact ro_iret hK hR dX11_leftOut_88 hq
      · have hf := ro_it hf c18
        refine ro_bipush (v := (-2)) hK dX11_leftOut_78 (by decide) ?_
        obtain rfl := Option.some.inj hf
        exact ro_iret hK hR dX11_leftOut_80 hq
    · have hf := ro_it hf c6
      refine ro_iconst (v := (-1)) hK dX11_leftOut_21 (by decide) ?_
      obtain rfl := Option.some.inj hf
      exact ro_iret hK hR dX11_leftOut_22 hq
theorem mt_X11_leftOut (l : Launch) (G : ro_G) {v1 : Int32} {v2 : Int32} {v3 : Int32}  {μ : ro_Mem} {out : Int32 × ro_Mem} (hf : fn_X11_leftOut v1 v2 v3 μ = some out) : ro_MX l G yX11_leftOut cX11_leftOut 7 (some .int) 6 [.ref (ro_ad G 0), .int v1, .int v2, .int v3] μ (some (.int out.1)) out.2 := by
  refine ro_MX.of (by decide +kernel) (Nat.le_of_ble_eq_true rfl) (fun K hG hl hq hK hR => ?_)
  subst hG
  exact be_X11_leftOut hK hR  hf hq
-- ===== X11_nails =====
theorem dX11_nails_0 : decode cX11_nails 0 = .ok (.aload_n 0, 1) := by decide +kernel
theorem dX11_nails_1 : decode cX11_nails 1 = .ok (.iload_n 1, 1) := by decide +kernel
theorem dX11_nails_2 : decode cX11_nails 2 = .ok (.invokevirtual 212, 3) := by decide +kernel
theorem dX11_nails_5 : decode cX11_nails 5 = .ok (.ifCond .eq 12, 3) := by decide +kernel
theorem dX11_nails_8 : decode cX11_nails 8 = .ok (.iload_n 2, 1) := by decide +kernel
theorem dX11_nails_9 : decode cX11_nails 9 = .ok (.ifCond .lt 8, 3) := by decide +kernel
theorem dX11_nails_12 : decode cX11_nails 12 = .ok (.iload_n 2, 1) := by decide +kernel
theorem dX11_nails_13 : decode cX11_nails 13 = .ok (.iconst 1, 1) := by decide +kernel
theorem dX11_nails_14 : decode cX11_nails 14 = .ok (.if_icmp .le 5, 3) := by decide +kernel
theorem dX11_nails_17 : decode cX11_nails 17 = .ok (.iconst (-1), 1) := by decide +kernel
theorem dX11_nails_18 : decode cX11_nails 18 = .ok (.ireturn, 1) := by decide +kernel
theorem dX11_nails_19 : decode cX11_nails 19 = .ok (.aload_n 0, 1) := by decide +kernel
theorem dX11_nails_20 : decode cX11_nails 20 = .ok (.invokevirtual 176, 3) := by decide +kernel
theorem dX11_nails_23 : decode cX11_nails 23 = .ok (.aload_n 0, 1) := by decide +kernel
theorem dX11_nails_24 : decode cX11_nails 24 = .ok (.getfield 65, 3) := by decide +kernel
theorem dX11_nails_27 : decode cX11_nails 27 = .ok (.invokevirtual 257, 3) := by decide +kernel
theorem dX11_nails_30 : decode cX11_nails 30 = .ok (.iconst 0, 1) := by decide +kernel
theorem dX11_nails_31 : decode cX11_nails 31 = .ok (.istore_n 3, 1) := by decide +kernel
theorem dX11_nails_32 : decode cX11_nails 32 = .ok (.iload_n 3, 1) := by decide +kernel
theorem dX11_nails_33 : decode cX11_nails 33 = .ok (.bipush 10, 2) := by decide +kernel
theorem dX11_nails_35 : decode cX11_nails 35 = .ok (.if_icmp .ge 88, 3) := by decide +kernel
theorem dX11_nails_38 : decode cX11_nails 38 = .ok (.iconst 0, 1) := by decide +kernel
theorem dX11_nails_39 : decode cX11_nails 39 = .ok (.istore 4, 2) := by decide +kernel
theorem dX11_nails_41 : decode cX11_nails 41 = .ok (.iload 4, 2) := by decide +kernel
theorem dX11_nails_43 : decode cX11_nails 43 = .ok (.iconst 4, 1) := by decide +kernel
theorem dX11_nails_44 : decode cX11_nails 44 = .ok (.if_icmp .ge 73, 3) := by decide +kernel
theorem dX11_nails_47 : decode cX11_nails 47 = .ok (.iload_n 1, 1) := by decide +kernel
theorem dX11_nails_48 : decode cX11_nails 48 = .ok (.iload_n 3, 1) := by decide +kernel
theorem dX11_nails_49 : decode cX11_nails 49 = .ok (.ishr, 1) := by decide +kernel
theorem dX11_nails_50 : decode cX11_nails 50 = .ok (.iconst 1, 1) := by decide +kernel
theorem dX11_nails_51 : decode cX11_nails 51 = .ok (.iand, 1) := by decide +kernel
theorem dX11_nails_52 : decode cX11_nails 52 = .ok (.iconst 1, 1) := by decide +kernel
theorem dX11_nails_53 : decode cX11_nails 53 = .ok (.if_icmp .ne 13, 3) := by decide +kernel
theorem dX11_nails_56 : decode cX11_nails 56 = .ok (.aload_n 0, 1) := by decide +kernel
theorem dX11_nails_57 : decode cX11_nails 57 = .ok (.iload_n 3, 1) := by decide +kernel
theorem dX11_nails_58 : decode cX11_nails 58 = .ok (.iload 4, 2) := by decide +kernel
theorem dX11_nails_60 : decode cX11_nails 60 = .ok (.invokevirtual 188, 3) := by decide +kernel
theorem dX11_nails_63 : decode cX11_nails 63 = .ok (.goto 4, 3) := by decide +kernel
theorem dX11_nails_66 : decode cX11_nails 66 = .ok (.iconst 0, 1) := by decide +kernel
theorem dX11_nails_67 : decode cX11_nails 67 = .ok (.istore 5, 2) := by decide +kernel
theorem dX11_nails_69 : decode cX11_nails 69 = .ok (.iload 5, 2) := by decide +kernel
theorem dX11_nails_71 : decode cX11_nails 71 = .ok (.ifCond .le 40, 3) := by decide +kernel
theorem dX11_nails_74 : decode cX11_nails 74 = .ok (.aload_n 0, 1) := by decide +kernel
theorem dX11_nails_75 : decode cX11_nails 75 = .ok (.getfield 65, 3) := by decide +kernel
theorem dX11_nails_78 : decode cX11_nails 78 = .ok (.iload 5, 2) := by decide +kernel
theorem dX11_nails_80 : decode cX11_nails 80 = .ok (.aload_n 0, 1) := by decide +kernel
theorem dX11_nails_81 : decode cX11_nails 81 = .ok (.getfield 10, 3) := by decide +kernel
theorem dX11_nails_84 : decode cX11_nails 84 = .ok (.aload_n 0, 1) := by decide +kernel
theorem dX11_nails_85 : decode cX11_nails 85 = .ok (.getfield 47, 3) := by decide +kernel
theorem dX11_nails_88 : decode cX11_nails 88 = .ok (.iload 4, 2) := by decide +kernel
theorem dX11_nails_90 : decode cX11_nails 90 = .ok (.aload_n 0, 1) := by decide +kernel
theorem dX11_nails_91 : decode cX11_nails 91 = .ok (.getfield 10, 3) := by decide +kernel
theorem dX11_nails_94 : decode cX11_nails 94 = .ok (.getfield 89, 3) := by decide +kernel
theorem dX11_nails_97 : decode cX11_nails 97 = .ok (.getfield 131, 3) := by decide +kernel
theorem dX11_nails_100 : decode cX11_nails 100 = .ok (.iload 4, 2) := by decide +kernel
theorem dX11_nails_102 : decode cX11_nails 102 = .ok (.bipush 10, 2) := by decide +kernel
theorem dX11_nails_104 : decode cX11_nails 104 = .ok (.imul, 1) := by decide +kernel
theorem dX11_nails_105 : decode cX11_nails 105 = .ok (.iload_n 3, 1) := by decide +kernel
theorem dX11_nails_106 : decode cX11_nails 106 = .ok (.iadd, 1) := by decide +kernel
theorem dX11_nails_107 : decode cX11_nails 107 = .ok (.iaload, 1) := by decide +kernel
theorem dX11_nails_108 : decode cX11_nails 108 = .ok (.invokevirtual 260, 3) := by decide +kernel
theorem dX11_nails_111 : decode cX11_nails 111 = .ok (.iinc 4 1, 3) := by decide +kernel
theorem dX11_nails_114 : decode cX11_nails 114 = .ok (.goto (-73), 3) := by decide +kernel
theorem dX11_nails_117 : decode cX11_nails 117 = .ok (.iinc 3 1, 3) := by decide +kernel
theorem dX11_nails_120 : decode cX11_nails 120 = .ok (.goto (-88), 3) := by decide +kernel
theorem dX11_nails_123 : decode cX11_nails 123 = .ok (.aload_n 0, 1) := by decide +kernel
theorem dX11_nails_124 : decode cX11_nails 124 = .ok (.getfield 65, 3) := by decide +kernel
theorem dX11_nails_127 : decode cX11_nails 127 = .ok (.invokevirtual 264, 3) := by decide +kernel
theorem dX11_nails_130 : decode cX11_nails 130 = .ok (.istore_n 3, 1) := by decide +kernel
theorem dX11_nails_131 : decode cX11_nails 131 = .ok (.iload_n 2, 1) := by decide +kernel
theorem dX11_nails_132 : decode cX11_nails 132 = .ok (.ifCond .ne 10, 3) := by decide +kernel
theorem dX11_nails_135 : decode cX11_nails 135 = .ok (.iload_n 3, 1) := by decide +kernel
theorem dX11_nails_136 : decode cX11_nails 136 = .ok (.invokestatic 215, 3) := by decide +kernel
theorem dX11_nails_139 : decode cX11_nails 139 = .ok (.goto 4, 3) := by decide +kernel
theorem dX11_nails_142 : decode cX11_nails 142 = .ok (.iload_n 3, 1) := by decide +kernel
theorem dX11_nails_143 : decode cX11_nails 143 = .ok (.ireturn, 1) := by decide +kernel
def ok_X11_nails_32 (K : ro_K) (v1 : Int32) (v2 : Int32) : ro_Mem → Prop := fun e => ro_X K 123 [(0, .ref (ro_ad (kG K) 0)), (2, .int v2)] [] e
def ok_X11_nails_41 (K : ro_K) (v1 : Int32) (v2 : Int32) (v3 : Int32) : ro_Mem → Prop := fun e => ro_X K 117 [(0, .ref (ro_ad (kG K) 0)), (1, .int v1), (2, .int v2), (3, .int v3)] [] e
def fj_X11_nails_67 (rec : (Int32 × ro_Mem) → Option ro_Mem) (v1 : Int32) (v2 : Int32) (v3 : Int32) (v4 : Int32) (t0 : Int32) (μ : ro_Mem) : Option ro_Mem :=
  if t0 ≤ 0 then
  (rec (v4 + 1, μ))
  else
  (if ro_in ((v4 * 10) + v3) 40 then
  ((fn_X4_add t0 v4 (μ 11 ((v4 * 10) + v3).toNatClampNeg) μ).bind fun q15 =>
  rec (v4 + 1, q15)) else none)
theorem bj_X11_nails_67 {K : ro_K} (hK : ro_C K RX11 cX11_nails 6 202) (hR : ro_R K (some .int)) {v1 : Int32} {v2 : Int32} {v3 : Int32} {v4 : Int32} {t0 : Int32}  {rec : (Int32 × ro_Mem) → Option ro_Mem} {μ : ro_Mem} (hrec : ∀ (s : Int32 × ro_Mem) (q : ro_Mem), rec s = some q → ok_X11_nails_41 K v1 v2 v3 q → ro_X K 41 [(0, .ref (ro_ad (kG K) 0)), (1, .int v1), (2, .int v2), (3, .int v3), (4, .int s.1)] [] s.2) {out : ro_Mem} (hf : fj_X11_nails_67 rec v1 v2 v3 v4 t0 μ = some out) (hq : ok_X11_nails_41 K v1 v2 v3 out) : ro_X K 67 [(0, .ref (ro_ad (kG K) 0)), (1, .int v1), (2, .int v2), (3, .int v3), (4, .int v4)] [.int t0] μ := by
  unfold fj_X11_nails_67 at hf
  refine ro_istore (L' := [(5, .int t0), (0, .ref (ro_ad (kG K) 0)), (1, .int v1), (2, .int v2), (3, .int v3), (4, .int v4)]) hK dX11_nails_67 (by decide) rfl ?_
  refine ro_iload hK 0 rfl dX11_nails_69 ?_
  refine ro_if_le hK 111 dX11_nails_71 (by decide) (fun c13 => ?_) (fun c13 => ?_)
  · have hf := ro_it hf c13
    refine ro_iinc (v := v4 + 1) (L' := [(4, .int (v4 + 1)), (5, .int t0), (0, .ref (ro_ad (kG K) 0)), (1, .int v1), (2, .int v2), (3, .int v3)]) hK 5 rfl dX11_nails_111 rfl (by decide) rfl ?_
    refine ro_goto hK 41 dX11_nails_114 (by decide) ?_
    refine ro_sub (L' := [(0, .ref (ro_ad (kG K) 0)), (1, .int v1), (2, .int v2), (3, .int v3), (4, .int (v4 + 1))]) [2, 3, 4, 5, 0] rfl ?_
    exact hrec (v4 + 1, μ) _ hf hq
  · have hf := ro_ie hf c13
    refine ro_aload_n hK 1 rfl dX11_nails_74 rfl ?_
    refine ro_getr hK fl_X11_65 sh_0 dX11_nails_75 ?_
    refine ro_iload hK 0 rfl dX11_nails_78 ?_
    refine ro_aload_n hK 1 rfl dX11_nails_80 rfl ?_
    refine ro_getr hK fl_X11_10 sh_0 dX11_nails_81 ?_
    refine ro_aload_n hK 1 rfl dX11_nails_84 rfl ?_
    refine ro_getr hK fl_X11_47 sh_0 dX11_nails_85 ?_
    refine ro_iload hK 5 rfl dX11_nails_88 ?_
    refine ro_aload_n hK 1 rfl dX11_nails_90 rfl ?_
    refine ro_getr hK fl_X11_10 sh_0 dX11_nails_91 ?_
    refine ro_getr hK fl_X11_89 sh_1 dX11_nails_94 ?_
    refine ro_getr hK fl_X11_131 sh_2 dX11_nails_97 ?_
    refine ro_iload hK 5 rfl dX11_nails_100 ?_
    refine ro_bipush (v := 10) hK dX11_nails_102 (by decide) ?_
    refine ro_imul hK dX11_nails_104 ?_
    refine ro_iload_n hK 4 rfl dX11_nails_105 rfl ?_
    refine ro_iadd hK dX11_nails_106 ?_
    obtain ⟨g14, hf⟩ := ro_gd hf
    refine ro_iald hK sh_11 g14 dX11_nails_107 ?_
    obtain ⟨q15, e16, hf⟩ := ro_bd hf
    refine ro_callvv hK [.int t0, .ref (ro_ad (kG K) 1), .ref (ro_ad (kG K) 62), .int v4, .int (μ 11 ((v4 * 10) + v3).toNatClampNeg)] ml_X11_260 mv_X4_add (mt_X4_add (kl K) (kG K)  e16) sh_76 ⟨_, rfl, rfl⟩ (by decide) rfl rfl (Nat.le_of_ble_eq_true rfl) dX11_nails_108 ?_
    refine ro_iinc (v := v4 + 1) (L' := [(4, .int (v4 + 1)), (5, .int t0), (0, .ref (ro_ad (kG K) 0)), (1, .int v1), (2, .int v2), (3, .int v3)]) hK 5 rfl dX11_nails_111 rfl (by decide) rfl ?_
    refine ro_goto hK 41 dX11_nails_114 (by decide) ?_
    refine ro_sub (L' := [(0, .ref (ro_ad (kG K) 0)), (1, .int v1), (2, .int v2), (3, .int v3), (4, .int (v4 + 1))]) [2, 3, 4, 5, 0] rfl ?_
    exact hrec (v4 + 1, q15) _ hf hq
def fb_X11_nails_41 (v1 : Int32) (v2 : Int32) (v3 : Int32) (rec : (Int32 × ro_Mem) → Option ro_Mem) (v4 : Int32) (μ : ro_Mem) : Option ro_Mem :=
  if 4 ≤ v4 then
  (some μ)
  else
  (if ((v1 >>> (v3 &&& 31)) &&& 1) = 1 then
  ((fn_X11_wetOfGuest v3 v4 μ).bind fun q17 =>
  fj_X11_nails_67 rec v1 v2 v3 v4 q17 μ)
  else
  (fj_X11_nails_67 rec v1 v2 v3 v4 0 μ))
theorem bb_X11_nails_41 {K : ro_K} (hK : ro_C K RX11 cX11_nails 6 202) (hR : ro_R K (some .int)) {v1 : Int32} {v2 : Int32} {v3 : Int32}  {μ : ro_Mem} {rec : (Int32 × ro_Mem) → Option ro_Mem} {v4 : Int32} {q : ro_Mem} (hrec : ∀ (s : Int32 × ro_Mem) (q : ro_Mem), rec s = some q → ok_X11_nails_41 K v1 v2 v3 q → ro_X K 41 [(0, .ref (ro_ad (kG K) 0)), (1, .int v1), (2, .int v2), (3, .int v3), (4, .int s.1)] [] s.2) (hf : fb_X11_nails_41 v1 v2 v3 rec v4 μ = some q) (hq : ok_X11_nails_41 K v1 v2 v3 q) : ro_X K 41 [(0, .ref (ro_ad (kG K) 0)), (1, .int v1), (2, .int v2), (3, .int v3), (4, .int v4)] [] μ := by
  unfold fb_X11_nails_41 at hf
  refine ro_iload hK 4 rfl dX11_nails_41 ?_
  refine ro_iconst (v := 4) hK dX11_nails_43 (by decide) ?_
  refine ro_icmp_ge hK 117 dX11_nails_44 (by decide) (fun c11 => ?_) (fun c11 => ?_)
  · have hf := ro_it hf c11
    refine ro_sub (L' := [(0, .ref (ro_ad (kG K) 0)), (1, .int v1), (2, .int v2), (3, .int v3)]) [0, 1, 2, 3] rfl ?_
    obtain rfl := Option.some.inj hf
    exact hq
  · have hf := ro_ie hf c11
    refine ro_iload_n hK 1 rfl dX11_nails_47 rfl ?_
    refine ro_iload_n hK 3 rfl dX11_nails_48 rfl ?_
    refine ro_ishr hK dX11_nails_49 ?_
    refine ro_iconst (v := 1) hK dX11_nails_50 (by decide) ?_
    refine ro_iand hK dX11_nails_51 ?_
    refine ro_iconst (v := 1) hK dX11_nails_52 (by decide) ?_
    refine ro_icmp_ne hK 66 dX11_nails_53 (by decide) (fun c12 => ?_) (fun c12 => ?_)
    · have hf := ro_ie hf c12
      refine ro_iconst (v := 0) hK dX11_nails_66 (by decide) ?_
      exact bj_X11_nails_67 hK hR  hrec hf hq
    · have hf := ro_it hf c12
      refine ro_aload_n hK 0 rfl dX11_nails_56 rfl ?_
      refine ro_iload_n hK 3 rfl dX11_nails_57 rfl ?_
      refine ro_iload hK 4 rfl dX11_nails_58 ?_
      obtain ⟨q17, e18, hf⟩ := ro_bd hf
      refine ro_callvi hK [.int v3, .int v4] ml_X11_188 mv_X11_wetOfGuest (mt_X11_wetOfGuest (kl K) (kG K)  e18) sh_0 ⟨_, rfl, rfl⟩ (by decide) rfl rfl (Nat.le_of_ble_eq_true rfl) dX11_nails_60 ?_
      refine ro_goto hK 67 dX11_nails_63 (by decide) ?_
      exact bj_X11_nails_67 hK hR  hrec hf hq
def fl_X11_nails_41 (v1 : Int32) (v2 : Int32) (v3 : Int32) : (Int32 × ro_Mem) → Option ro_Mem :=
  ro_loop (fun rec s => fb_X11_nails_41 v1 v2 v3 rec s.1 s.2) ro_FU
theorem lp_X11_nails_41 {K : ro_K} (hK : ro_C K RX11 cX11_nails 6 202) (hR : ro_R K (some .int)) {v1 : Int32} {v2 : Int32} {v3 : Int32}  {s : Int32 × ro_Mem} {q : ro_Mem} (hf : fl_X11_nails_41 v1 v2 v3 s = some q) (hq : ok_X11_nails_41 K v1 v2 v3 q) : ro_X K 41 [(0, .ref (ro_ad (kG K) 0)), (1, .int v1), (2, .int v2), (3, .int v3), (4, .int s.1)] [] s.2 :=
  ro_loopX (b := fun rec s => fb_X11_nails_41 v1 v2 v3 rec s.1 s.2) (X := fun s => ro_X K 41 [(0, .ref (ro_ad (kG K) 0)), (1, .int v1), (2, .int v2), (3, .int v3), (4, .int s.1)] [] s.2) (OK := ok_X11_nails_41 K v1 v2 v3) (fun rec s q hrec hb ho => bb_X11_nails_41 hK hR  hrec hb ho) ro_FU s q hf hq
def fb_X11_nails_32 (v1 : Int32) (v2 : Int32) (rec : (Int32 × ro_Mem) → Option ro_Mem) (v3 : Int32) (μ : ro_Mem) : Option ro_Mem :=
  if 10 ≤ v3 then
  (some μ)
  else
  ((fl_X11_nails_41 v1 v2 v3 (0, μ)).bind fun q19 =>
  rec (v3 + 1, q19))
theorem bb_X11_nails_32 {K : ro_K} (hK : ro_C K RX11 cX11_nails 6 202) (hR : ro_R K (some .int)) {v1 : Int32} {v2 : Int32}  {μ : ro_Mem} {rec : (Int32 × ro_Mem) → Option ro_Mem} {v3 : Int32} {q : ro_Mem} (hrec : ∀ (s : Int32 × ro_Mem) (q : ro_Mem), rec s = some q → ok_X11_nails_32 K v1 v2 q → ro_X K 32 [(0, .ref (ro_ad (kG K) 0)), (1, .int v1), (2, .int v2), (3, .int s.1)] [] s.2) (hf : fb_X11_nails_32 v1 v2 rec v3 μ = some q) (hq : ok_X11_nails_32 K v1 v2 q) : ro_X K 32 [(0, .ref (ro_ad (kG K) 0)), (1, .int v1), (2, .int v2), (3, .int v3)] [] μ := by
  unfold fb_X11_nails_32 at hf
  refine ro_iload_n hK 3 rfl dX11_nails_32 rfl ?_
  refine ro_bipush (v := 10) hK dX11_nails_33 (by decide) ?_
  refine ro_icmp_ge hK 123 dX11_nails_35 (by decide) (fun c10 => ?_) (fun c10 => ?_)
  · have hf := ro_it hf c10
    refine ro_sub (L' := [(0, .ref (ro_ad (kG K) 0)), (2, .int v2)]) [0, 2] rfl ?_
    obtain rfl := Option.some.inj hf
    exact hq
  · have hf := ro_ie hf c10
    refine ro_iconst (v := 0) hK dX11_nails_38 (by decide) ?_
    refine ro_istore (L' := [(4, .int 0), (0, .ref (ro_ad (kG K) 0)), (1, .int v1), (2, .int v2), (3, .int v3)]) hK dX11_nails_39 (by decide) rfl ?_
    obtain ⟨q19, e20, hf⟩ := ro_bd hf
    refine ro_sub (L' := [(0, .ref (ro_ad (kG K) 0)), (1, .int v1), (2, .int v2), (3, .int v3), (4, .int 0)]) [1, 2, 3, 4, 0] rfl ?_
    refine lp_X11_nails_41 hK hR  e20 ?_
    show ro_X K 117 [(0, .ref (ro_ad (kG K) 0)), (1, .int v1), (2, .int v2), (3, .int v3)] [] q19
    refine ro_iinc (v := v3 + 1) (L' := [(3, .int (v3 + 1)), (0, .ref (ro_ad (kG K) 0)), (1, .int v1), (2, .int v2)]) hK 3 rfl dX11_nails_117 rfl (by decide) rfl ?_
    refine ro_goto hK 32 dX11_nails_120 (by decide) ?_
    refine ro_sub (L' := [(0, .ref (ro_ad (kG K) 0)), (1, .int v1), (2, .int v2), (3, .int (v3 + 1))]) [1, 2, 3, 0] rfl ?_
    exact hrec (v3 + 1, q19) _ hf hq
def fl_X11_nails_32 (v1 : Int32) (v2 : Int32) : (Int32 × ro_Mem) → Option ro_Mem :=
  ro_loop (fun rec s => fb_X11_nails_32 v1 v2 rec s.1 s.2) ro_FU
theorem lp_X11_nails_32 {K : ro_K} (hK : ro_C K RX11 cX11_nails 6 202) (hR : ro_R K (some .int)) {v1 : Int32} {v2 : Int32}  {s : Int32 × ro_Mem} {q : ro_Mem} (hf : fl_X11_nails_32 v1 v2 s = some q) (hq : ok_X11_nails_32 K v1 v2 q) : ro_X K 32 [(0, .ref (ro_ad (kG K) 0)), (1, .int v1), (2, .int v2), (3, .int s.1)] [] s.2 :=
  ro_loopX (b := fun rec s => fb_X11_nails_32 v1 v2 rec s.1 s.2) (X := fun s => ro_X K 32 [(0, .ref (ro_ad (kG K) 0)), (1, .int v1), (2, .int v2), (3, .int s.1)] [] s.2) (OK := ok_X11_nails_32 K v1 v2) (fun rec s q hrec hb ho => bb_X11_nails_32 hK hR  hrec hb ho) ro_FU s q hf hq
def fn_X11_nails (v1 : Int32) (v2 : Int32) (μ : ro_Mem) : Option (Int32 × ro_Mem) :=
  (fn_X11_areGuests v1 μ).bind fun q1 =>
  if q1 = 0 then
  (some ((-1), μ))
  else
  (if v2 < 0 then
  (some ((-1), μ))
  else
  (if v2 ≤ 1 then
  ((fn_X11_refresh μ).bind fun q6 =>
  (fn_X4_clear q6).bind fun q8 =>
  (fl_X11_nails_32 v1 v2 (0, q8)).bind fun q21 =>
  (fn_X4_solve q21).bind fun q23 =>
  if v2 = 0 then
  ((fn_J6_bitCount_0f7a4 q23.1).bind fun q26 =>
  some (q26, q23.2))
  else
  (some (q23.1, q23.2)))
  else
  (some ((-1), μ))))
theorem be_X11_nails {K : ro_K} (hK : ro_C K RX11 cX11_nails 6 202) (hR : ro_R K (some .int)) {v1 : Int32} {v2 : Int32}  {μ : ro_Mem} {out : Int32 × ro_Mem} (hf : fn_X11_nails v1 v2 μ = some out) (hq : kQ K (some (.int out.1)) out.2) : ro_X K 0 [(0, .ref (ro_ad (kG K) 0)), (1, .int v1), (2, .int v2)] [] μ := by
  unfold fn_X11_nails at hf
  refine ro_aload_n hK 0 rfl dX11_nails_0 rfl ?_
  refine ro_iload_n hK 1 rfl dX11_nails_1 rfl ?_
  obtain ⟨q1, e2, hf⟩ := ro_bd hf
  refine ro_callvi hK [.int v1] ml_X11_212 mv_X11_areGuests (mt_X11_areGuests (kl K) (kG K)  e2) sh_0 ⟨_, rfl, rfl⟩ (by decide) rfl rfl (Nat.le_of_ble_eq_true rfl) dX11_nails_2 ?_
  refine ro_if_eq hK 17 dX11_nails_5 (by decide) (fun c3 => ?_) (fun c3 => ?_)
  · have hf := ro_it hf c3
    refine ro_iconst (v := (-1)) hK dX11_nails_17 (by decide) ?_
    obtain rfl := Option.some.inj hf
    exact ro_iret hK hR dX11_nails_18 hq
  · have hf := ro_ie hf c3
    refine ro_iload_n hK 2 rfl dX11_nails_8 rfl ?_
    refine ro_if_lt hK 17 dX11_nails_9 (by decide) (fun c4 => ?_) (fun c4 => ?_)
    · have hf := ro_it hf c4
      refine ro_iconst (v := (-1)) hK dX11_nails_17 (by decide) ?_
      obtain rfl := Option.some.inj hf
      exact ro_iret hK hR dX11_nails_18 hq
    · have hf := ro_ie hf c4
      refine ro_iload_n hK 2 rfl dX11_nails_12 rfl ?_
      refine ro_iconst (v := 1) hK dX11_nails_13 (by decide) ?_
      refine ro_icmp_le hK 19 dX11_nails_14 (by decide) (fun c5 => ?_) (fun c5 => ?_)
      · have hf := ro_it hf c5
        refine ro_aload_n hK 0 rfl dX11_nails_19 rfl ?_
        obtain ⟨q6, e7, hf⟩ := ro_bd hf
        refine ro_callvv hK [] ml_X11_176 mv_X11_refresh (mt_X11_refresh (kl K) (kG K)  e7) sh_0 ⟨_, rfl, rfl⟩ (by decide) rfl rfl (Nat.le_of_ble_eq_true rfl) dX11_nails_20 ?_
        refine ro_aload_n hK 0 rfl dX11_nails_23 rfl ?_
        refine ro_getr hK fl_X11_65 sh_0 dX11_nails_24 ?_
        obtain ⟨q8, e9, hf⟩ := ro_bd hf
        refine ro_callvv hK [] ml_X11_257 mv_X4_clear (mt_X4_clear (kl K) (kG K)  e9) sh_76 ⟨_, rfl, rfl⟩ (by decide) rfl rfl (Nat.le_of_ble_eq_true rfl) dX11_nails_27 ?_
        refine ro_iconst (v := 0) hK dX11_nails_30 (by decide) ?_
        refine ro_istore_n (L' := [(3, .int 0), (0, .ref (ro_ad (kG K) 0)), (1, .int v1), (2, .int v2)]) hK dX11_nails_31 rfl (by decide) rfl ?_
        obtain ⟨q21, e22, hf⟩ := ro_bd hf
        refine ro_sub (L' := [(0, .ref (ro_ad (kG K) 0)), (1, .int v1), (2, .int v2), (3, .int 0)]) [1, 2, 3, 0] rfl ?_
        refine lp_X11_nails_32 hK hR  e22 ?_
        show ro_X K 123 [(0, .ref (ro_ad (kG K) 0)), (2, .int v2)] [] q21
        refine ro_aload_n hK 0 rfl dX11_nails_123 rfl ?_
        refine ro_getr hK fl_X11_65 sh_0 dX11_nails_124 ?_
        obtain ⟨q23, e24, hf⟩ := ro_bd hf
        refine ro_callvi hK [] ml_X11_264 mv_X4_solve (mt_X4_solve (kl K) (kG K)  e24) sh_76 ⟨_, rfl, rfl⟩ (by decide) rfl rfl (Nat.le_of_ble_eq_true rfl) dX11_nails_127 ?_
        refine ro_istore_n (L' := [(3, .int q23.1), (0, .ref (ro_ad (kG K) 0)), (2, .int v2)]) hK dX11_nails_130 rfl (by decide) rfl ?_
        refine ro_iload_n hK 2 rfl dX11_nails_131 rfl ?_
        refine ro_if_ne hK 142 dX11_nails_132 (by decide) (fun c25 => ?_) (fun c25 => ?_)
        · have hf := ro_ie hf c25
          refine ro_iload_n hK 0 rfl dX11_nails_142 rfl ?_
          obtain rfl := Option.some.inj hf
          exact ro_iret hK hR dX11_nails_143 hq
        · have hf := ro_it hf c25
          refine ro_iload_n hK 0 rfl dX11_nails_135 rfl ?_
          obtain ⟨q26, e27, hf⟩ := ro_bd hf
          refine ro_callsi hK [.int q23.1] ml_X11_215 ms_J6_bitCount_0f7a4 (mt_J6_bitCount_0f7a4 (kl K) (kG K)  e27) (by decide) rfl rfl (Nat.le_of_ble_eq_true rfl) dX11_nails_136 ?_
          refine ro_goto hK 143 dX11_nails_139 (by decide) ?_
          obtain rfl := Option.some.inj hf
          exact ro_iret hK hR dX11_nails_143 hq
      · have hf := ro_ie hf c5
        refine ro_iconst (v := (-1)) hK dX11_nails_17 (by decide) ?_
        obtain rfl := Option.some.inj hf
        exact ro_iret hK hR dX11_nails_18 hq
theorem mt_X11_nails (l : Launch) (G : ro_G) {v1 : Int32} {v2 : Int32}  {μ : ro_Mem} {out : Int32 × ro_Mem} (hf : fn_X11_nails v1 v2 μ = some out) : ro_MX l G yX11_nails cX11_nails 6 (some .int) 202 [.ref (ro_ad G 0), .int v1, .int v2] μ (some (.int out.1)) out.2 := by
  refine ro_MX.of (by decide +kernel) (Nat.le_of_ble_eq_true rfl) (fun K hG hl hq hK hR => ?_)
  subst hG
  exact be_X11_nails hK hR  hf hq
-- ===== X11_sung =====
theorem dX11_sung_0 : decode cX11_sung 0 = .ok (.iload_n 1, 1) := by decide +kernel
theorem dX11_sung_1 : decode cX11_sung 1 = .ok (.ifCond .lt 50, 3) := by decide +kernel
theorem dX11_sung_4 : decode cX11_sung 4 = .ok (.iload_n 1, 1) := by decide +kernel
theorem dX11_sung_5 : decode cX11_sung 5 = .ok (.aload_n 0, 1) := by decide +kernel
theorem dX11_sung_6 : decode cX11_sung 6 = .ok (.getfield 10, 3) := by decide +kernel
theorem dX11_sung_9 : decode cX11_sung 9 = .ok (.getfield 147, 3) := by decide +kernel
theorem dX11_sung_12 : decode cX11_sung 12 = .ok (.getfield 266, 3) := by decide +kernel
theorem dX11_sung_15 : decode cX11_sung 15 = .ok (.if_icmp .ge 36, 3) := by decide +kernel
theorem dX11_sung_18 : decode cX11_sung 18 = .ok (.iload_n 2, 1) := by decide +kernel
theorem dX11_sung_19 : decode cX11_sung 19 = .ok (.iconst 1, 1) := by decide +kernel
theorem dX11_sung_20 : decode cX11_sung 20 = .ok (.if_icmp .lt 31, 3) := by decide +kernel
theorem dX11_sung_23 : decode cX11_sung 23 = .ok (.iload_n 2, 1) := by decide +kernel
theorem dX11_sung_24 : decode cX11_sung 24 = .ok (.bipush 20, 2) := by decide +kernel
theorem dX11_sung_26 : decode cX11_sung 26 = .ok (.if_icmp .gt 25, 3) := by decide +kernel
theorem dX11_sung_29 : decode cX11_sung 29 = .ok (.iload_n 3, 1) := by decide +kernel
theorem dX11_sung_30 : decode cX11_sung 30 = .ok (.ifCond .lt 21, 3) := by decide +kernel
theorem dX11_sung_33 : decode cX11_sung 33 = .ok (.iload_n 3, 1) := by decide +kernel
theorem dX11_sung_34 : decode cX11_sung 34 = .ok (.iconst 2, 1) := by decide +kernel
theorem dX11_sung_35 : decode cX11_sung 35 = .ok (.if_icmp .gt 16, 3) := by decide +kernel
theorem dX11_sung_38 : decode cX11_sung 38 = .ok (.iconst 2, 1) := by decide +kernel
theorem dX11_sung_39 : decode cX11_sung 39 = .ok (.iload_n 2, 1) := by decide +kernel
theorem dX11_sung_40 : decode cX11_sung 40 = .ok (.imul, 1) := by decide +kernel
theorem dX11_sung_41 : decode cX11_sung 41 = .ok (.aload_n 0, 1) := by decide +kernel
theorem dX11_sung_42 : decode cX11_sung 42 = .ok (.getfield 40, 3) := by decide +kernel
theorem dX11_sung_45 : decode cX11_sung 45 = .ok (.getfield 134, 3) := by decide +kernel
theorem dX11_sung_48 : decode cX11_sung 48 = .ok (.if_icmp .le 5, 3) := by decide +kernel
theorem dX11_sung_51 : decode cX11_sung 51 = .ok (.iconst (-1), 1) := by decide +kernel
theorem dX11_sung_52 : decode cX11_sung 52 = .ok (.ireturn, 1) := by decide +kernel
theorem dX11_sung_53 : decode cX11_sung 53 = .ok (.aload_n 0, 1) := by decide +kernel
theorem dX11_sung_54 : decode cX11_sung 54 = .ok (.getfield 40, 3) := by decide +kernel
theorem dX11_sung_57 : decode cX11_sung 57 = .ok (.iconst 0, 1) := by decide +kernel
theorem dX11_sung_58 : decode cX11_sung 58 = .ok (.putfield 134, 3) := by decide +kernel
theorem dX11_sung_61 : decode cX11_sung 61 = .ok (.aload_n 0, 1) := by decide +kernel
theorem dX11_sung_62 : decode cX11_sung 62 = .ok (.invokevirtual 176, 3) := by decide +kernel
theorem dX11_sung_65 : decode cX11_sung 65 = .ok (.aload_n 0, 1) := by decide +kernel
theorem dX11_sung_66 : decode cX11_sung 66 = .ok (.getfield 72, 3) := by decide +kernel
theorem dX11_sung_69 : decode cX11_sung 69 = .ok (.aload_n 0, 1) := by decide +kernel
theorem dX11_sung_70 : decode cX11_sung 70 = .ok (.getfield 10, 3) := by decide +kernel
theorem dX11_sung_73 : decode cX11_sung 73 = .ok (.getfield 147, 3) := by decide +kernel
theorem dX11_sung_76 : decode cX11_sung 76 = .ok (.iload_n 1, 1) := by decide +kernel
theorem dX11_sung_77 : decode cX11_sung 77 = .ok (.invokevirtual 269, 3) := by decide +kernel
theorem dX11_sung_80 : decode cX11_sung 80 = .ok (.iconst 0, 1) := by decide +kernel
theorem dX11_sung_81 : decode cX11_sung 81 = .ok (.istore 4, 2) := by decide +kernel
theorem dX11_sung_83 : decode cX11_sung 83 = .ok (.iload 4, 2) := by decide +kernel
theorem dX11_sung_85 : decode cX11_sung 85 = .ok (.iload_n 2, 1) := by decide +kernel
theorem dX11_sung_86 : decode cX11_sung 86 = .ok (.if_icmp .ge 64, 3) := by decide +kernel
theorem dX11_sung_89 : decode cX11_sung 89 = .ok (.aload_n 0, 1) := by decide +kernel
theorem dX11_sung_90 : decode cX11_sung 90 = .ok (.getfield 40, 3) := by decide +kernel
theorem dX11_sung_93 : decode cX11_sung 93 = .ok (.getfield 273, 3) := by decide +kernel
theorem dX11_sung_96 : decode cX11_sung 96 = .ok (.iconst 2, 1) := by decide +kernel
theorem dX11_sung_97 : decode cX11_sung 97 = .ok (.iload 4, 2) := by decide +kernel
theorem dX11_sung_99 : decode cX11_sung 99 = .ok (.imul, 1) := by decide +kernel
theorem dX11_sung_100 : decode cX11_sung 100 = .ok (.iaload, 1) := by decide +kernel
theorem dX11_sung_101 : decode cX11_sung 101 = .ok (.istore 5, 2) := by decide +kernel
theorem dX11_sung_103 : decode cX11_sung 103 = .ok (.iload 5, 2) := by decide +kernel
theorem dX11_sung_105 : decode cX11_sung 105 = .ok (.bipush 96, 2) := by decide +kernel
theorem dX11_sung_107 : decode cX11_sung 107 = .ok (.if_icmp .lt 6, 3) := by decide +kernel
theorem dX11_sung_110 : decode cX11_sung 110 = .ok (.bipush (-2), 2) := by decide +kernel
theorem dX11_sung_112 : decode cX11_sung 112 = .ok (.ireturn, 1) := by decide +kernel
theorem dX11_sung_113 : decode cX11_sung 113 = .ok (.aload_n 0, 1) := by decide +kernel
theorem dX11_sung_114 : decode cX11_sung 114 = .ok (.getfield 72, 3) := by decide +kernel
theorem dX11_sung_117 : decode cX11_sung 117 = .ok (.iload 5, 2) := by decide +kernel
theorem dX11_sung_119 : decode cX11_sung 119 = .ok (.aload_n 0, 1) := by decide +kernel
theorem dX11_sung_120 : decode cX11_sung 120 = .ok (.getfield 40, 3) := by decide +kernel
theorem dX11_sung_123 : decode cX11_sung 123 = .ok (.getfield 273, 3) := by decide +kernel
theorem dX11_sung_126 : decode cX11_sung 126 = .ok (.iconst 2, 1) := by decide +kernel
theorem dX11_sung_127 : decode cX11_sung 127 = .ok (.iload 4, 2) := by decide +kernel
theorem dX11_sung_129 : decode cX11_sung 129 = .ok (.imul, 1) := by decide +kernel
theorem dX11_sung_130 : decode cX11_sung 130 = .ok (.iconst 1, 1) := by decide +kernel
theorem dX11_sung_131 : decode cX11_sung 131 = .ok (.iadd, 1) := by decide +kernel
theorem dX11_sung_132 : decode cX11_sung 132 = .ok (.iaload, 1) := by decide +kernel
theorem dX11_sung_133 : decode cX11_sung 133 = .ok (.aload_n 0, 1) := by decide +kernel
theorem dX11_sung_134 : decode cX11_sung 134 = .ok (.getfield 10, 3) := by decide +kernel
theorem dX11_sung_137 : decode cX11_sung 137 = .ok (.aload_n 0, 1) := by decide +kernel
theorem dX11_sung_138 : decode cX11_sung 138 = .ok (.getfield 47, 3) := by decide +kernel
theorem dX11_sung_141 : decode cX11_sung 141 = .ok (.invokevirtual 276, 3) := by decide +kernel
theorem dX11_sung_144 : decode cX11_sung 144 = .ok (.iinc 4 1, 3) := by decide +kernel
theorem dX11_sung_147 : decode cX11_sung 147 = .ok (.goto (-64), 3) := by decide +kernel
theorem dX11_sung_150 : decode cX11_sung 150 = .ok (.aload_n 0, 1) := by decide +kernel
theorem dX11_sung_151 : decode cX11_sung 151 = .ok (.getfield 72, 3) := by decide +kernel
theorem dX11_sung_154 : decode cX11_sung 154 = .ok (.invokevirtual 279, 3) := by decide +kernel
theorem dX11_sung_157 : decode cX11_sung 157 = .ok (.iload_n 3, 1) := by decide +kernel
theorem dX11_sung_158 : decode cX11_sung 158 = .ok (.ifCond .ne 11, 3) := by decide +kernel
theorem dX11_sung_161 : decode cX11_sung 161 = .ok (.aload_n 0, 1) := by decide +kernel
theorem dX11_sung_162 : decode cX11_sung 162 = .ok (.getfield 72, 3) := by decide +kernel
theorem dX11_sung_165 : decode cX11_sung 165 = .ok (.getfield 281, 3) := by decide +kernel
theorem dX11_sung_168 : decode cX11_sung 168 = .ok (.ireturn, 1) := by decide +kernel
theorem dX11_sung_169 : decode cX11_sung 169 = .ok (.aload_n 0, 1) := by decide +kernel
theorem dX11_sung_170 : decode cX11_sung 170 = .ok (.getfield 72, 3) := by decide +kernel
theorem dX11_sung_173 : decode cX11_sung 173 = .ok (.getfield 281, 3) := by decide +kernel
theorem dX11_sung_176 : decode cX11_sung 176 = .ok (.ifCond .ne 6, 3) := by decide +kernel
theorem dX11_sung_179 : decode cX11_sung 179 = .ok (.bipush (-2), 2) := by decide +kernel
theorem dX11_sung_181 : decode cX11_sung 181 = .ok (.ireturn, 1) := by decide +kernel
theorem dX11_sung_182 : decode cX11_sung 182 = .ok (.iload_n 3, 1) := by decide +kernel
theorem dX11_sung_183 : decode cX11_sung 183 = .ok (.iconst 1, 1) := by decide +kernel
theorem dX11_sung_184 : decode cX11_sung 184 = .ok (.if_icmp .ne 13, 3) := by decide +kernel
theorem dX11_sung_187 : decode cX11_sung 187 = .ok (.aload_n 0, 1) := by decide +kernel
theorem dX11_sung_188 : decode cX11_sung 188 = .ok (.getfield 72, 3) := by decide +kernel
theorem dX11_sung_191 : decode cX11_sung 191 = .ok (.getfield 284, 3) := by decide +kernel
theorem dX11_sung_194 : decode cX11_sung 194 = .ok (.goto 10, 3) := by decide +kernel
theorem dX11_sung_197 : decode cX11_sung 197 = .ok (.aload_n 0, 1) := by decide +kernel
theorem dX11_sung_198 : decode cX11_sung 198 = .ok (.getfield 72, 3) := by decide +kernel
theorem dX11_sung_201 : decode cX11_sung 201 = .ok (.getfield 287, 3) := by decide +kernel
theorem dX11_sung_204 : decode cX11_sung 204 = .ok (.ireturn, 1) := by decide +kernel
def ok_X11_sung_83 (K : ro_K) (v2 : Int32) (v3 : Int32) : (ro_Mem ⊕ ro_Mem) → Prop := Sum.elim (fun e => ro_X K 110 [] [] e) (fun e => ro_X K 150 [(0, .ref (ro_ad (kG K) 0)), (3, .int v3)] [] e)
def fb_X11_sung_83 (v2 : Int32) (v3 : Int32) (rec : (Int32 × ro_Mem) → Option (ro_Mem ⊕ ro_Mem)) (v4 : Int32) (μ : ro_Mem) : Option (ro_Mem ⊕ ro_Mem) :=
  if v2 ≤ v4 then
  (some (.inr μ))
  else
  (if ro_in (2 * v4) 220 then
  (ro_lt (μ 61 (2 * v4).toNatClampNeg) fun z18 =>
  if z18 < 96 then
  (if ro_in ((2 * v4) + 1) 220 then
  ((fn_X7_add z18 (μ 61 ((2 * v4) + 1).toNatClampNeg) μ).bind fun q22 =>
  rec (v4 + 1, q22)) else none)
  else
  (some (.inl μ))) else none)
theorem bb_X11_sung_83 {K : ro_K} (hK : ro_C K RX11 cX11_sung 6 202) (hR : ro_R K (some .int)) {v2 : Int32} {v3 : Int32}  {μ : ro_Mem} {rec : (Int32 × ro_Mem) → Option (ro_Mem ⊕ ro_Mem)} {v4 : Int32} {q : (ro_Mem ⊕ ro_Mem)} (hrec : ∀ (s : Int32 × ro_Mem) (q : (ro_Mem ⊕ ro_Mem)), rec s = some q → ok_X11_sung_83 K v2 v3 q → ro_X K 83 [(0, .ref (ro_ad (kG K) 0)), (2, .int v2), (3, .int v3), (4, .int s.1)] [] s.2) (hf : fb_X11_sung_83 v2 v3 rec v4 μ = some q) (hq : ok_X11_sung_83 K v2 v3 q) : ro_X K 83 [(0, .ref (ro_ad (kG K) 0)), (2, .int v2), (3, .int v3), (4, .int v4)] [] μ := by
  unfold fb_X11_sung_83 at hf
  refine ro_iload hK 3 rfl dX11_sung_83 ?_
  refine ro_iload_n hK 1 rfl dX11_sung_85 rfl ?_
  refine ro_icmp_ge hK 150 dX11_sung_86 (by decide) (fun c16 => ?_) (fun c16 => ?_)
  · have hf := ro_it hf c16
    refine ro_sub (L' := [(0, .ref (ro_ad (kG K) 0)), (3, .int v3)]) [0, 2] rfl ?_
    obtain rfl := Option.some.inj hf
    exact hq
  · have hf := ro_ie hf c16
    refine ro_aload_n hK 0 rfl dX11_sung_89 rfl ?_
    refine ro_getr hK fl_X11_40 sh_0 dX11_sung_90 ?_
    refine ro_getr hK fl_X11_273 sh_60 dX11_sung_93 ?_
    refine ro_iconst (v := 2) hK dX11_sung_96 (by decide) ?_
    refine ro_iload hK 3 rfl dX11_sung_97 ?_
    refine ro_imul hK dX11_sung_99 ?_
    obtain ⟨g17, hf⟩ := ro_gd hf
    refine ro_iald hK sh_61 g17 dX11_sung_100 ?_
    obtain ⟨z18, e19, hf⟩ := ro_ld hf
    refine ro_iv e19 ?_
    refine ro_istore (L' := [(5, .int z18), (0, .ref (ro_ad (kG K) 0)), (2, .int v2), (3, .int v3), (4, .int v4)]) hK dX11_sung_101 (by decide) rfl ?_
    refine ro_iload hK 0 rfl dX11_sung_103 ?_
    refine ro_bipush (v := 96) hK dX11_sung_105 (by decide) ?_
    refine ro_icmp_lt hK 113 dX11_sung_107 (by decide) (fun c20 => ?_) (fun c20 => ?_)
    · have hf := ro_it hf c20
      refine ro_aload_n hK 1 rfl dX11_sung_113 rfl ?_
      refine ro_getr hK fl_X11_72 sh_0 dX11_sung_114 ?_
      refine ro_iload hK 0 rfl dX11_sung_117 ?_
      refine ro_aload_n hK 1 rfl dX11_sung_119 rfl ?_
      refine ro_getr hK fl_X11_40 sh_0 dX11_sung_120 ?_
      refine ro_getr hK fl_X11_273 sh_60 dX11_sung_123 ?_
      refine ro_iconst (v := 2) hK dX11_sung_126 (by decide) ?_
      refine ro_iload hK 4 rfl dX11_sung_127 ?_
      refine ro_imul hK dX11_sung_129 ?_
      refine ro_iconst (v := 1) hK dX11_sung_130 (by decide) ?_
      refine ro_iadd hK dX11_sung_131 ?_
      obtain ⟨g21, hf⟩ := ro_gd hf
      refine ro_iald hK sh_61 g21 dX11_sung_132 ?_
      refine ro_aload_n hK 1 rfl dX11_sung_133 rfl ?_
      refine ro_getr hK fl_X11_10 sh_0 dX11_sung_134 ?_
      refine ro_aload_n hK 1 rfl dX11_sung_137 rfl ?_
      refine ro_getr hK fl_X11_47 sh_0 dX11_sung_138 ?_
      obtain ⟨q22, e23, hf⟩ := ro_bd hf
      refine ro_callvv hK [.int z18, .int (μ 61 ((2 * v4) + 1).toNatClampNeg), .ref (ro_ad (kG K) 1), .ref (ro_ad (kG K) 62)] ml_X11_276 mv_X7_add (mt_X7_add (kl K) (kG K)  e23) sh_199 ⟨_, rfl, rfl⟩ (by decide) rfl rfl (Nat.le_of_ble_eq_true rfl) dX11_sung_141 ?_
      refine ro_iinc (v := v4 + 1) (L' := [(4, .int (v4 + 1)), (5, .int z18), (0, .ref (ro_ad (kG K) 0)), (2, .int v2), (3, .int v3)]) hK 4 rfl dX11_sung_144 rfl (by decide) rfl ?_
      refine ro_goto hK 83 dX11_sung_147 (by decide) ?_
      refine ro_sub (L' := [(0, .ref (ro_ad (kG K) 0)), (2, .int v2), (3, .int v3), (4, .int (v4 + 1))]) [2, 3, 4, 0] rfl ?_
      exact hrec (v4 + 1, q22) _ hf hq
    · have hf := ro_ie hf c20
      refine ro_sub (L' := []) [] rfl ?_
      obtain rfl := Option.some.inj hf
      exact hq
def fl_X11_sung_83 (v2 : Int32) (v3 : Int32) : (Int32 × ro_Mem) → Option (ro_Mem ⊕ ro_Mem) :=
  ro_loop (fun rec s => fb_X11_sung_83 v2 v3 rec s.1 s.2) ro_FU
theorem lp_X11_sung_83 {K : ro_K} (hK : ro_C K RX11 cX11_sung 6 202) (hR : ro_R K (some .int)) {v2 : Int32} {v3 : Int32}  {s : Int32 × ro_Mem} {q : (ro_Mem ⊕ ro_Mem)} (hf : fl_X11_sung_83 v2 v3 s = some q) (hq : ok_X11_sung_83 K v2 v3 q) : ro_X K 83 [(0, .ref (ro_ad (kG K) 0)), (2, .int v2), (3, .int v3), (4, .int s.1)] [] s.2 :=
  ro_loopX (b := fun rec s => fb_X11_sung_83 v2 v3 rec s.1 s.2) (X := fun s => ro_X K 83 [(0, .ref (ro_ad (kG K) 0)), (2, .int v2), (3, .int v3), (4, .int s.1)] [] s.2) (OK := ok_X11_sung_83 K v2 v3) (fun rec s q hrec hb ho => bb_X11_sung_83 hK hR  hrec hb ho) ro_FU s q hf hq
def fn_X11_sung (v1 : Int32) (v2 : Int32) (v3 : Int32) (μ : ro_Mem) : Option (Int32 × ro_Mem) :=
  if v1 < 0 then
  (some ((-1), μ))
  else
  (if ro_sh (ro_rf μ 1 1) = (0, 5) then
  (if (μ (ro_rf μ 1 1) 7) ≤ v1 then
  (some ((-1), μ))
  else
  (if v2 < 1 then
  (some ((-1), μ))
  else
  (if 20 < v2 then
  (some ((-1), μ))
  else
  (if v3 < 0 then
  (some ((-1), μ))
  else
  (if 2 < v3 then
  (some ((-1), μ))
  else
  (if (2 * v2) ≤ (μ 60 1) then
  (ro_lt (ro_set μ 60 1 0) fun m9 =>
  (fn_X11_refresh m9).bind fun q11 =>
  if ro_sh (ro_rf q11 1 1) = (0, 5) then
  ((fn_X7_start (ro_rf q11 1 1) v1 q11).bind fun q14 =>
  (fl_X11_sung_83 v2 v3 (0, q14)).bind fun q24 =>
  q24.elim (fun e26 => some ((-2), e26)) (fun e27 => (fn_X7_solve e27).bind fun q28 =>
  if v3 = 0 then
  (some (q28 199 0, q28))
  else
  (if (q28 199 0) = 0 then
  (some ((-2), q28))
  else
  (if v3 = 1 then
  (some (q28 199 1, q28))
  else
  (some (q28 199 2, q28)))))) else none)
  else
  (some ((-1), μ)))))))) else none)
theorem be_X11_sung {K : ro_K} (hK : ro_C K RX11 cX11_sung 6 202) (hR : ro_R K (some .int)) {v1 : Int32} {v2 : Int32} {v3 : Int32}  {μ : ro_Mem} {out : Int32 × ro_Mem} (hf : fn_X11_sung v1 v2 v3 μ = some out) (hq : kQ K (some (.int out.1)) out.2) : ro_X K 0 [(0, .ref (ro_ad (kG K) 0)), (1, .int v1), (2, .int v2), (3, .int v3)] [] μ := by
  unfold fn_X11_sung at hf
  refine ro_iload_n hK 1 rfl dX11_sung_0 rfl ?_
  refine ro_if_lt hK 51 dX11_sung_1 (by decide) (fun c1 => ?_) (fun c1 => ?_)
  · have hf := ro_it hf c1
    refine ro_iconst (v := (-1)) hK dX11_sung_51 (by decide) ?_
    obtain rfl := Option.some.inj hf
    exact ro_iret hK hR dX11_sung_52 hq
  · have hf := ro_ie hf c1
    refine ro_iload_n hK 1 rfl dX11_sung_4 rfl ?_
    refine ro_aload_n hK 0 rfl dX11_sung_5 rfl ?_
    refine ro_getr hK fl_X11_10 sh_0 dX11_sung_6 ?_
    obtain ⟨g2, hf⟩ := ro_gd hf
    refine ro_getm hK fl_X11_147 sh_1 dX11_sung_9 ?_
    refine ro_geti hK fl_X11_266 g2 dX11_sung_12 ?_
    refine ro_icmp_ge hK 51 dX11_sung_15 (by decide) (fun c3 => ?_) (fun c3 => ?_)
    · have hf := ro_it hf c3
      refine ro_iconst (v := (-1)) hK dX11_sung_51 (by decide) ?_
      obtain rfl := Option.some.inj hf
      exact ro_iret hK hR dX11_sung_52 hq
    · have hf := ro_ie hf c3
      refine ro_iload_n hK 2 rfl dX11_sung_18 rfl ?_
      refine ro_iconst (v := 1) hK dX11_sung_19 (by decide) ?_
      refine ro_icmp_lt hK 51 dX11_sung_20 (by decide) (fun c4 => ?_) (fun c4 => ?_)
      · have hf := ro_it hf c4
        refine ro_iconst (v := (-1)) hK dX11_sung_51 (by decide) ?_
        obtain rfl := Option.some.inj hf
        exact ro_iret hK hR dX11_sung_52 hq
      · have hf := ro_ie hf c4
        refine ro_iload_n hK 2 rfl dX11_sung_23 rfl ?_
        refine ro_bipush (v := 20) hK dX11_sung_24 (by decide) ?_
        refine ro_icmp_gt hK 51 dX11_sung_26 (by decide) (fun c5 => ?_) (fun c5 => ?_)
        · have hf := ro_it hf c5
          refine ro_iconst (v := (-1)) hK dX11_sung_51 (by decide) ?_
          obtain rfl := Option.some.inj hf
          exact ro_iret hK hR dX11_sung_52 hq
        · have hf := ro_ie hf c5
          refine ro_iload_n hK 3 rfl dX11_sung_29 rfl ?_
          refine ro_if_lt hK 51 dX11_sung_30 (by decide) (fun c6 => ?_) (fun c6 => ?_)
          · have hf := ro_it hf c6
            refine ro_iconst (v := (-1)) hK dX11_sung_51 (by decide) ?_
            obtain rfl := Option.some.inj hf
            exact ro_iret hK hR dX11_sung_52 hq
          · have hf := ro_ie hf c6
            refine ro_iload_n hK 3 rfl dX11_sung_33 rfl ?_
            refine ro_iconst (v := 2) hK dX11_sung_34 (by decide) ?_
            refine ro_icmp_gt hK 51 dX11_sung_35 (by decide) (fun c7 => ?_) (fun c7 => ?_)
            · have hf := ro_it hf c7
              refine ro_iconst (v := (-1)) hK dX11_sung_51 (by decide) ?_
              obtain rfl := Option.some.inj hf
              exact ro_iret hK hR dX11_sung_52 hq
            · have hf := ro_ie hf c7
              refine ro_iconst (v := 2) hK dX11_sung_38 (by decide) ?_
              refine ro_iload_n hK 2 rfl dX11_sung_39 rfl ?_
              refine ro_imul hK dX11_sung_40 ?_
              refine ro_aload_n hK 0 rfl dX11_sung_41 rfl ?_
              refine ro_getr hK fl_X11_40 sh_0 dX11_sung_42 ?_
              refine ro_geti hK fl_X11_134 sh_60 dX11_sung_45 ?_
              refine ro_icmp_le hK 53 dX11_sung_48 (by decide) (fun c8 => ?_) (fun c8 => ?_)
              · have hf := ro_it hf c8
                refine ro_aload_n hK 0 rfl dX11_sung_53 rfl ?_
                refine ro_getr hK fl_X11_40 sh_0 dX11_sung_54 ?_
                refine ro_iconst (v := 0) hK dX11_sung_57 (by decide) ?_
                obtain ⟨m9, e10, hf⟩ := ro_ld hf
                refine ro_puti hK fl_X11_134 sh_60 rfl rfl dX11_sung_58 ?_
                refine ro_mv e10 ?_
                refine ro_aload_n hK 0 rfl dX11_sung_61 rfl ?_
                obtain ⟨q11, e12, hf⟩ := ro_bd hf
                refine ro_callvv hK [] ml_X11_176 mv_X11_refresh (mt_X11_refresh (kl K) (kG K)  e12) sh_0 ⟨_, rfl, rfl⟩ (by decide) rfl rfl (Nat.le_of_ble_eq_true rfl) dX11_sung_62 ?_
                refine ro_aload_n hK 0 rfl dX11_sung_65 rfl ?_
                refine ro_getr hK fl_X11_72 sh_0 dX11_sung_66 ?_
                refine ro_aload_n hK 0 rfl dX11_sung_69 rfl ?_
                refine ro_getr hK fl_X11_10 sh_0 dX11_sung_70 ?_
                obtain ⟨g13, hf⟩ := ro_gd hf
                refine ro_getm hK fl_X11_147 sh_1 dX11_sung_73 ?_
                refine ro_iload_n hK 1 rfl dX11_sung_76 rfl ?_
                obtain ⟨q14, e15, hf⟩ := ro_bd hf
                refine ro_callvv hK [.ref (ro_ad (kG K) (ro_rf q11 1 1)), .int v1] ml_X11_269 mv_X7_start (mt_X7_start (kl K) (kG K) g13 e15) sh_199 ⟨_, rfl, rfl⟩ (by decide) rfl rfl (Nat.le_of_ble_eq_true rfl) dX11_sung_77 ?_
                refine ro_iconst (v := 0) hK dX11_sung_80 (by decide) ?_
                refine ro_istore (L' := [(4, .int 0), (0, .ref (ro_ad (kG K) 0)), (1, .int v1), (2, .int v2), (3, .int v3)]) hK dX11_sung_81 (by decide) rfl ?_
                obtain ⟨q24, e25, hf⟩ := ro_bd hf
                refine ro_sub (L' := [(0, .ref (ro_ad (kG K) 0)), (2, .int v2), (3, .int v3), (4, .int 0)]) [1, 3, 4, 0] rfl ?_
                refine lp_X11_sung_83 hK hR  e25 ?_
                rcases q24 with e26 | e27
                · have hf := ro_el hf
                  show ro_X K 110 [] [] e26
                  refine ro_bipush (v := (-2)) hK dX11_sung_110 (by decide) ?_
                  obtain rfl := Option.some.inj hf
                  exact ro_iret hK hR dX11_sung_112 hq
                · have hf := ro_er hf
                  show ro_X K 150 [(0, .ref (ro_ad (kG K) 0)), (3, .int v3)] [] e27
                  refine ro_aload_n hK 0 rfl dX11_sung_150 rfl ?_
                  refine ro_getr hK fl_X11_72 sh_0 dX11_sung_151 ?_
                  obtain ⟨q28, e29, hf⟩ := ro_bd hf
                  refine ro_callvv hK [] ml_X11_279 mv_X7_solve (mt_X7_solve (kl K) (kG K)  e29) sh_199 ⟨_, rfl, rfl⟩ (by decide) rfl rfl (Nat.le_of_ble_eq_true rfl) dX11_sung_154 ?_
                  refine ro_iload_n hK 1 rfl dX11_sung_157 rfl ?_
                  refine ro_if_ne hK 169 dX11_sung_158 (by decide) (fun c30 => ?_) (fun c30 => ?_)
                  · have hf := ro_ie hf c30
                    refine ro_aload_n hK 0 rfl dX11_sung_169 rfl ?_
                    refine ro_getr hK fl_X11_72 sh_0 dX11_sung_170 ?_
                    refine ro_geti hK fl_X11_281 sh_199 dX11_sung_173 ?_
                    refine ro_if_ne hK 182 dX11_sung_176 (by decide) (fun c31 => ?_) (fun c31 => ?_)
                    · have hf := ro_ie hf c31
                      refine ro_iload_n hK 1 rfl dX11_sung_182 rfl ?_
                      refine ro_iconst (v := 1) hK dX11_sung_183 (by decide) ?_
                      refine ro_icmp_ne hK 197 dX11_sung_184 (by decide) (fun c32 => ?_) (fun c32 => ?_)
                      · have hf := ro_ie hf c32
                        refine ro_aload_n hK 0 rfl dX11_sung_197 rfl ?_
                        refine ro_getr hK fl_X11_72 sh_0 dX11_sung_198 ?_
                        refine ro_geti hK fl_X11_287 sh_199 dX11_sung_201 ?_
                        obtain rfl := Option.some.inj hf
                        exact ro_iret hK hR dX11_sung_204 hq
                      · have hf := ro_it hf c32
                        refine ro_aload_n hK 0 rfl dX11_sung_187 rfl ?_
                        refine ro_getr hK fl_X11_72 sh_0 dX11_sung_188 ?_
                        refine ro_geti hK fl_X11_284 sh_199 dX11_sung_191 ?_
                        refine ro_goto hK 204 dX11_sung_194 (by decide) ?_
                        obtain rfl := Option.some.inj hf
                        exact ro_iret hK hR dX11_sung_204 hq
                    · have hf := ro_it hf c31
                      refine ro_bipush (v := (-2)) hK dX11_sung_179 (by decide) ?_
                      obtain rfl := Option.some.inj hf
                      exact ro_iret hK hR dX11_sung_181 hq
                  · have hf := ro_it hf c30
                    refine ro_aload_n hK 0 rfl dX11_sung_161 rfl ?_
                    refine ro_getr hK fl_X11_72 sh_0 dX11_sung_162 ?_
                    refine ro_geti hK fl_X11_281 sh_199 dX11_sung_165 ?_
                    obtain rfl := Option.some.inj hf
                    exact ro_iret hK hR dX11_sung_168 hq
              · have hf := ro_ie hf c8
                refine ro_iconst (v := (-1)) hK dX11_sung_51 (by decide) ?_
                obtain rfl := Option.some.inj hf
                exact ro_iret hK hR dX11_sung_52 hq
theorem mt_X11_sung (l : Launch) (G : ro_G) {v1 : Int32} {v2 : Int32} {v3 : Int32}  {μ : ro_Mem} {out : Int32 × ro_Mem} (hf : fn_X11_sung v1 v2 v3 μ = some out) : ro_MX l G yX11_sung cX11_sung 6 (some .int) 202 [.ref (ro_ad G 0), .int v1, .int v2, .int v3] μ (some (.int out.1)) out.2 := by
  refine ro_MX.of (by decide +kernel) (Nat.le_of_ble_eq_true rfl) (fun K hG hl hq hK hR => ?_)
  subst hG
  exact be_X11_sung hK hR  hf hq
-- ===== X11_spongeWorth =====
theorem dX11_spongeWorth_0 : decode cX11_spongeWorth 0 = .ok (.iconst 0, 1) := by decide +kernel
theorem dX11_spongeWorth_1 : decode cX11_spongeWorth 1 = .ok (.istore_n 3, 1) := by decide +kernel
theorem dX11_spongeWorth_2 : decode cX11_spongeWorth 2 = .ok (.iconst 0, 1) := by decide +kernel
theorem dX11_spongeWorth_3 : decode cX11_spongeWorth 3 = .ok (.istore 4, 2) := by decide +kernel
theorem dX11_spongeWorth_5 : decode cX11_spongeWorth 5 = .ok (.iload 4, 2) := by decide +kernel
theorem dX11_spongeWorth_7 : decode cX11_spongeWorth 7 = .ok (.iconst 4, 1) := by decide +kernel
theorem dX11_spongeWorth_8 : decode cX11_spongeWorth 8 = .ok (.if_icmp .ge 83, 3) := by decide +kernel
theorem dX11_spongeWorth_11 : decode cX11_spongeWorth 11 = .ok (.iload_n 2, 1) := by decide +kernel
theorem dX11_spongeWorth_12 : decode cX11_spongeWorth 12 = .ok (.aload_n 0, 1) := by decide +kernel
theorem dX11_spongeWorth_13 : decode cX11_spongeWorth 13 = .ok (.getfield 47, 3) := by decide +kernel
theorem dX11_spongeWorth_16 : decode cX11_spongeWorth 16 = .ok (.getfield 356, 3) := by decide +kernel
theorem dX11_spongeWorth_19 : decode cX11_spongeWorth 19 = .ok (.iload 4, 2) := by decide +kernel
theorem dX11_spongeWorth_21 : decode cX11_spongeWorth 21 = .ok (.bipush 96, 2) := by decide +kernel
theorem dX11_spongeWorth_23 : decode cX11_spongeWorth 23 = .ok (.imul, 1) := by decide +kernel
theorem dX11_spongeWorth_24 : decode cX11_spongeWorth 24 = .ok (.iload_n 1, 1) := by decide +kernel
theorem dX11_spongeWorth_25 : decode cX11_spongeWorth 25 = .ok (.iadd, 1) := by decide +kernel
theorem dX11_spongeWorth_26 : decode cX11_spongeWorth 26 = .ok (.iaload, 1) := by decide +kernel
theorem dX11_spongeWorth_27 : decode cX11_spongeWorth 27 = .ok (.invokestatic 373, 3) := by decide +kernel
theorem dX11_spongeWorth_30 : decode cX11_spongeWorth 30 = .ok (.istore 5, 2) := by decide +kernel
theorem dX11_spongeWorth_32 : decode cX11_spongeWorth 32 = .ok (.iload 5, 2) := by decide +kernel
theorem dX11_spongeWorth_34 : decode cX11_spongeWorth 34 = .ok (.ifCond .le 19, 3) := by decide +kernel
theorem dX11_spongeWorth_37 : decode cX11_spongeWorth 37 = .ok (.aload_n 0, 1) := by decide +kernel
theorem dX11_spongeWorth_38 : decode cX11_spongeWorth 38 = .ok (.getfield 10, 3) := by decide +kernel
theorem dX11_spongeWorth_41 : decode cX11_spongeWorth 41 = .ok (.getfield 89, 3) := by decide +kernel
theorem dX11_spongeWorth_44 : decode cX11_spongeWorth 44 = .ok (.iload 4, 2) := by decide +kernel
theorem dX11_spongeWorth_46 : decode cX11_spongeWorth 46 = .ok (.iload_n 1, 1) := by decide +kernel
theorem dX11_spongeWorth_47 : decode cX11_spongeWorth 47 = .ok (.invokevirtual 128, 3) := by decide +kernel
theorem dX11_spongeWorth_50 : decode cX11_spongeWorth 50 = .ok (.goto 4, 3) := by decide +kernel
theorem dX11_spongeWorth_53 : decode cX11_spongeWorth 53 = .ok (.iconst (-1), 1) := by decide +kernel
theorem dX11_spongeWorth_54 : decode cX11_spongeWorth 54 = .ok (.istore 6, 2) := by decide +kernel
theorem dX11_spongeWorth_56 : decode cX11_spongeWorth 56 = .ok (.iload_n 3, 1) := by decide +kernel
theorem dX11_spongeWorth_57 : decode cX11_spongeWorth 57 = .ok (.iload 6, 2) := by decide +kernel
theorem dX11_spongeWorth_59 : decode cX11_spongeWorth 59 = .ok (.iconst (-1), 1) := by decide +kernel
theorem dX11_spongeWorth_60 : decode cX11_spongeWorth 60 = .ok (.if_icmp .ne 7, 3) := by decide +kernel
theorem dX11_spongeWorth_63 : decode cX11_spongeWorth 63 = .ok (.iconst 0, 1) := by decide +kernel
theorem dX11_spongeWorth_64 : decode cX11_spongeWorth 64 = .ok (.goto 19, 3) := by decide +kernel
theorem dX11_spongeWorth_67 : decode cX11_spongeWorth 67 = .ok (.iload 5, 2) := by decide +kernel
theorem dX11_spongeWorth_69 : decode cX11_spongeWorth 69 = .ok (.aload_n 0, 1) := by decide +kernel
theorem dX11_spongeWorth_70 : decode cX11_spongeWorth 70 = .ok (.getfield 10, 3) := by decide +kernel
theorem dX11_spongeWorth_73 : decode cX11_spongeWorth 73 = .ok (.getfield 89, 3) := by decide +kernel
theorem dX11_spongeWorth_76 : decode cX11_spongeWorth 76 = .ok (.getfield 378, 3) := by decide +kernel
theorem dX11_spongeWorth_79 : decode cX11_spongeWorth 79 = .ok (.iload 6, 2) := by decide +kernel
theorem dX11_spongeWorth_81 : decode cX11_spongeWorth 81 = .ok (.iaload, 1) := by decide +kernel
theorem dX11_spongeWorth_82 : decode cX11_spongeWorth 82 = .ok (.imul, 1) := by decide +kernel
theorem dX11_spongeWorth_83 : decode cX11_spongeWorth 83 = .ok (.iadd, 1) := by decide +kernel
theorem dX11_spongeWorth_84 : decode cX11_spongeWorth 84 = .ok (.istore_n 3, 1) := by decide +kernel
theorem dX11_spongeWorth_85 : decode cX11_spongeWorth 85 = .ok (.iinc 4 1, 3) := by decide +kernel
theorem dX11_spongeWorth_88 : decode cX11_spongeWorth 88 = .ok (.goto (-83), 3) := by decide +kernel
theorem dX11_spongeWorth_91 : decode cX11_spongeWorth 91 = .ok (.iload_n 3, 1) := by decide +kernel
theorem dX11_spongeWorth_92 : decode cX11_spongeWorth 92 = .ok (.ireturn, 1) := by decide +kernel
def ok_X11_spongeWorth_5 (K : ro_K) (v1 : Int32) (v2 : Int32) (μ : ro_Mem) : Int32 → Prop := fun e => ro_X K 91 [(3, .int e)] [] μ
def fj_X11_spongeWorth_54 (rec : (Int32 × Int32) → Option Int32) (v1 : Int32) (v2 : Int32) (v3 : Int32) (v4 : Int32) (v5 : Int32) (t0 : Int32) (μ : ro_Mem) : Option Int32 :=
  if t0 = (-1) then
  (ro_lt (v3 + 0) fun z10 =>
  rec (z10, v4 + 1))
  else
  (if ro_in t0 10 then
  (ro_lt (v3 + (v5 * (μ 10 t0.toNatClampNeg))) fun z8 =>
  rec (z8, v4 + 1)) else none)
theorem bj_X11_spongeWorth_54 {K : ro_K} (hK : ro_C K RX11 cX11_spongeWorth 7 1) (hR : ro_R K (some .int)) {v1 : Int32} {v2 : Int32} {v3 : Int32} {v4 : Int32} {v5 : Int32} {t0 : Int32}  {rec : (Int32 × Int32) → Option Int32} {μ : ro_Mem} (hrec : ∀ (s : Int32 × Int32) (q : Int32), rec s = some q → ok_X11_spongeWorth_5 K v1 v2 μ q → ro_X K 5 [(0, .ref (ro_ad (kG K) 0)), (1, .int v1), (2, .int v2), (3, .int s.1), (4, .int s.2)] [] μ) {out : Int32} (hf : fj_X11_spongeWorth_54 rec v1 v2 v3 v4 v5 t0 μ = some out) (hq : ok_X11_spongeWorth_5 K v1 v2 μ out) : ro_X K 54 [(0, .ref (ro_ad (kG K) 0)), (1, .int v1), (2, .int v2), (3, .int v3), (4, .int v4), (5, .int v5)] [.int t0] μ := by
  unfold fj_X11_spongeWorth_54 at hf
  refine ro_istore (L' := [(6, .int t0), (0, .ref (ro_ad (kG K) 0)), (1, .int v1), (2, .int v2), (3, .int v3), (4, .int v4), (5, .int v5)]) hK dX11_spongeWorth_54 (by decide) rfl ?_
  refine ro_iload_n hK 4 rfl dX11_spongeWorth_56 rfl ?_
  refine ro_iload hK 0 rfl dX11_spongeWorth_57 ?_
  refine ro_iconst (v := (-1)) hK dX11_spongeWorth_59 (by decide) ?_
  refine ro_icmp_ne hK 67 dX11_spongeWorth_60 (by decide) (fun c6 => ?_) (fun c6 => ?_)
  · have hf := ro_ie hf c6
    refine ro_iload hK 6 rfl dX11_spongeWorth_67 ?_
    refine ro_aload_n hK 1 rfl dX11_spongeWorth_69 rfl ?_
    refine ro_getr hK fl_X11_10 sh_0 dX11_spongeWorth_70 ?_
    refine ro_getr hK fl_X11_89 sh_1 dX11_spongeWorth_73 ?_
    refine ro_getr hK fl_X11_378 sh_2 dX11_spongeWorth_76 ?_
    refine ro_iload hK 0 rfl dX11_spongeWorth_79 ?_
    obtain ⟨g7, hf⟩ := ro_gd hf
    refine ro_iald hK sh_10 g7 dX11_spongeWorth_81 ?_
    refine ro_imul hK dX11_spongeWorth_82 ?_
    refine ro_iadd hK dX11_spongeWorth_83 ?_
    obtain ⟨z8, e9, hf⟩ := ro_ld hf
    refine ro_iv e9 ?_
    refine ro_istore_n (L' := [(3, .int z8), (6, .int t0), (0, .ref (ro_ad (kG K) 0)), (1, .int v1), (2, .int v2), (4, .int v4), (5, .int v5)]) hK dX11_spongeWorth_84 rfl (by decide) rfl ?_
    refine ro_iinc (v := v4 + 1) (L' := [(4, .int (v4 + 1)), (3, .int z8), (6, .int t0), (0, .ref (ro_ad (kG K) 0)), (1, .int v1), (2, .int v2), (5, .int v5)]) hK 5 rfl dX11_spongeWorth_85 rfl (by decide) rfl ?_
    refine ro_goto hK 5 dX11_spongeWorth_88 (by decide) ?_
    refine ro_sub (L' := [(0, .ref (ro_ad (kG K) 0)), (1, .int v1), (2, .int v2), (3, .int z8), (4, .int (v4 + 1))]) [3, 4, 5, 1, 0] rfl ?_
    exact hrec (z8, v4 + 1) _ hf hq
  · have hf := ro_it hf c6
    refine ro_iconst (v := 0) hK dX11_spongeWorth_63 (by decide) ?_
    refine ro_goto hK 83 dX11_spongeWorth_64 (by decide) ?_
    refine ro_iadd hK dX11_spongeWorth_83 ?_
    obtain ⟨z10, e11, hf⟩ := ro_ld hf
    refine ro_iv e11 ?_
    refine ro_istore_n (L' := [(3, .int z10), (6, .int t0), (0, .ref (ro_ad (kG K) 0)), (1, .int v1), (2, .int v2), (4, .int v4), (5, .int v5)]) hK dX11_spongeWorth_84 rfl (by decide) rfl ?_
    refine ro_iinc (v := v4 + 1) (L' := [(4, .int (v4 + 1)), (3, .int z10), (6, .int t0), (0, .ref (ro_ad (kG K) 0)), (1, .int v1), (2, .int v2), (5, .int v5)]) hK 5 rfl dX11_spongeWorth_85 rfl (by decide) rfl ?_
    refine ro_goto hK 5 dX11_spongeWorth_88 (by decide) ?_
    refine ro_sub (L' := [(0, .ref (ro_ad (kG K) 0)), (1, .int v1), (2, .int v2), (3, .int z10), (4, .int (v4 + 1))]) [3, 4, 5, 1, 0] rfl ?_
    exact hrec (z10, v4 + 1) _ hf hq
def fb_X11_spongeWorth_5 (v1 : Int32) (v2 : Int32) (μ : ro_Mem) (rec : (Int32 × Int32) → Option Int32) (v3 : Int32) (v4 : Int32) : Option Int32 :=
  if 4 ≤ v4 then
  (some v3)
  else
  (if ro_in ((v4 * 96) + v1) 384 then
  (ro_lt (ro_mn v2 (μ 65 ((v4 * 96) + v1).toNatClampNeg)) fun z3 =>
  if z3 ≤ 0 then
  (fj_X11_spongeWorth_54 rec v1 v2 v3 v4 z3 (-1) μ)
  else
  ((fn_X1_guestOn 2 v4 v1 μ).bind fun q12 =>
  fj_X11_spongeWorth_54 rec v1 v2 v3 v4 z3 q12 μ)) else none)
theorem bb_X11_spongeWorth_5 {K : ro_K} (hK : ro_C K RX11 cX11_spongeWorth 7 1) (hR : ro_R K (some .int)) {v1 : Int32} {v2 : Int32}  {μ : ro_Mem} {rec : (Int32 × Int32) → Option Int32} {v3 : Int32} {v4 : Int32} {q : Int32} (hrec : ∀ (s : Int32 × Int32) (q : Int32), rec s = some q → ok_X11_spongeWorth_5 K v1 v2 μ q → ro_X K 5 [(0, .ref (ro_ad (kG K) 0)), (1, .int v1), (2, .int v2), (3, .int s.1), (4, .int s.2)] [] μ) (hf : fb_X11_spongeWorth_5 v1 v2 μ rec v3 v4 = some q) (hq : ok_X11_spongeWorth_5 K v1 v2 μ q) : ro_X K 5 [(0, .ref (ro_ad (kG K) 0)), (1, .int v1), (2, .int v2), (3, .int v3), (4, .int v4)] [] μ := by
  unfold fb_X11_spongeWorth_5 at hf
  refine ro_iload hK 4 rfl dX11_spongeWorth_5 ?_
  refine ro_iconst (v := 4) hK dX11_spongeWorth_7 (by decide) ?_
  refine ro_icmp_ge hK 91 dX11_spongeWorth_8 (by decide) (fun c1 => ?_) (fun c1 => ?_)
  · have hf := ro_it hf c1
    refine ro_sub (L' := [(3, .int v3)]) [3] rfl ?_
    obtain rfl := Option.some.inj hf
    exact hq
  · have hf := ro_ie hf c1
    refine ro_iload_n hK 2 rfl dX11_spongeWorth_11 rfl ?_
    refine ro_aload_n hK 0 rfl dX11_spongeWorth_12 rfl ?_
    refine ro_getr hK fl_X11_47 sh_0 dX11_spongeWorth_13 ?_
    refine ro_getr hK fl_X11_356 sh_62 dX11_spongeWorth_16 ?_
    refine ro_iload hK 4 rfl dX11_spongeWorth_19 ?_
    refine ro_bipush (v := 96) hK dX11_spongeWorth_21 (by decide) ?_
    refine ro_imul hK dX11_spongeWorth_23 ?_
    refine ro_iload_n hK 1 rfl dX11_spongeWorth_24 rfl ?_
    refine ro_iadd hK dX11_spongeWorth_25 ?_
    obtain ⟨g2, hf⟩ := ro_gd hf
    refine ro_iald hK sh_65 g2 dX11_spongeWorth_26 ?_
    refine ro_mmin hK ml_X11_373 (by decide) (Nat.le_of_ble_eq_true rfl) dX11_spongeWorth_27 ?_
    obtain ⟨z3, e4, hf⟩ := ro_ld hf
    refine ro_iv e4 ?_
    refine ro_istore (L' := [(5, .int z3), (0, .ref (ro_ad (kG K) 0)), (1, .int v1), (2, .int v2), (3, .int v3), (4, .int v4)]) hK dX11_spongeWorth_30 (by decide) rfl ?_
    refine ro_iload hK 0 rfl dX11_spongeWorth_32 ?_
    refine ro_if_le hK 53 dX11_spongeWorth_34 (by decide) (fun c5 => ?_) (fun c5 => ?_)
    · have hf := ro_it hf c5
      refine ro_iconst (v := (-1)) hK dX11_spongeWorth_53 (by decide) ?_
      refine ro_sub (L' := [(0, .ref (ro_ad (kG K) 0)), (1, .int v1), (2, .int v2), (3, .int v3), (4, .int v4), (5, .int z3)]) [1, 2, 3, 4, 5, 0] rfl ?_
      exact bj_X11_spongeWorth_54 hK hR  hrec hf hq
    · have hf := ro_ie hf c5
      refine ro_aload_n hK 1 rfl dX11_spongeWorth_37 rfl ?_
      refine ro_getr hK fl_X11_10 sh_0 dX11_spongeWorth_38 ?_
      refine ro_getr hK fl_X11_89 sh_1 dX11_spongeWorth_41 ?_
      refine ro_iload hK 5 rfl dX11_spongeWorth_44 ?_
      refine ro_iload_n hK 2 rfl dX11_spongeWorth_46 rfl ?_
      obtain ⟨q12, e13, hf⟩ := ro_bd hf
      refine ro_callvi hK [.int v4, .int v1] ml_X11_128 mv_X1_guestOn (mt_X1_guestOn (kl K) (kG K) sh_2 e13) sh_2 ⟨_, rfl, rfl⟩ (by decide) rfl rfl (Nat.le_of_ble_eq_true rfl) dX11_spongeWorth_47 ?_
      refine ro_goto hK 54 dX11_spongeWorth_50 (by decide) ?_
      refine ro_sub (L' := [(0, .ref (ro_ad (kG K) 0)), (1, .int v1), (2, .int v2), (3, .int v3), (4, .int v4), (5, .int z3)]) [1, 2, 3, 4, 5, 0] rfl ?_
      exact bj_X11_spongeWorth_54 hK hR  hrec hf hq
def fl_X11_spongeWorth_5 (v1 : Int32) (v2 : Int32) (μ : ro_Mem) : (Int32 × Int32) → Option Int32 :=
  ro_loop (fun rec s => fb_X11_spongeWorth_5 v1 v2 μ rec s.1 s.2) ro_FU
theorem lp_X11_spongeWorth_5 {K : ro_K} (hK : ro_C K RX11 cX11_spongeWorth 7 1) (hR : ro_R K (some .int)) {v1 : Int32} {v2 : Int32}  {μ : ro_Mem} {s : Int32 × Int32} {q : Int32} (hf : fl_X11_spongeWorth_5 v1 v2 μ s = some q) (hq : ok_X11_spongeWorth_5 K v1 v2 μ q) : ro_X K 5 [(0, .ref (ro_ad (kG K) 0)), (1, .int v1), (2, .int v2), (3, .int s.1), (4, .int s.2)] [] μ :=
  ro_loopX (b := fun rec s => fb_X11_spongeWorth_5 v1 v2 μ rec s.1 s.2) (X := fun s => ro_X K 5 [(0, .ref (ro_ad (kG K) 0)), (1, .int v1), (2, .int v2), (3, .int s.1), (4, .int s.2)] [] μ) (OK := ok_X11_spongeWorth_5 K v1 v2 μ) (fun rec s q hrec hb ho => bb_X11_spongeWorth_5 hK hR  hrec hb ho) ro_FU s q hf hq
def fn_X11_spongeWorth (v1 : Int32) (v2 : Int32) (μ : ro_Mem) : Option Int32 :=
  (fl_X11_spongeWorth_5 v1 v2 μ (0, 0)).bind fun q14 =>
  some q14
theorem be_X11_spongeWorth {K : ro_K} (hK : ro_C K RX11 cX11_spongeWorth 7 1) (hR : ro_R K (some .int)) {v1 : Int32} {v2 : Int32}  {μ : ro_Mem} {out : Int32} (hf : fn_X11_spongeWorth v1 v2 μ = some out) (hq : kQ K (some (.int out)) μ) : ro_X K 0 [(0, .ref (ro_ad (kG K) 0)), (1, .int v1), (2, .int v2)] [] μ := by
  unfold fn_X11_spongeWorth at hf
  refine ro_iconst (v := 0) hK dX11_spongeWorth_0 (by decide) ?_
  refine ro_istore_n (L' := [(3, .int 0), (0, .ref (ro_ad (kG K) 0)), (1, .int v1), (2, .int v2)]) hK dX11_spongeWorth_1 rfl (by decide) rfl ?_
  refine ro_iconst (v := 0) hK dX11_spongeWorth_2 (by decide) ?_
  refine ro_istore (L' := [(4, .int 0), (3, .int 0), (0, .ref (ro_ad (kG K) 0)), (1, .int v1), (2, .int v2)]) hK dX11_spongeWorth_3 (by decide) rfl ?_
  obtain ⟨q14, e15, hf⟩ := ro_bd hf
  refine ro_sub (L' := [(0, .ref (ro_ad (kG K) 0)), (1, .int v1), (2, .int v2), (3, .int 0), (4, .int 0)]) [2, 3, 4, 1, 0] rfl ?_
  refine lp_X11_spongeWorth_5 hK hR  e15 ?_
  show ro_X K 91 [(3, .int q14)] [] μ
  refine ro_iload_n hK 0 rfl dX11_spongeWorth_91 rfl ?_
  obtain rfl := Option.some.inj hf
  exact ro_iret hK hR dX11_spongeWorth_92 hq
theorem mt_X11_spongeWorth (l : Launch) (G : ro_G) {v1 : Int32} {v2 : Int32}  {μ : ro_Mem} {out : Int32} (hf : fn_X11_spongeWorth v1 v2 μ = some out) : ro_MX l G yX11_spongeWorth cX11_spongeWorth 7 (some .int) 1 [.ref (ro_ad G 0), .int v1, .int v2] μ (some (.int out)) μ := by
  refine ro_MX.of (by decide +kernel) (Nat.le_of_ble_eq_true rfl) (fun K hG hl hq hK hR => ?_)
  subst hG
  exact be_X11_spongeWorth hK hR  hf hq
