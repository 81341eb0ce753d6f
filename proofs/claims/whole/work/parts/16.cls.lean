-- ===== X6_solve =====
theorem dX6_solve_0 : decode cX6_solve 0 = .ok (.iconst 0, 1) := by decide +kernel
theorem dX6_solve_1 : decode cX6_solve 1 = .ok (.istore 5, 2) := by decide +kernel
theorem dX6_solve_3 : decode cX6_solve 3 = .ok (.iconst 0, 1) := by decide +kernel
theorem dX6_solve_4 : decode cX6_solve 4 = .ok (.istore 6, 2) := by decide +kernel
theorem dX6_solve_6 : decode cX6_solve 6 = .ok (.iload 6, 2) := by decide +kernel
theorem dX6_solve_8 : decode cX6_solve 8 = .ok (.bipush 10, 2) := by decide +kernel
theorem dX6_solve_10 : decode cX6_solve 10 = .ok (.if_icmp .ge 79, 3) := by decide +kernel
theorem dX6_solve_13 : decode cX6_solve 13 = .ok (.iload 5, 2) := by decide +kernel
theorem dX6_solve_15 : decode cX6_solve 15 = .ok (.aload_n 0, 1) := by decide +kernel
theorem dX6_solve_16 : decode cX6_solve 16 = .ok (.getfield 30, 3) := by decide +kernel
theorem dX6_solve_19 : decode cX6_solve 19 = .ok (.if_icmp .ge 70, 3) := by decide +kernel
theorem dX6_solve_22 : decode cX6_solve 22 = .ok (.iload_n 2, 1) := by decide +kernel
theorem dX6_solve_23 : decode cX6_solve 23 = .ok (.iload 6, 2) := by decide +kernel
theorem dX6_solve_25 : decode cX6_solve 25 = .ok (.ishr, 1) := by decide +kernel
theorem dX6_solve_26 : decode cX6_solve 26 = .ok (.iconst 1, 1) := by decide +kernel
theorem dX6_solve_27 : decode cX6_solve 27 = .ok (.iand, 1) := by decide +kernel
theorem dX6_solve_28 : decode cX6_solve 28 = .ok (.iconst 1, 1) := by decide +kernel
theorem dX6_solve_29 : decode cX6_solve 29 = .ok (.if_icmp .ne 54, 3) := by decide +kernel
theorem dX6_solve_32 : decode cX6_solve 32 = .ok (.aload_n 0, 1) := by decide +kernel
theorem dX6_solve_33 : decode cX6_solve 33 = .ok (.getfield 18, 3) := by decide +kernel
theorem dX6_solve_36 : decode cX6_solve 36 = .ok (.iload 5, 2) := by decide +kernel
theorem dX6_solve_38 : decode cX6_solve 38 = .ok (.iload 6, 2) := by decide +kernel
theorem dX6_solve_40 : decode cX6_solve 40 = .ok (.iastore, 1) := by decide +kernel
theorem dX6_solve_41 : decode cX6_solve 41 = .ok (.aload_n 0, 1) := by decide +kernel
theorem dX6_solve_42 : decode cX6_solve 42 = .ok (.getfield 24, 3) := by decide +kernel
theorem dX6_solve_45 : decode cX6_solve 45 = .ok (.iload 5, 2) := by decide +kernel
theorem dX6_solve_47 : decode cX6_solve 47 = .ok (.aload_n 1, 1) := by decide +kernel
theorem dX6_solve_48 : decode cX6_solve 48 = .ok (.getfield 39, 3) := by decide +kernel
theorem dX6_solve_51 : decode cX6_solve 51 = .ok (.iload 6, 2) := by decide +kernel
theorem dX6_solve_53 : decode cX6_solve 53 = .ok (.iaload, 1) := by decide +kernel
theorem dX6_solve_54 : decode cX6_solve 54 = .ok (.iastore, 1) := by decide +kernel
theorem dX6_solve_55 : decode cX6_solve 55 = .ok (.aload_n 0, 1) := by decide +kernel
theorem dX6_solve_56 : decode cX6_solve 56 = .ok (.getfield 27, 3) := by decide +kernel
theorem dX6_solve_59 : decode cX6_solve 59 = .ok (.iload 5, 2) := by decide +kernel
theorem dX6_solve_61 : decode cX6_solve 61 = .ok (.aload_n 3, 1) := by decide +kernel
theorem dX6_solve_62 : decode cX6_solve 62 = .ok (.getfield 42, 3) := by decide +kernel
theorem dX6_solve_65 : decode cX6_solve 65 = .ok (.iload 4, 2) := by decide +kernel
theorem dX6_solve_67 : decode cX6_solve 67 = .ok (.bipush 96, 2) := by decide +kernel
theorem dX6_solve_69 : decode cX6_solve 69 = .ok (.imul, 1) := by decide +kernel
theorem dX6_solve_70 : decode cX6_solve 70 = .ok (.aload_n 0, 1) := by decide +kernel
theorem dX6_solve_71 : decode cX6_solve 71 = .ok (.getfield 9, 3) := by decide +kernel
theorem dX6_solve_74 : decode cX6_solve 74 = .ok (.iload 5, 2) := by decide +kernel
theorem dX6_solve_76 : decode cX6_solve 76 = .ok (.iaload, 1) := by decide +kernel
theorem dX6_solve_77 : decode cX6_solve 77 = .ok (.iadd, 1) := by decide +kernel
theorem dX6_solve_78 : decode cX6_solve 78 = .ok (.iaload, 1) := by decide +kernel
theorem dX6_solve_79 : decode cX6_solve 79 = .ok (.iastore, 1) := by decide +kernel
theorem dX6_solve_80 : decode cX6_solve 80 = .ok (.iinc 5 1, 3) := by decide +kernel
theorem dX6_solve_83 : decode cX6_solve 83 = .ok (.iinc 6 1, 3) := by decide +kernel
theorem dX6_solve_86 : decode cX6_solve 86 = .ok (.goto (-80), 3) := by decide +kernel
theorem dX6_solve_89 : decode cX6_solve 89 = .ok (.iconst 1, 1) := by decide +kernel
theorem dX6_solve_90 : decode cX6_solve 90 = .ok (.aload_n 0, 1) := by decide +kernel
theorem dX6_solve_91 : decode cX6_solve 91 = .ok (.getfield 30, 3) := by decide +kernel
theorem dX6_solve_94 : decode cX6_solve 94 = .ok (.ishl, 1) := by decide +kernel
theorem dX6_solve_95 : decode cX6_solve 95 = .ok (.iconst 1, 1) := by decide +kernel
theorem dX6_solve_96 : decode cX6_solve 96 = .ok (.isub, 1) := by decide +kernel
theorem dX6_solve_97 : decode cX6_solve 97 = .ok (.istore 6, 2) := by decide +kernel
theorem dX6_solve_99 : decode cX6_solve 99 = .ok (.aload_n 0, 1) := by decide +kernel
theorem dX6_solve_100 : decode cX6_solve 100 = .ok (.getfield 15, 3) := by decide +kernel
theorem dX6_solve_103 : decode cX6_solve 103 = .ok (.iload 6, 2) := by decide +kernel
theorem dX6_solve_105 : decode cX6_solve 105 = .ok (.iconst 0, 1) := by decide +kernel
theorem dX6_solve_106 : decode cX6_solve 106 = .ok (.iastore, 1) := by decide +kernel
theorem dX6_solve_107 : decode cX6_solve 107 = .ok (.iload 6, 2) := by decide +kernel
theorem dX6_solve_109 : decode cX6_solve 109 = .ok (.iconst 1, 1) := by decide +kernel
theorem dX6_solve_110 : decode cX6_solve 110 = .ok (.isub, 1) := by decide +kernel
theorem dX6_solve_111 : decode cX6_solve 111 = .ok (.istore 7, 2) := by decide +kernel
theorem dX6_solve_113 : decode cX6_solve 113 = .ok (.iload 7, 2) := by decide +kernel
theorem dX6_solve_115 : decode cX6_solve 115 = .ok (.ifCond .lt 32, 3) := by decide +kernel
theorem dX6_solve_118 : decode cX6_solve 118 = .ok (.aload_n 0, 1) := by decide +kernel
theorem dX6_solve_119 : decode cX6_solve 119 = .ok (.iload 7, 2) := by decide +kernel
theorem dX6_solve_121 : decode cX6_solve 121 = .ok (.invokevirtual 45, 3) := by decide +kernel
theorem dX6_solve_124 : decode cX6_solve 124 = .ok (.istore 8, 2) := by decide +kernel
theorem dX6_solve_126 : decode cX6_solve 126 = .ok (.aload_n 0, 1) := by decide +kernel
theorem dX6_solve_127 : decode cX6_solve 127 = .ok (.getfield 15, 3) := by decide +kernel
theorem dX6_solve_130 : decode cX6_solve 130 = .ok (.iload 7, 2) := by decide +kernel
theorem dX6_solve_132 : decode cX6_solve 132 = .ok (.aload_n 0, 1) := by decide +kernel
theorem dX6_solve_133 : decode cX6_solve 133 = .ok (.iload 7, 2) := by decide +kernel
theorem dX6_solve_135 : decode cX6_solve 135 = .ok (.iload 8, 2) := by decide +kernel
theorem dX6_solve_137 : decode cX6_solve 137 = .ok (.invokevirtual 49, 3) := by decide +kernel
theorem dX6_solve_140 : decode cX6_solve 140 = .ok (.iastore, 1) := by decide +kernel
theorem dX6_solve_141 : decode cX6_solve 141 = .ok (.iinc 7 (-1), 3) := by decide +kernel
theorem dX6_solve_144 : decode cX6_solve 144 = .ok (.goto (-31), 3) := by decide +kernel
theorem dX6_solve_147 : decode cX6_solve 147 = .ok (.iconst 0, 1) := by decide +kernel
theorem dX6_solve_148 : decode cX6_solve 148 = .ok (.istore 7, 2) := by decide +kernel
theorem dX6_solve_150 : decode cX6_solve 150 = .ok (.iconst 0, 1) := by decide +kernel
theorem dX6_solve_151 : decode cX6_solve 151 = .ok (.istore 8, 2) := by decide +kernel
theorem dX6_solve_153 : decode cX6_solve 153 = .ok (.iload 8, 2) := by decide +kernel
theorem dX6_solve_155 : decode cX6_solve 155 = .ok (.aload_n 0, 1) := by decide +kernel
theorem dX6_solve_156 : decode cX6_solve 156 = .ok (.getfield 30, 3) := by decide +kernel
theorem dX6_solve_159 : decode cX6_solve 159 = .ok (.if_icmp .ge 40, 3) := by decide +kernel
theorem dX6_solve_162 : decode cX6_solve 162 = .ok (.aload_n 0, 1) := by decide +kernel
theorem dX6_solve_163 : decode cX6_solve 163 = .ok (.iload 7, 2) := by decide +kernel
theorem dX6_solve_165 : decode cX6_solve 165 = .ok (.invokevirtual 45, 3) := by decide +kernel
theorem dX6_solve_168 : decode cX6_solve 168 = .ok (.istore 9, 2) := by decide +kernel
theorem dX6_solve_170 : decode cX6_solve 170 = .ok (.aload_n 0, 1) := by decide +kernel
theorem dX6_solve_171 : decode cX6_solve 171 = .ok (.getfield 21, 3) := by decide +kernel
theorem dX6_solve_174 : decode cX6_solve 174 = .ok (.iload 8, 2) := by decide +kernel
theorem dX6_solve_176 : decode cX6_solve 176 = .ok (.aload_n 0, 1) := by decide +kernel
theorem dX6_solve_177 : decode cX6_solve 177 = .ok (.getfield 9, 3) := by decide +kernel
theorem dX6_solve_180 : decode cX6_solve 180 = .ok (.iload 9, 2) := by decide +kernel
theorem dX6_solve_182 : decode cX6_solve 182 = .ok (.iaload, 1) := by decide +kernel
theorem dX6_solve_183 : decode cX6_solve 183 = .ok (.iastore, 1) := by decide +kernel
theorem dX6_solve_184 : decode cX6_solve 184 = .ok (.iload 7, 2) := by decide +kernel
theorem dX6_solve_186 : decode cX6_solve 186 = .ok (.iconst 1, 1) := by decide +kernel
theorem dX6_solve_187 : decode cX6_solve 187 = .ok (.iload 9, 2) := by decide +kernel
theorem dX6_solve_189 : decode cX6_solve 189 = .ok (.ishl, 1) := by decide +kernel
theorem dX6_solve_190 : decode cX6_solve 190 = .ok (.ior, 1) := by decide +kernel
theorem dX6_solve_191 : decode cX6_solve 191 = .ok (.istore 7, 2) := by decide +kernel
theorem dX6_solve_193 : decode cX6_solve 193 = .ok (.iinc 8 1, 3) := by decide +kernel
theorem dX6_solve_196 : decode cX6_solve 196 = .ok (.goto (-43), 3) := by decide +kernel
theorem dX6_solve_199 : decode cX6_solve 199 = .ok (.return_, 1) := by decide +kernel
def ok_X6_solve_6 (K : ro_K) (o1 : Nat) (v2 : Int32) (v4 : Int32) : ro_Mem → Prop := fun e => ro_X K 89 [(0, .ref (ro_ad (kG K) 69))] [] e
def fb_X6_solve_6 (o1 : Nat) (v2 : Int32) (v4 : Int32) (rec : (Int32 × Int32 × ro_Mem) → Option ro_Mem) (v5 : Int32) (v6 : Int32) (μ : ro_Mem) : Option ro_Mem :=
  if 10 ≤ v6 then
  (some μ)
  else
  (if (μ 69 1) ≤ v5 then
  (some μ)
  else
  (if ((v2 >>> (v6 &&& 31)) &&& 1) = 1 then
  (if ro_in v5 8 then
  (ro_lt (ro_set μ 72 v5.toNatClampNeg v6) fun m5 =>
  if ro_in v6 10 then
  (ro_lt (ro_set m5 74 v5.toNatClampNeg (m5 (o1 + 8) v6.toNatClampNeg)) fun m8 =>
  if ro_in ((v4 * 96) + (m8 70 v5.toNatClampNeg)) 384 then
  (ro_lt (ro_set m8 75 v5.toNatClampNeg (m8 65 ((v4 * 96) + (m8 70 v5.toNatClampNeg)).toNatClampNeg)) fun m11 =>
  rec (v5 + 1, v6 + 1, m11)) else none) else none) else none)
  else
  (rec (v5, v6 + 1, μ))))
theorem bb_X6_solve_6 {K : ro_K} (hK : ro_C K RX6 cX6_solve 10 3) (hR : ro_R K none) {o1 : Nat} {v2 : Int32} {v4 : Int32} (h1 : ro_sh o1 = (0, 1)) {μ : ro_Mem} {rec : (Int32 × Int32 × ro_Mem) → Option ro_Mem} {v5 : Int32} {v6 : Int32} {q : ro_Mem} (hrec : ∀ (s : Int32 × Int32 × ro_Mem) (q : ro_Mem), rec s = some q → ok_X6_solve_6 K o1 v2 v4 q → ro_X K 6 [(0, .ref (ro_ad (kG K) 69)), (1, .ref (ro_ad (kG K) o1)), (2, .int v2), (3, .ref (ro_ad (kG K) 62)), (4, .int v4), (5, .int s.1), (6, .int s.2.1)] [] s.2.2) (hf : fb_X6_solve_6 o1 v2 v4 rec v5 v6 μ = some q) (hq : ok_X6_solve_6 K o1 v2 v4 q) : ro_X K 6 [(0, .ref (ro_ad (kG K) 69)), (1, .ref (ro_ad (kG K) o1)), (2, .int v2), (3, .ref (ro_ad (kG K) 62)), (4, .int v4), (5, .int v5), (6, .int v6)] [] μ := by
  unfold fb_X6_solve_6 at hf
  refine ro_iload hK 6 rfl dX6_solve_6 ?_
  refine ro_bipush (v := 10) hK dX6_solve_8 (by decide) ?_
  refine ro_icmp_ge hK 89 dX6_solve_10 (by decide) (fun c1 => ?_) (fun c1 => ?_)
  · have hf := ro_it hf c1
    refine ro_sub (L' := [(0, .ref (ro_ad (kG K) 69))]) [0] rfl ?_
    obtain rfl := Option.some.inj hf
    exact hq
  · have hf := ro_ie hf c1
    refine ro_iload hK 5 rfl dX6_solve_13 ?_
    refine ro_aload_n hK 0 rfl dX6_solve_15 rfl ?_
    refine ro_geti hK fl_X6_30 sh_69 dX6_solve_16 ?_
    refine ro_icmp_ge hK 89 dX6_solve_19 (by decide) (fun c2 => ?_) (fun c2 => ?_)
    · have hf := ro_it hf c2
      refine ro_sub (L' := [(0, .ref (ro_ad (kG K) 69))]) [0] rfl ?_
      obtain rfl := Option.some.inj hf
      exact hq
    · have hf := ro_ie hf c2
      refine ro_iload_n hK 2 rfl dX6_solve_22 rfl ?_
      refine ro_iload hK 6 rfl dX6_solve_23 ?_
      refine ro_ishr hK dX6_solve_25 ?_
      refine ro_iconst (v := 1) hK dX6_solve_26 (by decide) ?_
      refine ro_iand hK dX6_solve_27 ?_
      refine ro_iconst (v := 1) hK dX6_solve_28 (by decide) ?_
      refine ro_icmp_ne hK 83 dX6_solve_29 (by decide) (fun c3 => ?_) (fun c3 => ?_)
      · have hf := ro_ie hf c3
        refine ro_iinc (v := v6 + 1) (L' := [(6, .int (v6 + 1)), (0, .ref (ro_ad (kG K) 69)), (1, .ref (ro_ad (kG K) o1)), (2, .int v2), (3, .ref (ro_ad (kG K) 62)), (4, .int v4), (5, .int v5)]) hK 6 rfl dX6_solve_83 rfl (by decide) rfl ?_
        refine ro_goto hK 6 dX6_solve_86 (by decide) ?_
        refine ro_sub (L' := [(0, .ref (ro_ad (kG K) 69)), (1, .ref (ro_ad (kG K) o1)), (2, .int v2), (3, .ref (ro_ad (kG K) 62)), (4, .int v4), (5, .int v5), (6, .int (v6 + 1))]) [1, 2, 3, 4, 5, 6, 0] rfl ?_
        exact hrec (v5, v6 + 1, μ) _ hf hq
      · have hf := ro_it hf c3
        refine ro_aload_n hK 0 rfl dX6_solve_32 rfl ?_
        refine ro_getr hK fl_X6_18 sh_69 dX6_solve_33 ?_
        refine ro_iload hK 5 rfl dX6_solve_36 ?_
        refine ro_iload hK 6 rfl dX6_solve_38 ?_
        obtain ⟨g4, hf⟩ := ro_gd hf
        obtain ⟨m5, e6, hf⟩ := ro_ld hf
        refine ro_iast hK sh_72 g4 dX6_solve_40 ?_
        refine ro_mv e6 ?_
        refine ro_aload_n hK 0 rfl dX6_solve_41 rfl ?_
        refine ro_getr hK fl_X6_24 sh_69 dX6_solve_42 ?_
        refine ro_iload hK 5 rfl dX6_solve_45 ?_
        refine ro_aload_n hK 1 rfl dX6_solve_47 rfl ?_
        refine ro_getr hK fl_X6_39 h1 dX6_solve_48 ?_
        refine ro_iload hK 6 rfl dX6_solve_51 ?_
        obtain ⟨g7, hf⟩ := ro_gd hf
        refine ro_iald hK (so_1_8 h1) g7 dX6_solve_53 ?_
        obtain ⟨m8, e9, hf⟩ := ro_ld hf
        refine ro_iast hK sh_74 g4 dX6_solve_54 ?_
        refine ro_mv e9 ?_
        refine ro_aload_n hK 0 rfl dX6_solve_55 rfl ?_
        refine ro_getr hK fl_X6_27 sh_69 dX6_solve_56 ?_
        refine ro_iload hK 5 rfl dX6_solve_59 ?_
        refine ro_aload_n hK 3 rfl dX6_solve_61 rfl ?_
        refine ro_getr hK fl_X6_42 sh_62 dX6_solve_62 ?_
        refine ro_iload hK 4 rfl dX6_solve_65 ?_
        refine ro_bipush (v := 96) hK dX6_solve_67 (by decide) ?_
        refine ro_imul hK dX6_solve_69 ?_
        refine ro_aload_n hK 0 rfl dX6_solve_70 rfl ?_
        refine ro_getr hK fl_X6_9 sh_69 dX6_solve_71 ?_
        refine ro_iload hK 5 rfl dX6_solve_74 ?_
        refine ro_iald hK sh_70 g4 dX6_solve_76 ?_
        refine ro_iadd hK dX6_solve_77 ?_
        obtain ⟨g10, hf⟩ := ro_gd hf
        refine ro_iald hK sh_65 g10 dX6_solve_78 ?_
        obtain ⟨m11, e12, hf⟩ := ro_ld hf
        refine ro_iast hK sh_75 g4 dX6_solve_79 ?_
        refine ro_mv e12 ?_
        refine ro_iinc (v := v5 + 1) (L' := [(5, .int (v5 + 1)), (0, .ref (ro_ad (kG K) 69)), (1, .ref (ro_ad (kG K) o1)), (2, .int v2), (3, .ref (ro_ad (kG K) 62)), (4, .int v4), (6, .int v6)]) hK 5 rfl dX6_solve_80 rfl (by decide) rfl ?_
        refine ro_iinc (v := v6 + 1) (L' := [(6, .int (v6 + 1)), (5, .int (v5 + 1)), (0, .ref (ro_ad (kG K) 69)), (1, .ref (ro_ad (kG K) o1)), (2, .int v2), (3, .ref (ro_ad (kG K) 62)), (4, .int v4)]) hK 6 rfl dX6_solve_83 rfl (by decide) rfl ?_
        refine ro_goto hK 6 dX6_solve_86 (by decide) ?_
        refine ro_sub (L' := [(0, .ref (ro_ad (kG K) 69)), (1, .ref (ro_ad (kG K) o1)), (2, .int v2), (3, .ref (ro_ad (kG K) 62)), (4, .int v4), (5, .int (v5 + 1)), (6, .int (v6 + 1))]) [2, 3, 4, 5, 6, 1, 0] rfl ?_
        exact hrec (v5 + 1, v6 + 1, m11) _ hf hq
def fl_X6_solve_6 (o1 : Nat) (v2 : Int32) (v4 : Int32) : (Int32 × Int32 × ro_Mem) → Option ro_Mem :=
  ro_loop (fun rec s => fb_X6_solve_6 o1 v2 v4 rec s.1 s.2.1 s.2.2) ro_FU
theorem lp_X6_solve_6 {K : ro_K} (hK : ro_C K RX6 cX6_solve 10 3) (hR : ro_R K none) {o1 : Nat} {v2 : Int32} {v4 : Int32} (h1 : ro_sh o1 = (0, 1)) {s : Int32 × Int32 × ro_Mem} {q : ro_Mem} (hf : fl_X6_solve_6 o1 v2 v4 s = some q) (hq : ok_X6_solve_6 K o1 v2 v4 q) : ro_X K 6 [(0, .ref (ro_ad (kG K) 69)), (1, .ref (ro_ad (kG K) o1)), (2, .int v2), (3, .ref (ro_ad (kG K) 62)), (4, .int v4), (5, .int s.1), (6, .int s.2.1)] [] s.2.2 :=
  ro_loopX (b := fun rec s => fb_X6_solve_6 o1 v2 v4 rec s.1 s.2.1 s.2.2) (X := fun s => ro_X K 6 [(0, .ref (ro_ad (kG K) 69)), (1, .ref (ro_ad (kG K) o1)), (2, .int v2), (3, .ref (ro_ad (kG K) 62)), (4, .int v4), (5, .int s.1), (6, .int s.2.1)] [] s.2.2) (OK := ok_X6_solve_6 K o1 v2 v4) (fun rec s q hrec hb ho => bb_X6_solve_6 hK hR h1 hrec hb ho) ro_FU s q hf hq
def ok_X6_solve_113 (K : ro_K)  : ro_Mem → Prop := fun e => ro_X K 147 [(0, .ref (ro_ad (kG K) 69))] [] e
def fb_X6_solve_113  (rec : (Int32 × ro_Mem) → Option ro_Mem) (v7 : Int32) (μ : ro_Mem) : Option ro_Mem :=
  if v7 < 0 then
  (some μ)
  else
  ((fn_X6_firstBest v7 μ).bind fun q23 =>
  (fn_X6_costWith v7 q23 μ).bind fun q25 =>
  if ro_in v7 256 then
  (ro_lt (ro_set μ 71 v7.toNatClampNeg q25) fun m28 =>
  rec (v7 + (-1), m28)) else none)
theorem bb_X6_solve_113 {K : ro_K} (hK : ro_C K RX6 cX6_solve 10 3) (hR : ro_R K none)   {μ : ro_Mem} {rec : (Int32 × ro_Mem) → Option ro_Mem} {v7 : Int32} {q : ro_Mem} (hrec : ∀ (s : Int32 × ro_Mem) (q : ro_Mem), rec s = some q → ok_X6_solve_113 K q → ro_X K 113 [(0, .ref (ro_ad (kG K) 69)), (7, .int s.1)] [] s.2) (hf : fb_X6_solve_113 rec v7 μ = some q) (hq : ok_X6_solve_113 K q) : ro_X K 113 [(0, .ref (ro_ad (kG K) 69)), (7, .int v7)] [] μ := by
  unfold fb_X6_solve_113 at hf
  refine ro_iload hK 1 rfl dX6_solve_113 ?_
  refine ro_if_lt hK 147 dX6_solve_115 (by decide) (fun c22 => ?_) (fun c22 => ?_)
  · have hf := ro_it hf c22
    refine ro_sub (L' := [(0, .ref (ro_ad (kG K) 69))]) [0] rfl ?_
    obtain rfl := Option.some.inj hf
    exact hq
  · have hf := ro_ie hf c22
    refine ro_aload_n hK 0 rfl dX6_solve_118 rfl ?_
    refine ro_iload hK 1 rfl dX6_solve_119 ?_
    obtain ⟨q23, e24, hf⟩ := ro_bd hf
    refine ro_callvi hK [.int v7] ml_X6_45 mv_X6_firstBest (mt_X6_firstBest (kl K) (kG K)  e24) sh_69 ⟨_, rfl, rfl⟩ (by decide) rfl rfl (Nat.le_of_ble_eq_true rfl) dX6_solve_121 ?_
    refine ro_istore (L' := [(8, .int q23), (0, .ref (ro_ad (kG K) 69)), (7, .int v7)]) hK dX6_solve_124 (by decide) rfl ?_
    refine ro_aload_n hK 1 rfl dX6_solve_126 rfl ?_
    refine ro_getr hK fl_X6_15 sh_69 dX6_solve_127 ?_
    refine ro_iload hK 2 rfl dX6_solve_130 ?_
    refine ro_aload_n hK 1 rfl dX6_solve_132 rfl ?_
    refine ro_iload hK 2 rfl dX6_solve_133 ?_
    refine ro_iload hK 0 rfl dX6_solve_135 ?_
    obtain ⟨q25, e26, hf⟩ := ro_bd hf
    refine ro_callvi hK [.int v7, .int q23] ml_X6_49 mv_X6_costWith (mt_X6_costWith (kl K) (kG K)  e26) sh_69 ⟨_, rfl, rfl⟩ (by decide) rfl rfl (Nat.le_of_ble_eq_true rfl) dX6_solve_137 ?_
    obtain ⟨g27, hf⟩ := ro_gd hf
    obtain ⟨m28, e29, hf⟩ := ro_ld hf
    refine ro_iast hK sh_71 g27 dX6_solve_140 ?_
    refine ro_mv e29 ?_
    refine ro_iinc (v := v7 + (-1)) (L' := [(7, .int (v7 + (-1))), (8, .int q23), (0, .ref (ro_ad (kG K) 69))]) hK 2 rfl dX6_solve_141 rfl (by decide) rfl ?_
    refine ro_goto hK 113 dX6_solve_144 (by decide) ?_
    refine ro_sub (L' := [(0, .ref (ro_ad (kG K) 69)), (7, .int (v7 + (-1)))]) [2, 0] rfl ?_
    exact hrec (v7 + (-1), m28) _ hf hq
def fl_X6_solve_113  : (Int32 × ro_Mem) → Option ro_Mem :=
  ro_loop (fun rec s => fb_X6_solve_113 rec s.1 s.2) ro_FU
theorem lp_X6_solve_113 {K : ro_K} (hK : ro_C K RX6 cX6_solve 10 3) (hR : ro_R K none)   {s : Int32 × ro_Mem} {q : ro_Mem} (hf : fl_X6_solve_113 s = some q) (hq : ok_X6_solve_113 K q) : ro_X K 113 [(0, .ref (ro_ad (kG K) 69)), (7, .int s.1)] [] s.2 :=
  ro_loopX (b := fun rec s => fb_X6_solve_113 rec s.1 s.2) (X := fun s => ro_X K 113 [(0, .ref (ro_ad (kG K) 69)), (7, .int s.1)] [] s.2) (OK := ok_X6_solve_113 K) (fun rec s q hrec hb ho => bb_X6_solve_113 hK hR  hrec hb ho) ro_FU s q hf hq
def ok_X6_solve_153 (K : ro_K)  : ro_Mem → Prop := fun e => ro_X K 199 [] [] e
def fb_X6_solve_153  (rec : (Int32 × Int32 × ro_Mem) → Option ro_Mem) (v7 : Int32) (v8 : Int32) (μ : ro_Mem) : Option ro_Mem :=
  if (μ 69 1) ≤ v8 then
  (some μ)
  else
  ((fn_X6_firstBest v7 μ).bind fun q33 =>
  if ro_in q33 8 then
  (if ro_in v8 8 then
  (ro_lt (ro_set μ 73 v8.toNatClampNeg (μ 70 q33.toNatClampNeg)) fun m37 =>
  ro_lt (v7 ||| ((1 : Int32) <<< (q33 &&& 31))) fun z39 =>
  rec (z39, v8 + 1, m37)) else none) else none)
theorem bb_X6_solve_153 {K : ro_K} (hK : ro_C K RX6 cX6_solve 10 3) (hR : ro_R K none)   {μ : ro_Mem} {rec : (Int32 × Int32 × ro_Mem) → Option ro_Mem} {v7 : Int32} {v8 : Int32} {q : ro_Mem} (hrec : ∀ (s : Int32 × Int32 × ro_Mem) (q : ro_Mem), rec s = some q → ok_X6_solve_153 K q → ro_X K 153 [(0, .ref (ro_ad (kG K) 69)), (7, .int s.1), (8, .int s.2.1)] [] s.2.2) (hf : fb_X6_solve_153 rec v7 v8 μ = some q) (hq : ok_X6_solve_153 K q) : ro_X K 153 [(0, .ref (ro_ad (kG K) 69)), (7, .int v7), (8, .int v8)] [] μ := by
  unfold fb_X6_solve_153 at hf
  refine ro_iload hK 2 rfl dX6_solve_153 ?_
  refine ro_aload_n hK 0 rfl dX6_solve_155 rfl ?_
  refine ro_geti hK fl_X6_30 sh_69 dX6_solve_156 ?_
  refine ro_icmp_ge hK 199 dX6_solve_159 (by decide) (fun c32 => ?_) (fun c32 => ?_)
  · have hf := ro_it hf c32
    refine ro_sub (L' := []) [] rfl ?_
    obtain rfl := Option.some.inj hf
    exact hq
  · have hf := ro_ie hf c32
    refine ro_aload_n hK 0 rfl dX6_solve_162 rfl ?_
    refine ro_iload hK 1 rfl dX6_solve_163 ?_
    obtain ⟨q33, e34, hf⟩ := ro_bd hf
    refine ro_callvi hK [.int v7] ml_X6_45 mv_X6_firstBest (mt_X6_firstBest (kl K) (kG K)  e34) sh_69 ⟨_, rfl, rfl⟩ (by decide) rfl rfl (Nat.le_of_ble_eq_true rfl) dX6_solve_165 ?_
    refine ro_istore (L' := [(9, .int q33), (0, .ref (ro_ad (kG K) 69)), (7, .int v7), (8, .int v8)]) hK dX6_solve_168 (by decide) rfl ?_
    refine ro_aload_n hK 1 rfl dX6_solve_170 rfl ?_
    refine ro_getr hK fl_X6_21 sh_69 dX6_solve_171 ?_
    refine ro_iload hK 3 rfl dX6_solve_174 ?_
    refine ro_aload_n hK 1 rfl dX6_solve_176 rfl ?_
    refine ro_getr hK fl_X6_9 sh_69 dX6_solve_177 ?_
    refine ro_iload hK 0 rfl dX6_solve_180 ?_
    obtain ⟨g35, hf⟩ := ro_gd hf
    refine ro_iald hK sh_70 g35 dX6_solve_182 ?_
    obtain ⟨g36, hf⟩ := ro_gd hf
    obtain ⟨m37, e38, hf⟩ := ro_ld hf
    refine ro_iast hK sh_73 g36 dX6_solve_183 ?_
    refine ro_mv e38 ?_
    refine ro_iload hK 2 rfl dX6_solve_184 ?_
    refine ro_iconst (v := 1) hK dX6_solve_186 (by decide) ?_
    refine ro_iload hK 0 rfl dX6_solve_187 ?_
    refine ro_ishl hK dX6_solve_189 ?_
    refine ro_ior hK dX6_solve_190 ?_
    obtain ⟨z39, e40, hf⟩ := ro_ld hf
    refine ro_iv e40 ?_
    refine ro_istore (L' := [(7, .int z39), (9, .int q33), (0, .ref (ro_ad (kG K) 69)), (8, .int v8)]) hK dX6_solve_191 (by decide) rfl ?_
    refine ro_iinc (v := v8 + 1) (L' := [(8, .int (v8 + 1)), (7, .int z39), (9, .int q33), (0, .ref (ro_ad (kG K) 69))]) hK 3 rfl dX6_solve_193 rfl (by decide) rfl ?_
    refine ro_goto hK 153 dX6_solve_196 (by decide) ?_
    refine ro_sub (L' := [(0, .ref (ro_ad (kG K) 69)), (7, .int z39), (8, .int (v8 + 1))]) [3, 1, 0] rfl ?_
    exact hrec (z39, v8 + 1, m37) _ hf hq
def fl_X6_solve_153  : (Int32 × Int32 × ro_Mem) → Option ro_Mem :=
  ro_loop (fun rec s => fb_X6_solve_153 rec s.1 s.2.1 s.2.2) ro_FU
theorem lp_X6_solve_153 {K : ro_K} (hK : ro_C K RX6 cX6_solve 10 3) (hR : ro_R K none)   {s : Int32 × Int32 × ro_Mem} {q : ro_Mem} (hf : fl_X6_solve_153 s = some q) (hq : ok_X6_solve_153 K q) : ro_X K 153 [(0, .ref (ro_ad (kG K) 69)), (7, .int s.1), (8, .int s.2.1)] [] s.2.2 :=
  ro_loopX (b := fun rec s => fb_X6_solve_153 rec s.1 s.2.1 s.2.2) (X := fun s => ro_X K 153 [(0, .ref (ro_ad (kG K) 69)), (7, .int s.1), (8, .int s.2.1)] [] s.2.2) (OK := ok_X6_solve_153 K) (fun rec s q hrec hb ho => bb_X6_solve_153 hK hR  hrec hb ho) ro_FU s q hf hq
def fj_X6_solve_89 (μ : ro_Mem) : Option ro_Mem :=
  ro_lt (((1 : Int32) <<< ((μ 69 1) &&& 31)) - 1) fun z15 =>
  if ro_in z15 256 then
  (ro_lt (ro_set μ 71 z15.toNatClampNeg 0) fun m18 =>
  ro_lt (z15 - 1) fun z20 =>
  (fl_X6_solve_113  (z20, m18)).bind fun q30 =>
  (fl_X6_solve_153  (0, 0, q30)).bind fun q41 =>
  some q41) else none
theorem bj_X6_solve_89 {K : ro_K} (hK : ro_C K RX6 cX6_solve 10 3) (hR : ro_R K none)    {μ : ro_Mem}  {out : ro_Mem} (hf : fj_X6_solve_89 μ = some out) (hq : kQ K none out) : ro_X K 89 [(0, .ref (ro_ad (kG K) 69))] [] μ := by
  unfold fj_X6_solve_89 at hf
  refine ro_iconst (v := 1) hK dX6_solve_89 (by decide) ?_
  refine ro_aload_n hK 0 rfl dX6_solve_90 rfl ?_
  refine ro_geti hK fl_X6_30 sh_69 dX6_solve_91 ?_
  refine ro_ishl hK dX6_solve_94 ?_
  refine ro_iconst (v := 1) hK dX6_solve_95 (by decide) ?_
  refine ro_isub hK dX6_solve_96 ?_
  obtain ⟨z15, e16, hf⟩ := ro_ld hf
  refine ro_iv e16 ?_
  refine ro_istore (L' := [(6, .int z15), (0, .ref (ro_ad (kG K) 69))]) hK dX6_solve_97 (by decide) rfl ?_
  refine ro_aload_n hK 1 rfl dX6_solve_99 rfl ?_
  refine ro_getr hK fl_X6_15 sh_69 dX6_solve_100 ?_
  refine ro_iload hK 0 rfl dX6_solve_103 ?_
  refine ro_iconst (v := 0) hK dX6_solve_105 (by decide) ?_
  obtain ⟨g17, hf⟩ := ro_gd hf
  obtain ⟨m18, e19, hf⟩ := ro_ld hf
  refine ro_iast hK sh_71 g17 dX6_solve_106 ?_
  refine ro_mv e19 ?_
  refine ro_iload hK 0 rfl dX6_solve_107 ?_
  refine ro_iconst (v := 1) hK dX6_solve_109 (by decide) ?_
  refine ro_isub hK dX6_solve_110 ?_
  obtain ⟨z20, e21, hf⟩ := ro_ld hf
  refine ro_iv e21 ?_
  refine ro_istore (L' := [(7, .int z20), (6, .int z15), (0, .ref (ro_ad (kG K) 69))]) hK dX6_solve_111 (by decide) rfl ?_
  obtain ⟨q30, e31, hf⟩ := ro_bd hf
  refine ro_sub (L' := [(0, .ref (ro_ad (kG K) 69)), (7, .int z20)]) [2, 0] rfl ?_
  refine lp_X6_solve_113 hK hR  e31 ?_
  show ro_X K 147 [(0, .ref (ro_ad (kG K) 69))] [] q30
  refine ro_iconst (v := 0) hK dX6_solve_147 (by decide) ?_
  refine ro_istore (L' := [(7, .int 0), (0, .ref (ro_ad (kG K) 69))]) hK dX6_solve_148 (by decide) rfl ?_
  refine ro_iconst (v := 0) hK dX6_solve_150 (by decide) ?_
  refine ro_istore (L' := [(8, .int 0), (7, .int 0), (0, .ref (ro_ad (kG K) 69))]) hK dX6_solve_151 (by decide) rfl ?_
  obtain ⟨q41, e42, hf⟩ := ro_bd hf
  refine ro_sub (L' := [(0, .ref (ro_ad (kG K) 69)), (7, .int 0), (8, .int 0)]) [2, 1, 0] rfl ?_
  refine lp_X6_solve_153 hK hR  e42 ?_
  show ro_X K 199 [] [] q41
  obtain rfl := Option.some.inj hf
  exact ro_vret hK hR dX6_solve_199 hq
def fn_X6_solve (o1 : Nat) (v2 : Int32) (v4 : Int32) (μ : ro_Mem) : Option ro_Mem :=
  (fl_X6_solve_6 o1 v2 v4 (0, 0, μ)).bind fun q13 =>
  fj_X6_solve_89 q13
theorem be_X6_solve {K : ro_K} (hK : ro_C K RX6 cX6_solve 10 3) (hR : ro_R K none) {o1 : Nat} {v2 : Int32} {v4 : Int32} (h1 : ro_sh o1 = (0, 1)) {μ : ro_Mem} {out : ro_Mem} (hf : fn_X6_solve o1 v2 v4 μ = some out) (hq : kQ K none out) : ro_X K 0 [(0, .ref (ro_ad (kG K) 69)), (1, .ref (ro_ad (kG K) o1)), (2, .int v2), (3, .ref (ro_ad (kG K) 62)), (4, .int v4)] [] μ := by
  unfold fn_X6_solve at hf
  refine ro_iconst (v := 0) hK dX6_solve_0 (by decide) ?_
  refine ro_istore (L' := [(5, .int 0), (0, .ref (ro_ad (kG K) 69)), (1, .ref (ro_ad (kG K) o1)), (2, .int v2), (3, .ref (ro_ad (kG K) 62)), (4, .int v4)]) hK dX6_solve_1 (by decide) rfl ?_
  refine ro_iconst (v := 0) hK dX6_solve_3 (by decide) ?_
  refine ro_istore (L' := [(6, .int 0), (5, .int 0), (0, .ref (ro_ad (kG K) 69)), (1, .ref (ro_ad (kG K) o1)), (2, .int v2), (3, .ref (ro_ad (kG K) 62)), (4, .int v4)]) hK dX6_solve_4 (by decide) rfl ?_
  obtain ⟨q13, e14, hf⟩ := ro_bd hf
  refine ro_sub (L' := [(0, .ref (ro_ad (kG K) 69)), (1, .ref (ro_ad (kG K) o1)), (2, .int v2), (3, .ref (ro_ad (kG K) 62)), (4, .int v4), (5, .int 0), (6, .int 0)]) [2, 3, 4, 5, 6, 1, 0] rfl ?_
  refine lp_X6_solve_6 hK hR h1 e14 ?_
  show ro_X K 89 [(0, .ref (ro_ad (kG K) 69))] [] q13
  exact bj_X6_solve_89 hK hR  hf hq
theorem mt_X6_solve (l : Launch) (G : ro_G) {o1 : Nat} {v2 : Int32} {v4 : Int32} (h1 : ro_sh o1 = (0, 1)) {μ : ro_Mem} {out : ro_Mem} (hf : fn_X6_solve o1 v2 v4 μ = some out) : ro_MX l G yX6_solve cX6_solve 10 none 3 [.ref (ro_ad G 69), .ref (ro_ad G o1), .int v2, .ref (ro_ad G 62), .int v4] μ none out := by
  refine ro_MX.of (by decide +kernel) (Nat.le_of_ble_eq_true rfl) (fun K hG hl hq hK hR => ?_)
  subst hG
  exact be_X6_solve hK hR h1 hf hq
-- ===== X6_seatOf =====
theorem dX6_seatOf_0 : decode cX6_seatOf 0 = .ok (.iconst 0, 1) := by decide +kernel
theorem dX6_seatOf_1 : decode cX6_seatOf 1 = .ok (.istore_n 2, 1) := by decide +kernel
theorem dX6_seatOf_2 : decode cX6_seatOf 2 = .ok (.iload_n 2, 1) := by decide +kernel
theorem dX6_seatOf_3 : decode cX6_seatOf 3 = .ok (.aload_n 0, 1) := by decide +kernel
theorem dX6_seatOf_4 : decode cX6_seatOf 4 = .ok (.getfield 30, 3) := by decide +kernel
theorem dX6_seatOf_7 : decode cX6_seatOf 7 = .ok (.if_icmp .ge 26, 3) := by decide +kernel
theorem dX6_seatOf_10 : decode cX6_seatOf 10 = .ok (.aload_n 0, 1) := by decide +kernel
theorem dX6_seatOf_11 : decode cX6_seatOf 11 = .ok (.getfield 18, 3) := by decide +kernel
theorem dX6_seatOf_14 : decode cX6_seatOf 14 = .ok (.iload_n 2, 1) := by decide +kernel
theorem dX6_seatOf_15 : decode cX6_seatOf 15 = .ok (.iaload, 1) := by decide +kernel
theorem dX6_seatOf_16 : decode cX6_seatOf 16 = .ok (.iload_n 1, 1) := by decide +kernel
theorem dX6_seatOf_17 : decode cX6_seatOf 17 = .ok (.if_icmp .ne 10, 3) := by decide +kernel
theorem dX6_seatOf_20 : decode cX6_seatOf 20 = .ok (.aload_n 0, 1) := by decide +kernel
theorem dX6_seatOf_21 : decode cX6_seatOf 21 = .ok (.getfield 21, 3) := by decide +kernel
theorem dX6_seatOf_24 : decode cX6_seatOf 24 = .ok (.iload_n 2, 1) := by decide +kernel
theorem dX6_seatOf_25 : decode cX6_seatOf 25 = .ok (.iaload, 1) := by decide +kernel
theorem dX6_seatOf_26 : decode cX6_seatOf 26 = .ok (.ireturn, 1) := by decide +kernel
theorem dX6_seatOf_27 : decode cX6_seatOf 27 = .ok (.iinc 2 1, 3) := by decide +kernel
theorem dX6_seatOf_30 : decode cX6_seatOf 30 = .ok (.goto (-28), 3) := by decide +kernel
theorem dX6_seatOf_33 : decode cX6_seatOf 33 = .ok (.iconst (-1), 1) := by decide +kernel
theorem dX6_seatOf_34 : decode cX6_seatOf 34 = .ok (.ireturn, 1) := by decide +kernel
def ok_X6_seatOf_2 (K : ro_K) (v1 : Int32) (μ : ro_Mem) : (Int32 ⊕ Unit) → Prop := Sum.elim (fun e => ro_X K 20 [(0, .ref (ro_ad (kG K) 69)), (2, .int e)] [] μ) (fun e => ro_X K 33 [] [] μ)
def fb_X6_seatOf_2 (v1 : Int32) (μ : ro_Mem) (rec : Int32 → Option (Int32 ⊕ Unit)) (v2 : Int32) : Option (Int32 ⊕ Unit) :=
  if (μ 69 1) ≤ v2 then
  (some (.inr ()))
  else
  (if ro_in v2 8 then
  (if (μ 72 v2.toNatClampNeg) = v1 then
  (some (.inl v2))
  else
  (rec (v2 + 1))) else none)
theorem bb_X6_seatOf_2 {K : ro_K} (hK : ro_C K RX6 cX6_seatOf 3 0) (hR : ro_R K (some .int)) {v1 : Int32}  {μ : ro_Mem} {rec : Int32 → Option (Int32 ⊕ Unit)} {v2 : Int32} {q : (Int32 ⊕ Unit)} (hrec : ∀ (s : Int32) (q : (Int32 ⊕ Unit)), rec s = some q → ok_X6_seatOf_2 K v1 μ q → ro_X K 2 [(0, .ref (ro_ad (kG K) 69)), (1, .int v1), (2, .int s)] [] μ) (hf : fb_X6_seatOf_2 v1 μ rec v2 = some q) (hq : ok_X6_seatOf_2 K v1 μ q) : ro_X K 2 [(0, .ref (ro_ad (kG K) 69)), (1, .int v1), (2, .int v2)] [] μ := by
  unfold fb_X6_seatOf_2 at hf
  refine ro_iload_n hK 2 rfl dX6_seatOf_2 rfl ?_
  refine ro_aload_n hK 0 rfl dX6_seatOf_3 rfl ?_
  refine ro_geti hK fl_X6_30 sh_69 dX6_seatOf_4 ?_
  refine ro_icmp_ge hK 33 dX6_seatOf_7 (by decide) (fun c1 => ?_) (fun c1 => ?_)
  · have hf := ro_it hf c1
    refine ro_sub (L' := []) [] rfl ?_
    obtain rfl := Option.some.inj hf
    exact hq
  · have hf := ro_ie hf c1
    refine ro_aload_n hK 0 rfl dX6_seatOf_10 rfl ?_
    refine ro_getr hK fl_X6_18 sh_69 dX6_seatOf_11 ?_
    refine ro_iload_n hK 2 rfl dX6_seatOf_14 rfl ?_
    obtain ⟨g2, hf⟩ := ro_gd hf
    refine ro_iald hK sh_72 g2 dX6_seatOf_15 ?_
    refine ro_iload_n hK 1 rfl dX6_seatOf_16 rfl ?_
    refine ro_icmp_ne hK 27 dX6_seatOf_17 (by decide) (fun c3 => ?_) (fun c3 => ?_)
    · have hf := ro_ie hf c3
      refine ro_iinc (v := v2 + 1) (L' := [(2, .int (v2 + 1)), (0, .ref (ro_ad (kG K) 69)), (1, .int v1)]) hK 2 rfl dX6_seatOf_27 rfl (by decide) rfl ?_
      refine ro_goto hK 2 dX6_seatOf_30 (by decide) ?_
      refine ro_sub (L' := [(0, .ref (ro_ad (kG K) 69)), (1, .int v1), (2, .int (v2 + 1))]) [1, 2, 0] rfl ?_
      exact hrec (v2 + 1) _ hf hq
    · have hf := ro_it hf c3
      refine ro_sub (L' := [(0, .ref (ro_ad (kG K) 69)), (2, .int v2)]) [0, 2] rfl ?_
      obtain rfl := Option.some.inj hf
      exact hq
def fl_X6_seatOf_2 (v1 : Int32) (μ : ro_Mem) : Int32 → Option (Int32 ⊕ Unit) :=
  ro_loop (fun rec s => fb_X6_seatOf_2 v1 μ rec s) ro_FU
theorem lp_X6_seatOf_2 {K : ro_K} (hK : ro_C K RX6 cX6_seatOf 3 0) (hR : ro_R K (some .int)) {v1 : Int32}  {μ : ro_Mem} {s : Int32} {q : (Int32 ⊕ Unit)} (hf : fl_X6_seatOf_2 v1 μ s = some q) (hq : ok_X6_seatOf_2 K v1 μ q) : ro_X K 2 [(0, .ref (ro_ad (kG K) 69)), (1, .int v1), (2, .int s)] [] μ :=
  ro_loopX (b := fun rec s => fb_X6_seatOf_2 v1 μ rec s) (X := fun s => ro_X K 2 [(0, .ref (ro_ad (kG K) 69)), (1, .int v1), (2, .int s)] [] μ) (OK := ok_X6_seatOf_2 K v1 μ) (fun rec s q hrec hb ho => bb_X6_seatOf_2 hK hR  hrec hb ho) ro_FU s q hf hq
def fn_X6_seatOf (v1 : Int32) (μ : ro_Mem) : Option Int32 :=
  (fl_X6_seatOf_2 v1 μ 0).bind fun q4 =>
  q4.elim (fun e6 => if ro_in e6 8 then
  (some (μ 73 e6.toNatClampNeg)) else none) (fun e7 => some (-1))
theorem be_X6_seatOf {K : ro_K} (hK : ro_C K RX6 cX6_seatOf 3 0) (hR : ro_R K (some .int)) {v1 : Int32}  {μ : ro_Mem} {out : Int32} (hf : fn_X6_seatOf v1 μ = some out) (hq : kQ K (some (.int out)) μ) : ro_X K 0 [(0, .ref (ro_ad (kG K) 69)), (1, .int v1)] [] μ := by
  unfold fn_X6_seatOf at hf
  refine ro_iconst (v := 0) hK dX6_seatOf_0 (by decide) ?_
  refine ro_istore_n (L' := [(2, .int 0), (0, .ref (ro_ad (kG K) 69)), (1, .int v1)]) hK dX6_seatOf_1 rfl (by decide) rfl ?_
  obtain ⟨q4, e5, hf⟩ := ro_bd hf
  refine ro_sub (L' := [(0, .ref (ro_ad (kG K) 69)), (1, .int v1), (2, .int 0)]) [1, 2, 0] rfl ?_
  refine lp_X6_seatOf_2 hK hR  e5 ?_
  rcases q4 with e6 | e7
  · have hf := ro_el hf
    show ro_X K 20 [(0, .ref (ro_ad (kG K) 69)), (2, .int e6)] [] μ
    refine ro_aload_n hK 0 rfl dX6_seatOf_20 rfl ?_
    refine ro_getr hK fl_X6_21 sh_69 dX6_seatOf_21 ?_
    refine ro_iload_n hK 1 rfl dX6_seatOf_24 rfl ?_
    obtain ⟨g8, hf⟩ := ro_gd hf
    refine ro_iald hK sh_73 g8 dX6_seatOf_25 ?_
    obtain rfl := Option.some.inj hf
    exact ro_iret hK hR dX6_seatOf_26 hq
  · have hf := ro_er hf
    show ro_X K 33 [] [] μ
    refine ro_iconst (v := (-1)) hK dX6_seatOf_33 (by decide) ?_
    obtain rfl := Option.some.inj hf
    exact ro_iret hK hR dX6_seatOf_34 hq
theorem mt_X6_seatOf (l : Launch) (G : ro_G) {v1 : Int32}  {μ : ro_Mem} {out : Int32} (hf : fn_X6_seatOf v1 μ = some out) : ro_MX l G yX6_seatOf cX6_seatOf 3 (some .int) 0 [.ref (ro_ad G 69), .int v1] μ (some (.int out)) μ := by
  refine ro_MX.of (by decide +kernel) (Nat.le_of_ble_eq_true rfl) (fun K hG hl hq hK hR => ?_)
  subst hG
  exact be_X6_seatOf hK hR  hf hq
-- ===== X6_putInto =====
theorem dX6_putInto_0 : decode cX6_putInto 0 = .ok (.iconst 0, 1) := by decide +kernel
theorem dX6_putInto_1 : decode cX6_putInto 1 = .ok (.istore_n 3, 1) := by decide +kernel
theorem dX6_putInto_2 : decode cX6_putInto 2 = .ok (.iload_n 3, 1) := by decide +kernel
theorem dX6_putInto_3 : decode cX6_putInto 3 = .ok (.aload_n 0, 1) := by decide +kernel
theorem dX6_putInto_4 : decode cX6_putInto 4 = .ok (.getfield 30, 3) := by decide +kernel
theorem dX6_putInto_7 : decode cX6_putInto 7 = .ok (.if_icmp .ge 31, 3) := by decide +kernel
theorem dX6_putInto_10 : decode cX6_putInto 10 = .ok (.aload_n 1, 1) := by decide +kernel
theorem dX6_putInto_11 : decode cX6_putInto 11 = .ok (.getfield 66, 3) := by decide +kernel
theorem dX6_putInto_14 : decode cX6_putInto 14 = .ok (.iload_n 2, 1) := by decide +kernel
theorem dX6_putInto_15 : decode cX6_putInto 15 = .ok (.bipush 10, 2) := by decide +kernel
theorem dX6_putInto_17 : decode cX6_putInto 17 = .ok (.imul, 1) := by decide +kernel
theorem dX6_putInto_18 : decode cX6_putInto 18 = .ok (.aload_n 0, 1) := by decide +kernel
theorem dX6_putInto_19 : decode cX6_putInto 19 = .ok (.getfield 18, 3) := by decide +kernel
theorem dX6_putInto_22 : decode cX6_putInto 22 = .ok (.iload_n 3, 1) := by decide +kernel
theorem dX6_putInto_23 : decode cX6_putInto 23 = .ok (.iaload, 1) := by decide +kernel
theorem dX6_putInto_24 : decode cX6_putInto 24 = .ok (.iadd, 1) := by decide +kernel
theorem dX6_putInto_25 : decode cX6_putInto 25 = .ok (.aload_n 0, 1) := by decide +kernel
theorem dX6_putInto_26 : decode cX6_putInto 26 = .ok (.getfield 21, 3) := by decide +kernel
theorem dX6_putInto_29 : decode cX6_putInto 29 = .ok (.iload_n 3, 1) := by decide +kernel
theorem dX6_putInto_30 : decode cX6_putInto 30 = .ok (.iaload, 1) := by decide +kernel
theorem dX6_putInto_31 : decode cX6_putInto 31 = .ok (.iastore, 1) := by decide +kernel
theorem dX6_putInto_32 : decode cX6_putInto 32 = .ok (.iinc 3 1, 3) := by decide +kernel
theorem dX6_putInto_35 : decode cX6_putInto 35 = .ok (.goto (-33), 3) := by decide +kernel
theorem dX6_putInto_38 : decode cX6_putInto 38 = .ok (.return_, 1) := by decide +kernel
def ok_X6_putInto_2 (K : ro_K) (o1 : Nat) (v2 : Int32) : ro_Mem → Prop := fun e => ro_X K 38 [] [] e
def fb_X6_putInto_2 (o1 : Nat) (v2 : Int32) (rec : (Int32 × ro_Mem) → Option ro_Mem) (v3 : Int32) (μ : ro_Mem) : Option ro_Mem :=
  if (μ 69 1) ≤ v3 then
  (some μ)
  else
  (if ro_in v3 8 then
  (if ro_in ((v2 * 10) + (μ 72 v3.toNatClampNeg)) 40 then
  (ro_lt (ro_set μ (o1 + 9) ((v2 * 10) + (μ 72 v3.toNatClampNeg)).toNatClampNeg (μ 73 v3.toNatClampNeg)) fun m4 =>
  rec (v3 + 1, m4)) else none) else none)
theorem bb_X6_putInto_2 {K : ro_K} (hK : ro_C K RX6 cX6_putInto 4 0) (hR : ro_R K none) {o1 : Nat} {v2 : Int32} (h1 : ro_sh o1 = (0, 1)) {μ : ro_Mem} {rec : (Int32 × ro_Mem) → Option ro_Mem} {v3 : Int32} {q : ro_Mem} (hrec : ∀ (s : Int32 × ro_Mem) (q : ro_Mem), rec s = some q → ok_X6_putInto_2 K o1 v2 q → ro_X K 2 [(0, .ref (ro_ad (kG K) 69)), (1, .ref (ro_ad (kG K) o1)), (2, .int v2), (3, .int s.1)] [] s.2) (hf : fb_X6_putInto_2 o1 v2 rec v3 μ = some q) (hq : ok_X6_putInto_2 K o1 v2 q) : ro_X K 2 [(0, .ref (ro_ad (kG K) 69)), (1, .ref (ro_ad (kG K) o1)), (2, .int v2), (3, .int v3)] [] μ := by
  unfold fb_X6_putInto_2 at hf
  refine ro_iload_n hK 3 rfl dX6_putInto_2 rfl ?_
  refine ro_aload_n hK 0 rfl dX6_putInto_3 rfl ?_
  refine ro_geti hK fl_X6_30 sh_69 dX6_putInto_4 ?_
  refine ro_icmp_ge hK 38 dX6_putInto_7 (by decide) (fun c1 => ?_) (fun c1 => ?_)
  · have hf := ro_it hf c1
    refine ro_sub (L' := []) [] rfl ?_
    obtain rfl := Option.some.inj hf
    exact hq
  · have hf := ro_ie hf c1
    refine ro_aload_n hK 1 rfl dX6_putInto_10 rfl ?_
    refine ro_getr hK fl_X6_66 h1 dX6_putInto_11 ?_
    refine ro_iload_n hK 2 rfl dX6_putInto_14 rfl ?_
    refine ro_bipush (v := 10) hK dX6_putInto_15 (by decide) ?_
    refine ro_imul hK dX6_putInto_17 ?_
    refine ro_aload_n hK 0 rfl dX6_putInto_18 rfl ?_
    refine ro_getr hK fl_X6_18 sh_69 dX6_putInto_19 ?_
    refine ro_iload_n hK 3 rfl dX6_putInto_22 rfl ?_
    obtain ⟨g2, hf⟩ := ro_gd hf
    refine ro_iald hK sh_72 g2 dX6_putInto_23 ?_
    refine ro_iadd hK dX6_putInto_24 ?_
    refine ro_aload_n hK 0 rfl dX6_putInto_25 rfl ?_
    refine ro_getr hK fl_X6_21 sh_69 dX6_putInto_26 ?_
    refine ro_iload_n hK 3 rfl dX6_putInto_29 rfl ?_
    refine ro_iald hK sh_73 g2 dX6_putInto_30 ?_
    obtain ⟨g3, hf⟩ := ro_gd hf
    obtain ⟨m4, e5, hf⟩ := ro_ld hf
    refine ro_iast hK (so_1_9 h1) g3 dX6_putInto_31 ?_
    refine ro_mv e5 ?_
    refine ro_iinc (v := v3 + 1) (L' := [(3, .int (v3 + 1)), (0, .ref (ro_ad (kG K) 69)), (1, .ref (ro_ad (kG K) o1)), (2, .int v2)]) hK 3 rfl dX6_putInto_32 rfl (by decide) rfl ?_
    refine ro_goto hK 2 dX6_putInto_35 (by decide) ?_
    refine ro_sub (L' := [(0, .ref (ro_ad (kG K) 69)), (1, .ref (ro_ad (kG K) o1)), (2, .int v2), (3, .int (v3 + 1))]) [1, 2, 3, 0] rfl ?_
    exact hrec (v3 + 1, m4) _ hf hq
def fl_X6_putInto_2 (o1 : Nat) (v2 : Int32) : (Int32 × ro_Mem) → Option ro_Mem :=
  ro_loop (fun rec s => fb_X6_putInto_2 o1 v2 rec s.1 s.2) ro_FU
theorem lp_X6_putInto_2 {K : ro_K} (hK : ro_C K RX6 cX6_putInto 4 0) (hR : ro_R K none) {o1 : Nat} {v2 : Int32} (h1 : ro_sh o1 = (0, 1)) {s : Int32 × ro_Mem} {q : ro_Mem} (hf : fl_X6_putInto_2 o1 v2 s = some q) (hq : ok_X6_putInto_2 K o1 v2 q) : ro_X K 2 [(0, .ref (ro_ad (kG K) 69)), (1, .ref (ro_ad (kG K) o1)), (2, .int v2), (3, .int s.1)] [] s.2 :=
  ro_loopX (b := fun rec s => fb_X6_putInto_2 o1 v2 rec s.1 s.2) (X := fun s => ro_X K 2 [(0, .ref (ro_ad (kG K) 69)), (1, .ref (ro_ad (kG K) o1)), (2, .int v2), (3, .int s.1)] [] s.2) (OK := ok_X6_putInto_2 K o1 v2) (fun rec s q hrec hb ho => bb_X6_putInto_2 hK hR h1 hrec hb ho) ro_FU s q hf hq
def fn_X6_putInto (o1 : Nat) (v2 : Int32) (μ : ro_Mem) : Option ro_Mem :=
  (fl_X6_putInto_2 o1 v2 (0, μ)).bind fun q6 =>
  some q6
theorem be_X6_putInto {K : ro_K} (hK : ro_C K RX6 cX6_putInto 4 0) (hR : ro_R K none) {o1 : Nat} {v2 : Int32} (h1 : ro_sh o1 = (0, 1)) {μ : ro_Mem} {out : ro_Mem} (hf : fn_X6_putInto o1 v2 μ = some out) (hq : kQ K none out) : ro_X K 0 [(0, .ref (ro_ad (kG K) 69)), (1, .ref (ro_ad (kG K) o1)), (2, .int v2)] [] μ := by
  unfold fn_X6_putInto at hf
  refine ro_iconst (v := 0) hK dX6_putInto_0 (by decide) ?_
  refine ro_istore_n (L' := [(3, .int 0), (0, .ref (ro_ad (kG K) 69)), (1, .ref (ro_ad (kG K) o1)), (2, .int v2)]) hK dX6_putInto_1 rfl (by decide) rfl ?_
  obtain ⟨q6, e7, hf⟩ := ro_bd hf
  refine ro_sub (L' := [(0, .ref (ro_ad (kG K) 69)), (1, .ref (ro_ad (kG K) o1)), (2, .int v2), (3, .int 0)]) [1, 2, 3, 0] rfl ?_
  refine lp_X6_putInto_2 hK hR h1 e7 ?_
  show ro_X K 38 [] [] q6
  obtain rfl := Option.some.inj hf
  exact ro_vret hK hR dX6_putInto_38 hq
theorem mt_X6_putInto (l : Launch) (G : ro_G) {o1 : Nat} {v2 : Int32} (h1 : ro_sh o1 = (0, 1)) {μ : ro_Mem} {out : ro_Mem} (hf : fn_X6_putInto o1 v2 μ = some out) : ro_MX l G yX6_putInto cX6_putInto 4 none 0 [.ref (ro_ad G 69), .ref (ro_ad G o1), .int v2] μ none out := by
  refine ro_MX.of (by decide +kernel) (Nat.le_of_ble_eq_true rfl) (fun K hG hl hq hK hR => ?_)
  subst hG
  exact be_X6_putInto hK hR h1 hf hq
-- ===== X7_start =====
theorem dX7_start_0 : decode cX7_start 0 = .ok (.aload_n 0, 1) := by decide +kernel
theorem dX7_start_1 : decode cX7_start 1 = .ok (.iload_n 2, 1) := by decide +kernel
theorem dX7_start_2 : decode cX7_start 2 = .ok (.putfield 24, 3) := by decide +kernel
theorem dX7_start_5 : decode cX7_start 5 = .ok (.aload_n 0, 1) := by decide +kernel
theorem dX7_start_6 : decode cX7_start 6 = .ok (.iconst 0, 1) := by decide +kernel
theorem dX7_start_7 : decode cX7_start 7 = .ok (.putfield 28, 3) := by decide +kernel
theorem dX7_start_10 : decode cX7_start 10 = .ok (.aload_n 0, 1) := by decide +kernel
theorem dX7_start_11 : decode cX7_start 11 = .ok (.iconst 0, 1) := by decide +kernel
theorem dX7_start_12 : decode cX7_start 12 = .ok (.putfield 31, 3) := by decide +kernel
theorem dX7_start_15 : decode cX7_start 15 = .ok (.iconst 0, 1) := by decide +kernel
theorem dX7_start_16 : decode cX7_start 16 = .ok (.istore_n 3, 1) := by decide +kernel
theorem dX7_start_17 : decode cX7_start 17 = .ok (.iload_n 3, 1) := by decide +kernel
theorem dX7_start_18 : decode cX7_start 18 = .ok (.aload_n 1, 1) := by decide +kernel
theorem dX7_start_19 : decode cX7_start 19 = .ok (.getfield 34, 3) := by decide +kernel
theorem dX7_start_22 : decode cX7_start 22 = .ok (.if_icmp .ge 68, 3) := by decide +kernel
theorem dX7_start_25 : decode cX7_start 25 = .ok (.aload_n 1, 1) := by decide +kernel
theorem dX7_start_26 : decode cX7_start 26 = .ok (.getfield 39, 3) := by decide +kernel
theorem dX7_start_29 : decode cX7_start 29 = .ok (.iload_n 3, 1) := by decide +kernel
theorem dX7_start_30 : decode cX7_start 30 = .ok (.iaload, 1) := by decide +kernel
theorem dX7_start_31 : decode cX7_start 31 = .ok (.aload_n 0, 1) := by decide +kernel
theorem dX7_start_32 : decode cX7_start 32 = .ok (.getfield 24, 3) := by decide +kernel
theorem dX7_start_35 : decode cX7_start 35 = .ok (.if_icmp .ne 49, 3) := by decide +kernel
theorem dX7_start_38 : decode cX7_start 38 = .ok (.aload_n 0, 1) := by decide +kernel
theorem dX7_start_39 : decode cX7_start 39 = .ok (.aload_n 0, 1) := by decide +kernel
theorem dX7_start_40 : decode cX7_start 40 = .ok (.getfield 31, 3) := by decide +kernel
theorem dX7_start_43 : decode cX7_start 43 = .ok (.ifCond .ne 12, 3) := by decide +kernel
theorem dX7_start_46 : decode cX7_start 46 = .ok (.aload_n 1, 1) := by decide +kernel
theorem dX7_start_47 : decode cX7_start 47 = .ok (.getfield 41, 3) := by decide +kernel
theorem dX7_start_50 : decode cX7_start 50 = .ok (.iload_n 3, 1) := by decide +kernel
theorem dX7_start_51 : decode cX7_start 51 = .ok (.iaload, 1) := by decide +kernel
theorem dX7_start_52 : decode cX7_start 52 = .ok (.goto 7, 3) := by decide +kernel
theorem dX7_start_55 : decode cX7_start 55 = .ok (.aload_n 0, 1) := by decide +kernel
theorem dX7_start_56 : decode cX7_start 56 = .ok (.getfield 44, 3) := by decide +kernel
theorem dX7_start_59 : decode cX7_start 59 = .ok (.putfield 44, 3) := by decide +kernel
theorem dX7_start_62 : decode cX7_start 62 = .ok (.aload_n 0, 1) := by decide +kernel
theorem dX7_start_63 : decode cX7_start 63 = .ok (.bipush 12, 2) := by decide +kernel
theorem dX7_start_65 : decode cX7_start 65 = .ok (.aload_n 1, 1) := by decide +kernel
theorem dX7_start_66 : decode cX7_start 66 = .ok (.getfield 41, 3) := by decide +kernel
theorem dX7_start_69 : decode cX7_start 69 = .ok (.iload_n 3, 1) := by decide +kernel
theorem dX7_start_70 : decode cX7_start 70 = .ok (.iaload, 1) := by decide +kernel
theorem dX7_start_71 : decode cX7_start 71 = .ok (.aload_n 0, 1) := by decide +kernel
theorem dX7_start_72 : decode cX7_start 72 = .ok (.getfield 44, 3) := by decide +kernel
theorem dX7_start_75 : decode cX7_start 75 = .ok (.isub, 1) := by decide +kernel
theorem dX7_start_76 : decode cX7_start 76 = .ok (.iconst 1, 1) := by decide +kernel
theorem dX7_start_77 : decode cX7_start 77 = .ok (.iadd, 1) := by decide +kernel
theorem dX7_start_78 : decode cX7_start 78 = .ok (.invokestatic 47, 3) := by decide +kernel
theorem dX7_start_81 : decode cX7_start 81 = .ok (.putfield 31, 3) := by decide +kernel
theorem dX7_start_84 : decode cX7_start 84 = .ok (.iinc 3 1, 3) := by decide +kernel
theorem dX7_start_87 : decode cX7_start 87 = .ok (.goto (-70), 3) := by decide +kernel
theorem dX7_start_90 : decode cX7_start 90 = .ok (.return_, 1) := by decide +kernel
def ok_X7_start_17 (K : ro_K) (o1 : Nat) : ro_Mem → Prop := fun e => ro_X K 90 [] [] e
def fj_X7_start_59 (rec : (Int32 × ro_Mem) → Option ro_Mem) (o1 : Nat) (v3 : Int32) (t1 : Int32) (μ : ro_Mem) : Option ro_Mem :=
  ro_lt (ro_set μ 199 4 t1) fun m11 =>
  if ro_in v3 32 then
  (ro_lt (ro_set m11 199 5 (ro_mn 12 (((m11 (o1 + 4) v3.toNatClampNeg) - (m11 199 4)) + 1))) fun m14 =>
  rec (v3 + 1, m14)) else none
theorem bj_X7_start_59 {K : ro_K} (hK : ro_C K RX7 cX7_start 4 1) (hR : ro_R K none) {o1 : Nat} {v3 : Int32} {t1 : Int32} (h1 : ro_sh o1 = (0, 5)) {rec : (Int32 × ro_Mem) → Option ro_Mem} {μ : ro_Mem} (hrec : ∀ (s : Int32 × ro_Mem) (q : ro_Mem), rec s = some q → ok_X7_start_17 K o1 q → ro_X K 17 [(0, .ref (ro_ad (kG K) 199)), (1, .ref (ro_ad (kG K) o1)), (3, .int s.1)] [] s.2) {out : ro_Mem} (hf : fj_X7_start_59 rec o1 v3 t1 μ = some out) (hq : ok_X7_start_17 K o1 out) : ro_X K 59 [(0, .ref (ro_ad (kG K) 199)), (1, .ref (ro_ad (kG K) o1)), (3, .int v3)] [.int t1, .ref (ro_ad (kG K) 199)] μ := by
  unfold fj_X7_start_59 at hf
  obtain ⟨m11, e12, hf⟩ := ro_ld hf
  refine ro_puti hK fl_X7_44 sh_199 rfl rfl dX7_start_59 ?_
  refine ro_mv e12 ?_
  refine ro_aload_n hK 0 rfl dX7_start_62 rfl ?_
  refine ro_bipush (v := 12) hK dX7_start_63 (by decide) ?_
  refine ro_aload_n hK 1 rfl dX7_start_65 rfl ?_
  refine ro_getr hK fl_X7_41 h1 dX7_start_66 ?_
  refine ro_iload_n hK 2 rfl dX7_start_69 rfl ?_
  obtain ⟨g13, hf⟩ := ro_gd hf
  refine ro_iald hK (so_5_4 h1) g13 dX7_start_70 ?_
  refine ro_aload_n hK 0 rfl dX7_start_71 rfl ?_
  refine ro_geti hK fl_X7_44 sh_199 dX7_start_72 ?_
  refine ro_isub hK dX7_start_75 ?_
  refine ro_iconst (v := 1) hK dX7_start_76 (by decide) ?_
  refine ro_iadd hK dX7_start_77 ?_
  refine ro_mmin hK ml_X7_47 (by decide) (Nat.le_of_ble_eq_true rfl) dX7_start_78 ?_
  obtain ⟨m14, e15, hf⟩ := ro_ld hf
  refine ro_puti hK fl_X7_31 sh_199 rfl rfl dX7_start_81 ?_
  refine ro_mv e15 ?_
  refine ro_iinc (v := v3 + 1) (L' := [(3, .int (v3 + 1)), (0, .ref (ro_ad (kG K) 199)), (1, .ref (ro_ad (kG K) o1))]) hK 2 rfl dX7_start_84 rfl (by decide) rfl ?_
  refine ro_goto hK 17 dX7_start_87 (by decide) ?_
  refine ro_sub (L' := [(0, .ref (ro_ad (kG K) 199)), (1, .ref (ro_ad (kG K) o1)), (3, .int (v3 + 1))]) [1, 2, 0] rfl ?_
  exact hrec (v3 + 1, m14) _ hf hq
def fb_X7_start_17 (o1 : Nat) (rec : (Int32 × ro_Mem) → Option ro_Mem) (v3 : Int32) (μ : ro_Mem) : Option ro_Mem :=
  if (μ o1 5) ≤ v3 then
  (some μ)
  else
  (if ro_in v3 32 then
  (if (μ (o1 + 5) v3.toNatClampNeg) = (μ 199 3) then
  (if (μ 199 5) = 0 then
  (fj_X7_start_59 rec o1 v3 (μ (o1 + 4) v3.toNatClampNeg) μ)
  else
  (fj_X7_start_59 rec o1 v3 (μ 199 4) μ))
  else
  (rec (v3 + 1, μ))) else none)
theorem bb_X7_start_17 {K : ro_K} (hK : ro_C K RX7 cX7_start 4 1) (hR : ro_R K none) {o1 : Nat} (h1 : ro_sh o1 = (0, 5)) {μ : ro_Mem} {rec : (Int32 × ro_Mem) → Option ro_Mem} {v3 : Int32} {q : ro_Mem} (hrec : ∀ (s : Int32 × ro_Mem) (q : ro_Mem), rec s = some q → ok_X7_start_17 K o1 q → ro_X K 17 [(0, .ref (ro_ad (kG K) 199)), (1, .ref (ro_ad (kG K) o1)), (3, .int s.1)] [] s.2) (hf : fb_X7_start_17 o1 rec v3 μ = some q) (hq : ok_X7_start_17 K o1 q) : ro_X K 17 [(0, .ref (ro_ad (kG K) 199)), (1, .ref (ro_ad (kG K) o1)), (3, .int v3)] [] μ := by
  unfold fb_X7_start_17 at hf
  refine ro_iload_n hK 2 rfl dX7_start_17 rfl ?_
  refine ro_aload_n hK 1 rfl dX7_start_18 rfl ?_
  refine ro_geti hK fl_X7_34 h1 dX7_start_19 ?_
  refine ro_icmp_ge hK 90 dX7_start_22 (by decide) (fun c7 => ?_) (fun c7 => ?_)
  · have hf := ro_it hf c7
    refine ro_sub (L' := []) [] rfl ?_
    obtain rfl := Option.some.inj hf
    exact hq
  · have hf := ro_ie hf c7
    refine ro_aload_n hK 1 rfl dX7_start_25 rfl ?_
    refine ro_getr hK fl_X7_39 h1 dX7_start_26 ?_
    refine ro_iload_n hK 2 rfl dX7_start_29 rfl ?_
    obtain ⟨g8, hf⟩ := ro_gd hf
    refine ro_iald hK (so_5_5 h1) g8 dX7_start_30 ?_
    refine ro_aload_n hK 0 rfl dX7_start_31 rfl ?_
    refine ro_geti hK fl_X7_24 sh_199 dX7_start_32 ?_
    refine ro_icmp_ne hK 84 dX7_start_35 (by decide) (fun c9 => ?_) (fun c9 => ?_)
    · have hf := ro_ie hf c9
      refine ro_iinc (v := v3 + 1) (L' := [(3, .int (v3 + 1)), (0, .ref (ro_ad (kG K) 199)), (1, .ref (ro_ad (kG K) o1))]) hK 2 rfl dX7_start_84 rfl (by decide) rfl ?_
      refine ro_goto hK 17 dX7_start_87 (by decide) ?_
      refine ro_sub (L' := [(0, .ref (ro_ad (kG K) 199)), (1, .ref (ro_ad (kG K) o1)), (3, .int (v3 + 1))]) [1, 2, 0] rfl ?_
      exact hrec (v3 + 1, μ) _ hf hq
    · have hf := ro_it hf c9
      refine ro_aload_n hK 0 rfl dX7_start_38 rfl ?_
      refine ro_aload_n hK 0 rfl dX7_start_39 rfl ?_
      refine ro_geti hK fl_X7_31 sh_199 dX7_start_40 ?_
      refine ro_if_ne hK 55 dX7_start_43 (by decide) (fun c10 => ?_) (fun c10 => ?_)
      · have hf := ro_ie hf c10
        refine ro_aload_n hK 0 rfl dX7_start_55 rfl ?_
        refine ro_geti hK fl_X7_44 sh_199 dX7_start_56 ?_
        exact bj_X7_start_59 hK hR h1 hrec hf hq
      · have hf := ro_it hf c10
        refine ro_aload_n hK 1 rfl dX7_start_46 rfl ?_
        refine ro_getr hK fl_X7_41 h1 dX7_start_47 ?_
        refine ro_iload_n hK 2 rfl dX7_start_50 rfl ?_
        refine ro_iald hK (so_5_4 h1) g8 dX7_start_51 ?_
        refine ro_goto hK 59 dX7_start_52 (by decide) ?_
        exact bj_X7_start_59 hK hR h1 hrec hf hq
def fl_X7_start_17 (o1 : Nat) : (Int32 × ro_Mem) → Option ro_Mem :=
  ro_loop (fun rec s => fb_X7_start_17 o1 rec s.1 s.2) ro_FU
theorem lp_X7_start_17 {K : ro_K} (hK : ro_C K RX7 cX7_start 4 1) (hR : ro_R K none) {o1 : Nat} (h1 : ro_sh o1 = (0, 5)) {s : Int32 × ro_Mem} {q : ro_Mem} (hf : fl_X7_start_17 o1 s = some q) (hq : ok_X7_start_17 K o1 q) : ro_X K 17 [(0, .ref (ro_ad (kG K) 199)), (1, .ref (ro_ad (kG K) o1)), (3, .int s.1)] [] s.2 :=
  ro_loopX (b := fun rec s => fb_X7_start_17 o1 rec s.1 s.2) (X := fun s => ro_X K 17 [(0, .ref (ro_ad (kG K) 199)), (1, .ref (ro_ad (kG K) o1)), (3, .int s.1)] [] s.2) (OK := ok_X7_start_17 K o1) (fun rec s q hrec hb ho => bb_X7_start_17 hK hR h1 hrec hb ho) ro_FU s q hf hq
def fn_X7_start (o1 : Nat) (v2 : Int32) (μ : ro_Mem) : Option ro_Mem :=
  ro_lt (ro_set μ 199 3 v2) fun m1 =>
  ro_lt (ro_set m1 199 6 0) fun m3 =>
  ro_lt (ro_set m3 199 5 0) fun m5 =>
  (fl_X7_start_17 o1 (0, m5)).bind fun q16 =>
  some q16
theorem be_X7_start {K : ro_K} (hK : ro_C K RX7 cX7_start 4 1) (hR : ro_R K none) {o1 : Nat} {v2 : Int32} (h1 : ro_sh o1 = (0, 5)) {μ : ro_Mem} {out : ro_Mem} (hf : fn_X7_start o1 v2 μ = some out) (hq : kQ K none out) : ro_X K 0 [(0, .ref (ro_ad (kG K) 199)), (1, .ref (ro_ad (kG K) o1)), (2, .int v2)] [] μ := by
  unfold fn_X7_start at hf
  refine ro_aload_n hK 0 rfl dX7_start_0 rfl ?_
  refine ro_iload_n hK 2 rfl dX7_start_1 rfl ?_
  obtain ⟨m1, e2, hf⟩ := ro_ld hf
  refine ro_puti hK fl_X7_24 sh_199 rfl rfl dX7_start_2 ?_
  refine ro_mv e2 ?_
  refine ro_aload_n hK 0 rfl dX7_start_5 rfl ?_
  refine ro_iconst (v := 0) hK dX7_start_6 (by decide) ?_
  obtain ⟨m3, e4, hf⟩ := ro_ld hf
  refine ro_puti hK fl_X7_28 sh_199 rfl rfl dX7_start_7 ?_
  refine ro_mv e4 ?_
  refine ro_aload_n hK 0 rfl dX7_start_10 rfl ?_
  refine ro_iconst (v := 0) hK dX7_start_11 (by decide) ?_
  obtain ⟨m5, e6, hf⟩ := ro_ld hf
  refine ro_puti hK fl_X7_31 sh_199 rfl rfl dX7_start_12 ?_
  refine ro_mv e6 ?_
  refine ro_iconst (v := 0) hK dX7_start_15 (by decide) ?_
  refine ro_istore_n (L' := [(3, .int 0), (0, .ref (ro_ad (kG K) 199)), (1, .ref (ro_ad (kG K) o1)), (2, .int v2)]) hK dX7_start_16 rfl (by decide) rfl ?_
  obtain ⟨q16, e17, hf⟩ := ro_bd hf
  refine ro_sub (L' := [(0, .ref (ro_ad (kG K) 199)), (1, .ref (ro_ad (kG K) o1)), (3, .int 0)]) [1, 2, 0] rfl ?_
  refine lp_X7_start_17 hK hR h1 e17 ?_
  show ro_X K 90 [] [] q16
  obtain rfl := Option.some.inj hf
  exact ro_vret hK hR dX7_start_90 hq
theorem mt_X7_start (l : Launch) (G : ro_G) {o1 : Nat} {v2 : Int32} (h1 : ro_sh o1 = (0, 5)) {μ : ro_Mem} {out : ro_Mem} (hf : fn_X7_start o1 v2 μ = some out) : ro_MX l G yX7_start cX7_start 4 none 1 [.ref (ro_ad G 199), .ref (ro_ad G o1), .int v2] μ none out := by
  refine ro_MX.of (by decide +kernel) (Nat.le_of_ble_eq_true rfl) (fun K hG hl hq hK hR => ?_)
  subst hG
  exact be_X7_start hK hR h1 hf hq
-- ===== X7_add =====
theorem dX7_add_0 : decode cX7_add 0 = .ok (.aload_n 0, 1) := by decide +kernel
theorem dX7_add_1 : decode cX7_add 1 = .ok (.getfield 28, 3) := by decide +kernel
theorem dX7_add_4 : decode cX7_add 4 = .ok (.bipush 20, 2) := by decide +kernel
theorem dX7_add_6 : decode cX7_add 6 = .ok (.if_icmp .lt 4, 3) := by decide +kernel
theorem dX7_add_9 : decode cX7_add 9 = .ok (.return_, 1) := by decide +kernel
theorem dX7_add_10 : decode cX7_add 10 = .ok (.aload_n 3, 1) := by decide +kernel
theorem dX7_add_11 : decode cX7_add 11 = .ok (.getfield 53, 3) := by decide +kernel
theorem dX7_add_14 : decode cX7_add 14 = .ok (.getfield 59, 3) := by decide +kernel
theorem dX7_add_17 : decode cX7_add 17 = .ok (.iload_n 1, 1) := by decide +kernel
theorem dX7_add_18 : decode cX7_add 18 = .ok (.iaload, 1) := by decide +kernel
theorem dX7_add_19 : decode cX7_add 19 = .ok (.istore 5, 2) := by decide +kernel
theorem dX7_add_21 : decode cX7_add 21 = .ok (.aload_n 0, 1) := by decide +kernel
theorem dX7_add_22 : decode cX7_add 22 = .ok (.getfield 9, 3) := by decide +kernel
theorem dX7_add_25 : decode cX7_add 25 = .ok (.aload_n 0, 1) := by decide +kernel
theorem dX7_add_26 : decode cX7_add 26 = .ok (.getfield 28, 3) := by decide +kernel
theorem dX7_add_29 : decode cX7_add 29 = .ok (.iload_n 2, 1) := by decide +kernel
theorem dX7_add_30 : decode cX7_add 30 = .ok (.ifCond .ne 7, 3) := by decide +kernel
theorem dX7_add_33 : decode cX7_add 33 = .ok (.iconst 0, 1) := by decide +kernel
theorem dX7_add_34 : decode cX7_add 34 = .ok (.goto 7, 3) := by decide +kernel
theorem dX7_add_37 : decode cX7_add 37 = .ok (.iload 5, 2) := by decide +kernel
theorem dX7_add_39 : decode cX7_add 39 = .ok (.iload_n 2, 1) := by decide +kernel
theorem dX7_add_40 : decode cX7_add 40 = .ok (.iadd, 1) := by decide +kernel
theorem dX7_add_41 : decode cX7_add 41 = .ok (.iastore, 1) := by decide +kernel
theorem dX7_add_42 : decode cX7_add 42 = .ok (.aload_n 0, 1) := by decide +kernel
theorem dX7_add_43 : decode cX7_add 43 = .ok (.getfield 15, 3) := by decide +kernel
theorem dX7_add_46 : decode cX7_add 46 = .ok (.aload_n 0, 1) := by decide +kernel
theorem dX7_add_47 : decode cX7_add 47 = .ok (.getfield 28, 3) := by decide +kernel
theorem dX7_add_50 : decode cX7_add 50 = .ok (.iload 5, 2) := by decide +kernel
theorem dX7_add_52 : decode cX7_add 52 = .ok (.iload_n 2, 1) := by decide +kernel
theorem dX7_add_53 : decode cX7_add 53 = .ok (.iadd, 1) := by decide +kernel
theorem dX7_add_54 : decode cX7_add 54 = .ok (.iastore, 1) := by decide +kernel
theorem dX7_add_55 : decode cX7_add 55 = .ok (.aload_n 0, 1) := by decide +kernel
theorem dX7_add_56 : decode cX7_add 56 = .ok (.getfield 18, 3) := by decide +kernel
theorem dX7_add_59 : decode cX7_add 59 = .ok (.aload_n 0, 1) := by decide +kernel
theorem dX7_add_60 : decode cX7_add 60 = .ok (.getfield 28, 3) := by decide +kernel
theorem dX7_add_63 : decode cX7_add 63 = .ok (.iconst 0, 1) := by decide +kernel
theorem dX7_add_64 : decode cX7_add 64 = .ok (.iastore, 1) := by decide +kernel
theorem dX7_add_65 : decode cX7_add 65 = .ok (.aload_n 0, 1) := by decide +kernel
theorem dX7_add_66 : decode cX7_add 66 = .ok (.getfield 28, 3) := by decide +kernel
theorem dX7_add_69 : decode cX7_add 69 = .ok (.bipush 13, 2) := by decide +kernel
theorem dX7_add_71 : decode cX7_add 71 = .ok (.imul, 1) := by decide +kernel
theorem dX7_add_72 : decode cX7_add 72 = .ok (.istore 6, 2) := by decide +kernel
theorem dX7_add_74 : decode cX7_add 74 = .ok (.iconst 0, 1) := by decide +kernel
theorem dX7_add_75 : decode cX7_add 75 = .ok (.istore 7, 2) := by decide +kernel
theorem dX7_add_77 : decode cX7_add 77 = .ok (.iload 7, 2) := by decide +kernel
theorem dX7_add_79 : decode cX7_add 79 = .ok (.bipush 12, 2) := by decide +kernel
theorem dX7_add_81 : decode cX7_add 81 = .ok (.if_icmp .gt 20, 3) := by decide +kernel
theorem dX7_add_84 : decode cX7_add 84 = .ok (.aload_n 0, 1) := by decide +kernel
theorem dX7_add_85 : decode cX7_add 85 = .ok (.getfield 21, 3) := by decide +kernel
theorem dX7_add_88 : decode cX7_add 88 = .ok (.iload 6, 2) := by decide +kernel
theorem dX7_add_90 : decode cX7_add 90 = .ok (.iload 7, 2) := by decide +kernel
theorem dX7_add_92 : decode cX7_add 92 = .ok (.iadd, 1) := by decide +kernel
theorem dX7_add_93 : decode cX7_add 93 = .ok (.iconst 0, 1) := by decide +kernel
theorem dX7_add_94 : decode cX7_add 94 = .ok (.iastore, 1) := by decide +kernel
theorem dX7_add_95 : decode cX7_add 95 = .ok (.iinc 7 1, 3) := by decide +kernel
theorem dX7_add_98 : decode cX7_add 98 = .ok (.goto (-21), 3) := by decide +kernel
theorem dX7_add_101 : decode cX7_add 101 = .ok (.aload_n 3, 1) := by decide +kernel
theorem dX7_add_102 : decode cX7_add 102 = .ok (.getfield 64, 3) := by decide +kernel
theorem dX7_add_105 : decode cX7_add 105 = .ok (.astore 7, 2) := by decide +kernel
theorem dX7_add_107 : decode cX7_add 107 = .ok (.iconst 0, 1) := by decide +kernel
theorem dX7_add_108 : decode cX7_add 108 = .ok (.istore 8, 2) := by decide +kernel
theorem dX7_add_110 : decode cX7_add 110 = .ok (.iload 8, 2) := by decide +kernel
theorem dX7_add_112 : decode cX7_add 112 = .ok (.aload 7, 2) := by decide +kernel
theorem dX7_add_114 : decode cX7_add 114 = .ok (.getfield 34, 3) := by decide +kernel
theorem dX7_add_117 : decode cX7_add 117 = .ok (.if_icmp .ge 82, 3) := by decide +kernel
theorem dX7_add_120 : decode cX7_add 120 = .ok (.aload 7, 2) := by decide +kernel
theorem dX7_add_122 : decode cX7_add 122 = .ok (.getfield 41, 3) := by decide +kernel
theorem dX7_add_125 : decode cX7_add 125 = .ok (.iload 8, 2) := by decide +kernel
theorem dX7_add_127 : decode cX7_add 127 = .ok (.iaload, 1) := by decide +kernel
theorem dX7_add_128 : decode cX7_add 128 = .ok (.aload_n 0, 1) := by decide +kernel
theorem dX7_add_129 : decode cX7_add 129 = .ok (.getfield 44, 3) := by decide +kernel
theorem dX7_add_132 : decode cX7_add 132 = .ok (.isub, 1) := by decide +kernel
theorem dX7_add_133 : decode cX7_add 133 = .ok (.iconst 1, 1) := by decide +kernel
theorem dX7_add_134 : decode cX7_add 134 = .ok (.iadd, 1) := by decide +kernel
theorem dX7_add_135 : decode cX7_add 135 = .ok (.istore 9, 2) := by decide +kernel
theorem dX7_add_137 : decode cX7_add 137 = .ok (.aload 7, 2) := by decide +kernel
theorem dX7_add_139 : decode cX7_add 139 = .ok (.getfield 39, 3) := by decide +kernel
theorem dX7_add_142 : decode cX7_add 142 = .ok (.iload 8, 2) := by decide +kernel
theorem dX7_add_144 : decode cX7_add 144 = .ok (.iaload, 1) := by decide +kernel
theorem dX7_add_145 : decode cX7_add 145 = .ok (.aload_n 0, 1) := by decide +kernel
theorem dX7_add_146 : decode cX7_add 146 = .ok (.getfield 24, 3) := by decide +kernel
theorem dX7_add_149 : decode cX7_add 149 = .ok (.if_icmp .ne 44, 3) := by decide +kernel
theorem dX7_add_152 : decode cX7_add 152 = .ok (.iload 9, 2) := by decide +kernel
theorem dX7_add_154 : decode cX7_add 154 = .ok (.ifCond .le 39, 3) := by decide +kernel
theorem dX7_add_157 : decode cX7_add 157 = .ok (.iload 9, 2) := by decide +kernel
theorem dX7_add_159 : decode cX7_add 159 = .ok (.bipush 12, 2) := by decide +kernel
theorem dX7_add_161 : decode cX7_add 161 = .ok (.if_icmp .gt 32, 3) := by decide +kernel
theorem dX7_add_164 : decode cX7_add 164 = .ok (.aload_n 0, 1) := by decide +kernel
theorem dX7_add_165 : decode cX7_add 165 = .ok (.getfield 21, 3) := by decide +kernel
theorem dX7_add_168 : decode cX7_add 168 = .ok (.iload 6, 2) := by decide +kernel
theorem dX7_add_170 : decode cX7_add 170 = .ok (.iload 9, 2) := by decide +kernel
theorem dX7_add_172 : decode cX7_add 172 = .ok (.iadd, 1) := by decide +kernel
theorem dX7_add_173 : decode cX7_add 173 = .ok (.dup2, 1) := by decide +kernel
theorem dX7_add_174 : decode cX7_add 174 = .ok (.iaload, 1) := by decide +kernel
theorem dX7_add_175 : decode cX7_add 175 = .ok (.aload 4, 2) := by decide +kernel
theorem dX7_add_177 : decode cX7_add 177 = .ok (.iload 8, 2) := by decide +kernel
theorem dX7_add_179 : decode cX7_add 179 = .ok (.aload_n 0, 1) := by decide +kernel
theorem dX7_add_180 : decode cX7_add 180 = .ok (.getfield 24, 3) := by decide +kernel
theorem dX7_add_183 : decode cX7_add 183 = .ok (.iload_n 1, 1) := by decide +kernel
theorem dX7_add_184 : decode cX7_add 184 = .ok (.aload_n 3, 1) := by decide +kernel
theorem dX7_add_185 : decode cX7_add 185 = .ok (.getfield 53, 3) := by decide +kernel
theorem dX7_add_188 : decode cX7_add 188 = .ok (.invokevirtual 68, 3) := by decide +kernel
theorem dX7_add_191 : decode cX7_add 191 = .ok (.iadd, 1) := by decide +kernel
theorem dX7_add_192 : decode cX7_add 192 = .ok (.iastore, 1) := by decide +kernel
theorem dX7_add_193 : decode cX7_add 193 = .ok (.iinc 8 1, 3) := by decide +kernel
theorem dX7_add_196 : decode cX7_add 196 = .ok (.goto (-86), 3) := by decide +kernel
theorem dX7_add_199 : decode cX7_add 199 = .ok (.iconst 1, 1) := by decide +kernel
theorem dX7_add_200 : decode cX7_add 200 = .ok (.istore 8, 2) := by decide +kernel
theorem dX7_add_202 : decode cX7_add 202 = .ok (.iload 8, 2) := by decide +kernel
theorem dX7_add_204 : decode cX7_add 204 = .ok (.bipush 12, 2) := by decide +kernel
theorem dX7_add_206 : decode cX7_add 206 = .ok (.if_icmp .gt 34, 3) := by decide +kernel
theorem dX7_add_209 : decode cX7_add 209 = .ok (.aload_n 0, 1) := by decide +kernel
theorem dX7_add_210 : decode cX7_add 210 = .ok (.getfield 21, 3) := by decide +kernel
theorem dX7_add_213 : decode cX7_add 213 = .ok (.iload 6, 2) := by decide +kernel
theorem dX7_add_215 : decode cX7_add 215 = .ok (.iload 8, 2) := by decide +kernel
theorem dX7_add_217 : decode cX7_add 217 = .ok (.iadd, 1) := by decide +kernel
theorem dX7_add_218 : decode cX7_add 218 = .ok (.dup2, 1) := by decide +kernel
theorem dX7_add_219 : decode cX7_add 219 = .ok (.iaload, 1) := by decide +kernel
theorem dX7_add_220 : decode cX7_add 220 = .ok (.aload_n 0, 1) := by decide +kernel
theorem dX7_add_221 : decode cX7_add 221 = .ok (.getfield 21, 3) := by decide +kernel
theorem dX7_add_224 : decode cX7_add 224 = .ok (.iload 6, 2) := by decide +kernel
theorem dX7_add_226 : decode cX7_add 226 = .ok (.iload 8, 2) := by decide +kernel
theorem dX7_add_228 : decode cX7_add 228 = .ok (.iadd, 1) := by decide +kernel
theorem dX7_add_229 : decode cX7_add 229 = .ok (.iconst 1, 1) := by decide +kernel
theorem dX7_add_230 : decode cX7_add 230 = .ok (.isub, 1) := by decide +kernel
theorem dX7_add_231 : decode cX7_add 231 = .ok (.iaload, 1) := by decide +kernel
theorem dX7_add_232 : decode cX7_add 232 = .ok (.iadd, 1) := by decide +kernel
theorem dX7_add_233 : decode cX7_add 233 = .ok (.iastore, 1) := by decide +kernel
theorem dX7_add_234 : decode cX7_add 234 = .ok (.iinc 8 1, 3) := by decide +kernel
theorem dX7_add_237 : decode cX7_add 237 = .ok (.goto (-35), 3) := by decide +kernel
theorem dX7_add_240 : decode cX7_add 240 = .ok (.aload_n 0, 1) := by decide +kernel
theorem dX7_add_241 : decode cX7_add 241 = .ok (.dup, 1) := by decide +kernel
theorem dX7_add_242 : decode cX7_add 242 = .ok (.getfield 28, 3) := by decide +kernel
theorem dX7_add_245 : decode cX7_add 245 = .ok (.iconst 1, 1) := by decide +kernel
theorem dX7_add_246 : decode cX7_add 246 = .ok (.iadd, 1) := by decide +kernel
theorem dX7_add_247 : decode cX7_add 247 = .ok (.putfield 28, 3) := by decide +kernel
theorem dX7_add_250 : decode cX7_add 250 = .ok (.return_, 1) := by decide +kernel
def ok_X7_add_77 (K : ro_K) (v1 : Int32) (v6 : Int32) : ro_Mem → Prop := fun e => ro_X K 101 [(0, .ref (ro_ad (kG K) 199)), (1, .int v1), (3, .ref (ro_ad (kG K) 1)), (4, .ref (ro_ad (kG K) 62)), (6, .int v6)] [] e
def fb_X7_add_77 (v1 : Int32) (v6 : Int32) (rec : (Int32 × ro_Mem) → Option ro_Mem) (v7 : Int32) (μ : ro_Mem) : Option ro_Mem :=
  if 12 < v7 then
  (some μ)
  else
  (if ro_in (v6 + v7) 260 then
  (ro_lt (ro_set μ 203 (v6 + v7).toNatClampNeg 0) fun m19 =>
  rec (v7 + 1, m19)) else none)
theorem bb_X7_add_77 {K : ro_K} (hK : ro_C K RX7 cX7_add 10 4) (hR : ro_R K none) {v1 : Int32} {v6 : Int32}  {μ : ro_Mem} {rec : (Int32 × ro_Mem) → Option ro_Mem} {v7 : Int32} {q : ro_Mem} (hrec : ∀ (s : Int32 × ro_Mem) (q : ro_Mem), rec s = some q → ok_X7_add_77 K v1 v6 q → ro_X K 77 [(0, .ref (ro_ad (kG K) 199)), (1, .int v1), (3, .ref (ro_ad (kG K) 1)), (4, .ref (ro_ad (kG K) 62)), (6, .int v6), (7, .int s.1)] [] s.2) (hf : fb_X7_add_77 v1 v6 rec v7 μ = some q) (hq : ok_X7_add_77 K v1 v6 q) : ro_X K 77 [(0, .ref (ro_ad (kG K) 199)), (1, .int v1), (3, .ref (ro_ad (kG K) 1)), (4, .ref (ro_ad (kG K) 62)), (6, .int v6), (7, .int v7)] [] μ := by
  unfold fb_X7_add_77 at hf
  refine ro_iload hK 5 rfl dX7_add_77 ?_
  refine ro_bipush (v := 12) hK dX7_add_79 (by decide) ?_
  refine ro_icmp_gt hK 101 dX7_add_81 (by decide) (fun c17 => ?_) (fun c17 => ?_)
  · have hf := ro_it hf c17
    refine ro_sub (L' := [(0, .ref (ro_ad (kG K) 199)), (1, .int v1), (3, .ref (ro_ad (kG K) 1)), (4, .ref (ro_ad (kG K) 62)), (6, .int v6)]) [0, 1, 2, 3, 4] rfl ?_
    obtain rfl := Option.some.inj hf
    exact hq
  · have hf := ro_ie hf c17
    refine ro_aload_n hK 0 rfl dX7_add_84 rfl ?_
    refine ro_getr hK fl_X7_21 sh_199 dX7_add_85 ?_
    refine ro_iload hK 4 rfl dX7_add_88 ?_
    refine ro_iload hK 5 rfl dX7_add_90 ?_
    refine ro_iadd hK dX7_add_92 ?_
    refine ro_iconst (v := 0) hK dX7_add_93 (by decide) ?_
    obtain ⟨g18, hf⟩ := ro_gd hf
    obtain ⟨m19, e20, hf⟩ := ro_ld hf
    refine ro_iast hK sh_203 g18 dX7_add_94 ?_
    refine ro_mv e20 ?_
    refine ro_iinc (v := v7 + 1) (L' := [(7, .int (v7 + 1)), (0, .ref (ro_ad (kG K) 199)), (1, .int v1), (3, .ref (ro_ad (kG K) 1)), (4, .ref (ro_ad (kG K) 62)), (6, .int v6)]) hK 5 rfl dX7_add_95 rfl (by decide) rfl ?_
    refine ro_goto hK 77 dX7_add_98 (by decide) ?_
    refine ro_sub (L' := [(0, .ref (ro_ad (kG K) 199)), (1, .int v1), (3, .ref (ro_ad (kG K) 1)), (4, .ref (ro_ad (kG K) 62)), (6, .int v6), (7, .int (v7 + 1))]) [1, 2, 3, 4, 5, 0] rfl ?_
    exact hrec (v7 + 1, m19) _ hf hq
def fl_X7_add_77 (v1 : Int32) (v6 : Int32) : (Int32 × ro_Mem) → Option ro_Mem :=
  ro_loop (fun rec s => fb_X7_add_77 v1 v6 rec s.1 s.2) ro_FU
theorem lp_X7_add_77 {K : ro_K} (hK : ro_C K RX7 cX7_add 10 4) (hR : ro_R K none) {v1 : Int32} {v6 : Int32}  {s : Int32 × ro_Mem} {q : ro_Mem} (hf : fl_X7_add_77 v1 v6 s = some q) (hq : ok_X7_add_77 K v1 v6 q) : ro_X K 77 [(0, .ref (ro_ad (kG K) 199)), (1, .int v1), (3, .ref (ro_ad (kG K) 1)), (4, .ref (ro_ad (kG K) 62)), (6, .int v6), (7, .int s.1)] [] s.2 :=
  ro_loopX (b := fun rec s => fb_X7_add_77 v1 v6 rec s.1 s.2) (X := fun s => ro_X K 77 [(0, .ref (ro_ad (kG K) 199)), (1, .int v1), (3, .ref (ro_ad (kG K) 1)), (4, .ref (ro_ad (kG K) 62)), (6, .int v6), (7, .int s.1)] [] s.2) (OK := ok_X7_add_77 K v1 v6) (fun rec s q hrec hb ho => bb_X7_add_77 hK hR  hrec hb ho) ro_FU s q hf hq
def ok_X7_add_110 (K : ro_K) (v1 : Int32) (v6 : Int32) (o7 : Nat) : ro_Mem → Prop := fun e => ro_X K 199 [(0, .ref (ro_ad (kG K) 199)), (6, .int v6)] [] e
def fb_X7_add_110 (v1 : Int32) (v6 : Int32) (o7 : Nat) (rec : (Int32 × ro_Mem) → Option ro_Mem) (v8 : Int32) (μ : ro_Mem) : Option ro_Mem :=
  if (μ o7 5) ≤ v8 then
  (some μ)
  else
  (if ro_in v8 32 then
  (ro_lt (((μ (o7 + 4) v8.toNatClampNeg) - (μ 199 4)) + 1) fun z26 =>
  if (μ (o7 + 5) v8.toNatClampNeg) = (μ 199 3) then
  (if z26 ≤ 0 then
  (rec (v8 + 1, μ))
  else
  (if 12 < z26 then
  (rec (v8 + 1, μ))
  else
  (if ro_in (v6 + z26) 260 then
  ((fn_X0_fromNote v8 (μ 199 3) v1 2 μ).bind fun q32 =>
  ro_lt (ro_set μ 203 (v6 + z26).toNatClampNeg ((μ 203 (v6 + z26).toNatClampNeg) + q32)) fun m34 =>
  rec (v8 + 1, m34)) else none)))
  else
  (rec (v8 + 1, μ))) else none)
theorem bb_X7_add_110 {K : ro_K} (hK : ro_C K RX7 cX7_add 10 4) (hR : ro_R K none) {v1 : Int32} {v6 : Int32} {o7 : Nat} (h7 : ro_sh o7 = (0, 5)) {μ : ro_Mem} {rec : (Int32 × ro_Mem) → Option ro_Mem} {v8 : Int32} {q : ro_Mem} (hrec : ∀ (s : Int32 × ro_Mem) (q : ro_Mem), rec s = some q → ok_X7_add_110 K v1 v6 o7 q → ro_X K 110 [(0, .ref (ro_ad (kG K) 199)), (1, .int v1), (3, .ref (ro_ad (kG K) 1)), (4, .ref (ro_ad (kG K) 62)), (6, .int v6), (7, .ref (ro_ad (kG K) o7)), (8, .int s.1)] [] s.2) (hf : fb_X7_add_110 v1 v6 o7 rec v8 μ = some q) (hq : ok_X7_add_110 K v1 v6 o7 q) : ro_X K 110 [(0, .ref (ro_ad (kG K) 199)), (1, .int v1), (3, .ref (ro_ad (kG K) 1)), (4, .ref (ro_ad (kG K) 62)), (6, .int v6), (7, .ref (ro_ad (kG K) o7)), (8, .int v8)] [] μ := by
  unfold fb_X7_add_110 at hf
  refine ro_iload hK 6 rfl dX7_add_110 ?_
  refine ro_aload hK 5 rfl dX7_add_112 ?_
  refine ro_geti hK fl_X7_34 h7 dX7_add_114 ?_
  refine ro_icmp_ge hK 199 dX7_add_117 (by decide) (fun c24 => ?_) (fun c24 => ?_)
  · have hf := ro_it hf c24
    refine ro_sub (L' := [(0, .ref (ro_ad (kG K) 199)), (6, .int v6)]) [0, 4] rfl ?_
    obtain rfl := Option.some.inj hf
    exact hq
  · have hf := ro_ie hf c24
    refine ro_aload hK 5 rfl dX7_add_120 ?_
    refine ro_getr hK fl_X7_41 h7 dX7_add_122 ?_
    refine ro_iload hK 6 rfl dX7_add_125 ?_
    obtain ⟨g25, hf⟩ := ro_gd hf
    refine ro_iald hK (so_5_4 h7) g25 dX7_add_127 ?_
    refine ro_aload_n hK 0 rfl dX7_add_128 rfl ?_
    refine ro_geti hK fl_X7_44 sh_199 dX7_add_129 ?_
    refine ro_isub hK dX7_add_132 ?_
    refine ro_iconst (v := 1) hK dX7_add_133 (by decide) ?_
    refine ro_iadd hK dX7_add_134 ?_
    obtain ⟨z26, e27, hf⟩ := ro_ld hf
    refine ro_iv e27 ?_
    refine ro_istore (L' := [(9, .int z26), (0, .ref (ro_ad (kG K) 199)), (1, .int v1), (3, .ref (ro_ad (kG K) 1)), (4, .ref (ro_ad (kG K) 62)), (6, .int v6), (7, .ref (ro_ad (kG K) o7)), (8, .int v8)]) hK dX7_add_135 (by decide) rfl ?_
    refine ro_aload hK 6 rfl dX7_add_137 ?_
    refine ro_getr hK fl_X7_39 h7 dX7_add_139 ?_
    refine ro_iload hK 7 rfl dX7_add_142 ?_
    refine ro_iald hK (so_5_5 h7) g25 dX7_add_144 ?_
    refine ro_aload_n hK 1 rfl dX7_add_145 rfl ?_
    refine ro_geti hK fl_X7_24 sh_199 dX7_add_146 ?_
    refine ro_icmp_ne hK 193 dX7_add_149 (by decide) (fun c28 => ?_) (fun c28 => ?_)
    · have hf := ro_ie hf c28
      refine ro_iinc (v := v8 + 1) (L' := [(8, .int (v8 + 1)), (9, .int z26), (0, .ref (ro_ad (kG K) 199)), (1, .int v1), (3, .ref (ro_ad (kG K) 1)), (4, .ref (ro_ad (kG K) 62)), (6, .int v6), (7, .ref (ro_ad (kG K) o7))]) hK 7 rfl dX7_add_193 rfl (by decide) rfl ?_
      refine ro_goto hK 110 dX7_add_196 (by decide) ?_
      refine ro_sub (L' := [(0, .ref (ro_ad (kG K) 199)), (1, .int v1), (3, .ref (ro_ad (kG K) 1)), (4, .ref (ro_ad (kG K) 62)), (6, .int v6), (7, .ref (ro_ad (kG K) o7)), (8, .int (v8 + 1))]) [2, 3, 4, 5, 6, 7, 0] rfl ?_
      exact hrec (v8 + 1, μ) _ hf hq
    · have hf := ro_it hf c28
      refine ro_iload hK 0 rfl dX7_add_152 ?_
      refine ro_if_le hK 193 dX7_add_154 (by decide) (fun c29 => ?_) (fun c29 => ?_)
      · have hf := ro_it hf c29
        refine ro_iinc (v := v8 + 1) (L' := [(8, .int (v8 + 1)), (9, .int z26), (0, .ref (ro_ad (kG K) 199)), (1, .int v1), (3, .ref (ro_ad (kG K) 1)), (4, .ref (ro_ad (kG K) 62)), (6, .int v6), (7, .ref (ro_ad (kG K) o7))]) hK 7 rfl dX7_add_193 rfl (by decide) rfl ?_
        refine ro_goto hK 110 dX7_add_196 (by decide) ?_
        refine ro_sub (L' := [(0, .ref (ro_ad (kG K) 199)), (1, .int v1), (3, .ref (ro_ad (kG K) 1)), (4, .ref (ro_ad (kG K) 62)), (6, .int v6), (7, .ref (ro_ad (kG K) o7)), (8, .int (v8 + 1))]) [2, 3, 4, 5, 6, 7, 0] rfl ?_
        exact hrec (v8 + 1, μ) _ hf hq
      · have hf := ro_ie hf c29
        refine ro_iload hK 0 rfl dX7_add_157 ?_
        refine ro_bipush (v := 12) hK dX7_add_159 (by decide) ?_
        refine ro_icmp_gt hK 193 dX7_add_161 (by decide) (fun c30 => ?_) (fun c30 => ?_)
        · have hf := ro_it hf c30
          refine ro_iinc (v := v8 + 1) (L' := [(8, .int (v8 + 1)), (9, .int z26), (0, .ref (ro_ad (kG K) 199)), (1, .int v1), (3, .ref (ro_ad (kG K) 1)), (4, .ref (ro_ad (kG K) 62)), (6, .int v6), (7, .ref (ro_ad (kG K) o7))]) hK 7 rfl dX7_add_193 rfl (by decide) rfl ?_
          refine ro_goto hK 110 dX7_add_196 (by decide) ?_
          refine ro_sub (L' := [(0, .ref (ro_ad (kG K) 199)), (1, .int v1), (3, .ref (ro_ad (kG K) 1)), (4, .ref (ro_ad (kG K) 62)), (6, .int v6), (7, .ref (ro_ad (kG K) o7)), (8, .int (v8 + 1))]) [2, 3, 4, 5, 6, 7, 0] rfl ?_
          exact hrec (v8 + 1, μ) _ hf hq
        · have hf := ro_ie hf c30
          refine ro_aload_n hK 1 rfl dX7_add_164 rfl ?_
          refine ro_getr hK fl_X7_21 sh_199 dX7_add_165 ?_
          refine ro_iload hK 5 rfl dX7_add_168 ?_
          refine ro_iload hK 0 rfl dX7_add_170 ?_
          refine ro_iadd hK dX7_add_172 ?_
          refine ro_dup2 hK dX7_add_173 rfl rfl ?_
          obtain ⟨g31, hf⟩ := ro_gd hf
          refine ro_iald hK sh_203 g31 dX7_add_174 ?_
          refine ro_aload hK 4 rfl dX7_add_175 ?_
          refine ro_iload hK 7 rfl dX7_add_177 ?_
          refine ro_aload_n hK 1 rfl dX7_add_179 rfl ?_
          refine ro_geti hK fl_X7_24 sh_199 dX7_add_180 ?_
          refine ro_iload_n hK 2 rfl dX7_add_183 rfl ?_
          refine ro_aload_n hK 3 rfl dX7_add_184 rfl ?_
          refine ro_getr hK fl_X7_53 sh_1 dX7_add_185 ?_
          obtain ⟨q32, e33, hf⟩ := ro_bd hf
          refine ro_callvi hK [.int v8, .int (μ 199 3), .int v1, .ref (ro_ad (kG K) 2)] ml_X7_68 mv_X0_fromNote (mt_X0_fromNote (kl K) (kG K) sh_2 e33) sh_62 ⟨_, rfl, rfl⟩ (by decide) rfl rfl (Nat.le_of_ble_eq_true rfl) dX7_add_188 ?_
          refine ro_iadd hK dX7_add_191 ?_
          obtain ⟨m34, e35, hf⟩ := ro_ld hf
          refine ro_iast hK sh_203 g31 dX7_add_192 ?_
          refine ro_mv e35 ?_
          refine ro_iinc (v := v8 + 1) (L' := [(8, .int (v8 + 1)), (9, .int z26), (0, .ref (ro_ad (kG K) 199)), (1, .int v1), (3, .ref (ro_ad (kG K) 1)), (4, .ref (ro_ad (kG K) 62)), (6, .int v6), (7, .ref (ro_ad (kG K) o7))]) hK 7 rfl dX7_add_193 rfl (by decide) rfl ?_
          refine ro_goto hK 110 dX7_add_196 (by decide) ?_
          refine ro_sub (L' := [(0, .ref (ro_ad (kG K) 199)), (1, .int v1), (3, .ref (ro_ad (kG K) 1)), (4, .ref (ro_ad (kG K) 62)), (6, .int v6), (7, .ref (ro_ad (kG K) o7)), (8, .int (v8 + 1))]) [2, 3, 4, 5, 6, 7, 0] rfl ?_
          exact hrec (v8 + 1, m34) _ hf hq
def fl_X7_add_110 (v1 : Int32) (v6 : Int32) (o7 : Nat) : (Int32 × ro_Mem) → Option ro_Mem :=
  ro_loop (fun rec s => fb_X7_add_110 v1 v6 o7 rec s.1 s.2) ro_FU
theorem lp_X7_add_110 {K : ro_K} (hK : ro_C K RX7 cX7_add 10 4) (hR : ro_R K none) {v1 : Int32} {v6 : Int32} {o7 : Nat} (h7 : ro_sh o7 = (0, 5)) {s : Int32 × ro_Mem} {q : ro_Mem} (hf : fl_X7_add_110 v1 v6 o7 s = some q) (hq : ok_X7_add_110 K v1 v6 o7 q) : ro_X K 110 [(0, .ref (ro_ad (kG K) 199)), (1, .int v1), (3, .ref (ro_ad (kG K) 1)), (4, .ref (ro_ad (kG K) 62)), (6, .int v6), (7, .ref (ro_ad (kG K) o7)), (8, .int s.1)] [] s.2 :=
  ro_loopX (b := fun rec s => fb_X7_add_110 v1 v6 o7 rec s.1 s.2) (X := fun s => ro_X K 110 [(0, .ref (ro_ad (kG K) 199)), (1, .int v1), (3, .ref (ro_ad (kG K) 1)), (4, .ref (ro_ad (kG K) 62)), (6, .int v6), (7, .ref (ro_ad (kG K) o7)), (8, .int s.1)] [] s.2) (OK := ok_X7_add_110 K v1 v6 o7) (fun rec s q hrec hb ho => bb_X7_add_110 hK hR h7 hrec hb ho) ro_FU s q hf hq
def ok_X7_add_202 (K : ro_K) (v6 : Int32) : ro_Mem → Prop := fun e => ro_X K 240 [(0, .ref (ro_ad (kG K) 199))] [] e
def fb_X7_add_202 (v6 : Int32) (rec : (Int32 × ro_Mem) → Option ro_Mem) (v8 : Int32) (μ : ro_Mem) : Option ro_Mem :=
  if 12 < v8 then
  (some μ)
  else
  (if ro_in (v6 + v8) 260 then
  (if ro_in ((v6 + v8) - 1) 260 then
  (ro_lt (ro_set μ 203 (v6 + v8).toNatClampNeg ((μ 203 (v6 + v8).toNatClampNeg) + (μ 203 ((v6 + v8) - 1).toNatClampNeg))) fun m41 =>
  rec (v8 + 1, m41)) else none) else none)
theorem bb_X7_add_202 {K : ro_K} (hK : ro_C K RX7 cX7_add 10 4) (hR : ro_R K none) {v6 : Int32}  {μ : ro_Mem} {rec : (Int32 × ro_Mem) → Option ro_Mem} {v8 : Int32} {q : ro_Mem} (hrec : ∀ (s : Int32 × ro_Mem) (q : ro_Mem), rec s = some q → ok_X7_add_202 K v6 q → ro_X K 202 [(0, .ref (ro_ad (kG K) 199)), (6, .int v6), (8, .int s.1)] [] s.2) (hf : fb_X7_add_202 v6 rec v8 μ = some q) (hq : ok_X7_add_202 K v6 q) : ro_X K 202 [(0, .ref (ro_ad (kG K) 199)), (6, .int v6), (8, .int v8)] [] μ := by
  unfold fb_X7_add_202 at hf
  refine ro_iload hK 2 rfl dX7_add_202 ?_
  refine ro_bipush (v := 12) hK dX7_add_204 (by decide) ?_
  refine ro_icmp_gt hK 240 dX7_add_206 (by decide) (fun c38 => ?_) (fun c38 => ?_)
  · have hf := ro_it hf c38
    refine ro_sub (L' := [(0, .ref (ro_ad (kG K) 199))]) [0] rfl ?_
    obtain rfl := Option.some.inj hf
    exact hq
  · have hf := ro_ie hf c38
    refine ro_aload_n hK 0 rfl dX7_add_209 rfl ?_
    refine ro_getr hK fl_X7_21 sh_199 dX7_add_210 ?_
    refine ro_iload hK 1 rfl dX7_add_213 ?_
    refine ro_iload hK 2 rfl dX7_add_215 ?_
    refine ro_iadd hK dX7_add_217 ?_
    refine ro_dup2 hK dX7_add_218 rfl rfl ?_
    obtain ⟨g39, hf⟩ := ro_gd hf
    refine ro_iald hK sh_203 g39 dX7_add_219 ?_
    refine ro_aload_n hK 0 rfl dX7_add_220 rfl ?_
    refine ro_getr hK fl_X7_21 sh_199 dX7_add_221 ?_
    refine ro_iload hK 1 rfl dX7_add_224 ?_
    refine ro_iload hK 2 rfl dX7_add_226 ?_
    refine ro_iadd hK dX7_add_228 ?_
    refine ro_iconst (v := 1) hK dX7_add_229 (by decide) ?_
    refine ro_isub hK dX7_add_230 ?_
    obtain ⟨g40, hf⟩ := ro_gd hf
    refine ro_iald hK sh_203 g40 dX7_add_231 ?_
    refine ro_iadd hK dX7_add_232 ?_
    obtain ⟨m41, e42, hf⟩ := ro_ld hf
    refine ro_iast hK sh_203 g39 dX7_add_233 ?_
    refine ro_mv e42 ?_
    refine ro_iinc (v := v8 + 1) (L' := [(8, .int (v8 + 1)), (0, .ref (ro_ad (kG K) 199)), (6, .int v6)]) hK 2 rfl dX7_add_234 rfl (by decide) rfl ?_
    refine ro_goto hK 202 dX7_add_237 (by decide) ?_
    refine ro_sub (L' := [(0, .ref (ro_ad (kG K) 199)), (6, .int v6), (8, .int (v8 + 1))]) [1, 2, 0] rfl ?_
    exact hrec (v8 + 1, m41) _ hf hq
def fl_X7_add_202 (v6 : Int32) : (Int32 × ro_Mem) → Option ro_Mem :=
  ro_loop (fun rec s => fb_X7_add_202 v6 rec s.1 s.2) ro_FU
theorem lp_X7_add_202 {K : ro_K} (hK : ro_C K RX7 cX7_add 10 4) (hR : ro_R K none) {v6 : Int32}  {s : Int32 × ro_Mem} {q : ro_Mem} (hf : fl_X7_add_202 v6 s = some q) (hq : ok_X7_add_202 K v6 q) : ro_X K 202 [(0, .ref (ro_ad (kG K) 199)), (6, .int v6), (8, .int s.1)] [] s.2 :=
  ro_loopX (b := fun rec s => fb_X7_add_202 v6 rec s.1 s.2) (X := fun s => ro_X K 202 [(0, .ref (ro_ad (kG K) 199)), (6, .int v6), (8, .int s.1)] [] s.2) (OK := ok_X7_add_202 K v6) (fun rec s q hrec hb ho => bb_X7_add_202 hK hR  hrec hb ho) ro_FU s q hf hq
def fj_X7_add_41 (v1 : Int32) (v2 : Int32) (v5 : Int32) (t1 : Int32) (t2 : Int32) (μ : ro_Mem) : Option ro_Mem :=
  if ro_in t1 20 then
  (ro_lt (ro_set μ 200 t1.toNatClampNeg t2) fun m7 =>
  if ro_in (m7 199 6) 20 then
  (ro_lt (ro_set m7 201 (m7 199 6).toNatClampNeg (v5 + v2)) fun m10 =>
  if ro_in (m10 199 6) 20 then
  (ro_lt (ro_set m10 202 (m10 199 6).toNatClampNeg 0) fun m13 =>
  ro_lt ((m13 199 6) * 13) fun z15 =>
  (fl_X7_add_77 v1 z15 (0, m13)).bind fun q21 =>
  if ro_sh (ro_rf q21 1 1) = (0, 5) then
  ((fl_X7_add_110 v1 z15 (ro_rf q21 1 1) (0, q21)).bind fun q36 =>
  (fl_X7_add_202 z15 (1, q36)).bind fun q43 =>
  ro_lt (ro_set q43 199 6 ((q43 199 6) + 1)) fun m45 =>
  some m45) else none) else none) else none) else none
theorem bj_X7_add_41 {K : ro_K} (hK : ro_C K RX7 cX7_add 10 4) (hR : ro_R K none) {v1 : Int32} {v2 : Int32} {v5 : Int32} {t1 : Int32} {t2 : Int32}   {μ : ro_Mem}  {out : ro_Mem} (hf : fj_X7_add_41 v1 v2 v5 t1 t2 μ = some out) (hq : kQ K none out) : ro_X K 41 [(0, .ref (ro_ad (kG K) 199)), (1, .int v1), (2, .int v2), (3, .ref (ro_ad (kG K) 1)), (4, .ref (ro_ad (kG K) 62)), (5, .int v5)] [.int t2, .int t1, .ref (ro_ad (kG K) 200)] μ := by
  unfold fj_X7_add_41 at hf
  obtain ⟨g6, hf⟩ := ro_gd hf
  obtain ⟨m7, e8, hf⟩ := ro_ld hf
  refine ro_iast hK sh_200 g6 dX7_add_41 ?_
  refine ro_mv e8 ?_
  refine ro_aload_n hK 0 rfl dX7_add_42 rfl ?_
  refine ro_getr hK fl_X7_15 sh_199 dX7_add_43 ?_
  refine ro_aload_n hK 0 rfl dX7_add_46 rfl ?_
  refine ro_geti hK fl_X7_28 sh_199 dX7_add_47 ?_
  refine ro_iload hK 5 rfl dX7_add_50 ?_
  refine ro_iload_n hK 2 rfl dX7_add_52 rfl ?_
  refine ro_iadd hK dX7_add_53 ?_
  obtain ⟨g9, hf⟩ := ro_gd hf
  obtain ⟨m10, e11, hf⟩ := ro_ld hf
  refine ro_iast hK sh_201 g9 dX7_add_54 ?_
  refine ro_mv e11 ?_
  refine ro_aload_n hK 0 rfl dX7_add_55 rfl ?_
  refine ro_getr hK fl_X7_18 sh_199 dX7_add_56 ?_
  refine ro_aload_n hK 0 rfl dX7_add_59 rfl ?_
  refine ro_geti hK fl_X7_28 sh_199 dX7_add_60 ?_
  refine ro_iconst (v := 0) hK dX7_add_63 (by decide) ?_
  obtain ⟨g12, hf⟩ := ro_gd hf
  obtain ⟨m13, e14, hf⟩ := ro_ld hf
  refine ro_iast hK sh_202 g12 dX7_add_64 ?_
  refine ro_mv e14 ?_
  refine ro_aload_n hK 0 rfl dX7_add_65 rfl ?_
  refine ro_geti hK fl_X7_28 sh_199 dX7_add_66 ?_
  refine ro_bipush (v := 13) hK dX7_add_69 (by decide) ?_
  refine ro_imul hK dX7_add_71 ?_
  obtain ⟨z15, e16, hf⟩ := ro_ld hf
  refine ro_iv e16 ?_
  refine ro_istore (L' := [(6, .int z15), (0, .ref (ro_ad (kG K) 199)), (1, .int v1), (2, .int v2), (3, .ref (ro_ad (kG K) 1)), (4, .ref (ro_ad (kG K) 62)), (5, .int v5)]) hK dX7_add_72 (by decide) rfl ?_
  refine ro_iconst (v := 0) hK dX7_add_74 (by decide) ?_
  refine ro_istore (L' := [(7, .int 0), (6, .int z15), (0, .ref (ro_ad (kG K) 199)), (1, .int v1), (2, .int v2), (3, .ref (ro_ad (kG K) 1)), (4, .ref (ro_ad (kG K) 62)), (5, .int v5)]) hK dX7_add_75 (by decide) rfl ?_
  obtain ⟨q21, e22, hf⟩ := ro_bd hf
  refine ro_sub (L' := [(0, .ref (ro_ad (kG K) 199)), (1, .int v1), (3, .ref (ro_ad (kG K) 1)), (4, .ref (ro_ad (kG K) 62)), (6, .int z15), (7, .int 0)]) [2, 3, 5, 6, 1, 0] rfl ?_
  refine lp_X7_add_77 hK hR  e22 ?_
  show ro_X K 101 [(0, .ref (ro_ad (kG K) 199)), (1, .int v1), (3, .ref (ro_ad (kG K) 1)), (4, .ref (ro_ad (kG K) 62)), (6, .int z15)] [] q21
  refine ro_aload_n hK 2 rfl dX7_add_101 rfl ?_
  obtain ⟨g23, hf⟩ := ro_gd hf
  refine ro_getm hK fl_X7_64 sh_1 dX7_add_102 ?_
  refine ro_astore (L' := [(7, .ref (ro_ad (kG K) (ro_rf q21 1 1))), (0, .ref (ro_ad (kG K) 199)), (1, .int v1), (3, .ref (ro_ad (kG K) 1)), (4, .ref (ro_ad (kG K) 62)), (6, .int z15)]) hK dX7_add_105 (by decide) rfl ?_
  refine ro_iconst (v := 0) hK dX7_add_107 (by decide) ?_
  refine ro_istore (L' := [(8, .int 0), (7, .ref (ro_ad (kG K) (ro_rf q21 1 1))), (0, .ref (ro_ad (kG K) 199)), (1, .int v1), (3, .ref (ro_ad (kG K) 1)), (4, .ref (ro_ad (kG K) 62)), (6, .int z15)]) hK dX7_add_108 (by decide) rfl ?_
  obtain ⟨q36, e37, hf⟩ := ro_bd hf
  refine ro_sub (L' := [(0, .ref (ro_ad (kG K) 199)), (1, .int v1), (3, .ref (ro_ad (kG K) 1)), (4, .ref (ro_ad (kG K) 62)), (6, .int z15), (7, .ref (ro_ad (kG K) (ro_rf q21 1 1))), (8, .int 0)]) [2, 3, 4, 5, 6, 1, 0] rfl ?_
  refine lp_X7_add_110 hK hR g23 e37 ?_
  show ro_X K 199 [(0, .ref (ro_ad (kG K) 199)), (6, .int z15)] [] q36
  refine ro_iconst (v := 1) hK dX7_add_199 (by decide) ?_
  refine ro_istore (L' := [(8, .int 1), (0, .ref (ro_ad (kG K) 199)), (6, .int z15)]) hK dX7_add_200 (by decide) rfl ?_
  obtain ⟨q43, e44, hf⟩ := ro_bd hf
  refine ro_sub (L' := [(0, .ref (ro_ad (kG K) 199)), (6, .int z15), (8, .int 1)]) [1, 2, 0] rfl ?_
  refine lp_X7_add_202 hK hR  e44 ?_
  show ro_X K 240 [(0, .ref (ro_ad (kG K) 199))] [] q43
  refine ro_aload_n hK 0 rfl dX7_add_240 rfl ?_
  refine ro_dup hK dX7_add_241 rfl ?_
  refine ro_geti hK fl_X7_28 sh_199 dX7_add_242 ?_
  refine ro_iconst (v := 1) hK dX7_add_245 (by decide) ?_
  refine ro_iadd hK dX7_add_246 ?_
  obtain ⟨m45, e46, hf⟩ := ro_ld hf
  refine ro_puti hK fl_X7_28 sh_199 rfl rfl dX7_add_247 ?_
  refine ro_mv e46 ?_
  obtain rfl := Option.some.inj hf
  exact ro_vret hK hR dX7_add_250 hq
def fn_X7_add (v1 : Int32) (v2 : Int32) (μ : ro_Mem) : Option ro_Mem :=
  if (μ 199 6) < 20 then
  (if ro_in v1 96 then
  (ro_lt (μ 4 v1.toNatClampNeg) fun z3 =>
  if v2 = 0 then
  (fj_X7_add_41 v1 v2 z3 (μ 199 6) 0 μ)
  else
  (fj_X7_add_41 v1 v2 z3 (μ 199 6) (z3 + v2) μ)) else none)
  else
  (some μ)
theorem be_X7_add {K : ro_K} (hK : ro_C K RX7 cX7_add 10 4) (hR : ro_R K none) {v1 : Int32} {v2 : Int32}  {μ : ro_Mem} {out : ro_Mem} (hf : fn_X7_add v1 v2 μ = some out) (hq : kQ K none out) : ro_X K 0 [(0, .ref (ro_ad (kG K) 199)), (1, .int v1), (2, .int v2), (3, .ref (ro_ad (kG K) 1)), (4, .ref (ro_ad (kG K) 62))] [] μ := by
  unfold fn_X7_add at hf
  refine ro_aload_n hK 0 rfl dX7_add_0 rfl ?_
  refine ro_geti hK fl_X7_28 sh_199 dX7_add_1 ?_
  refine ro_bipush (v := 20) hK dX7_add_4 (by decide) ?_
  refine ro_icmp_lt hK 10 dX7_add_6 (by decide) (fun c1 => ?_) (fun c1 => ?_)
  · have hf := ro_it hf c1
    refine ro_aload_n hK 3 rfl dX7_add_10 rfl ?_
    refine ro_getr hK fl_X7_53 sh_1 dX7_add_11 ?_
    refine ro_getr hK fl_X7_59 sh_2 dX7_add_14 ?_
    refine ro_iload_n hK 1 rfl dX7_add_17 rfl ?_
    obtain ⟨g2, hf⟩ := ro_gd hf
    refine ro_iald hK sh_4 g2 dX7_add_18 ?_
    obtain ⟨z3, e4, hf⟩ := ro_ld hf
    refine ro_iv e4 ?_
    refine ro_istore (L' := [(5, .int z3), (0, .ref (ro_ad (kG K) 199)), (1, .int v1), (2, .int v2), (3, .ref (ro_ad (kG K) 1)), (4, .ref (ro_ad (kG K) 62))]) hK dX7_add_19 (by decide) rfl ?_
    refine ro_aload_n hK 1 rfl dX7_add_21 rfl ?_
    refine ro_getr hK fl_X7_9 sh_199 dX7_add_22 ?_
    refine ro_aload_n hK 1 rfl dX7_add_25 rfl ?_
    refine ro_geti hK fl_X7_28 sh_199 dX7_add_26 ?_
    refine ro_iload_n hK 3 rfl dX7_add_29 rfl ?_
    refine ro_if_ne hK 37 dX7_add_30 (by decide) (fun c5 => ?_) (fun c5 => ?_)
    · have hf := ro_ie hf c5
      refine ro_iload hK 0 rfl dX7_add_37 ?_
      refine ro_iload_n hK 3 rfl dX7_add_39 rfl ?_
      refine ro_iadd hK dX7_add_40 ?_
      refine ro_sub (L' := [(0, .ref (ro_ad (kG K) 199)), (1, .int v1), (2, .int v2), (3, .ref (ro_ad (kG K) 1)), (4, .ref (ro_ad (kG K) 62)), (5, .int z3)]) [1, 2, 3, 4, 5, 0] rfl ?_
      exact bj_X7_add_41 hK hR  hf hq
    · have hf := ro_it hf c5
      refine ro_iconst (v := 0) hK dX7_add_33 (by decide) ?_
      refine ro_goto hK 41 dX7_add_34 (by decide) ?_
      refine ro_sub (L' := [(0, .ref (ro_ad (kG K) 199)), (1, .int v1), (2, .int v2), (3, .ref (ro_ad (kG K) 1)), (4, .ref (ro_ad (kG K) 62)), (5, .int z3)]) [1, 2, 3, 4, 5, 0] rfl ?_
      exact bj_X7_add_41 hK hR  hf hq
  · have hf := ro_ie hf c1
    obtain rfl := Option.some.inj hf
    exact ro_vret hK hR dX7_add_9 hq
theorem mt_X7_add (l : Launch) (G : ro_G) {v1 : Int32} {v2 : Int32}  {μ : ro_Mem} {out : ro_Mem} (hf : fn_X7_add v1 v2 μ = some out) : ro_MX l G yX7_add cX7_add 10 none 4 [.ref (ro_ad G 199), .int v1, .int v2, .ref (ro_ad G 1), .ref (ro_ad G 62)] μ none out := by
  refine ro_MX.of (by decide +kernel) (Nat.le_of_ble_eq_true rfl) (fun K hG hl hq hK hR => ?_)
  subst hG
  exact be_X7_add hK hR  hf hq
-- ===== X7_isInReach =====
theorem dX7_isInReach_0 : decode cX7_isInReach 0 = .ok (.iconst 0, 1) := by decide +kernel
theorem dX7_isInReach_1 : decode cX7_isInReach 1 = .ok (.istore_n 2, 1) := by decide +kernel
theorem dX7_isInReach_2 : decode cX7_isInReach 2 = .ok (.iload_n 2, 1) := by decide +kernel
theorem dX7_isInReach_3 : decode cX7_isInReach 3 = .ok (.aload_n 0, 1) := by decide +kernel
theorem dX7_isInReach_4 : decode cX7_isInReach 4 = .ok (.getfield 28, 3) := by decide +kernel
theorem dX7_isInReach_7 : decode cX7_isInReach 7 = .ok (.if_icmp .ge 53, 3) := by decide +kernel
theorem dX7_isInReach_10 : decode cX7_isInReach 10 = .ok (.aload_n 0, 1) := by decide +kernel
theorem dX7_isInReach_11 : decode cX7_isInReach 11 = .ok (.getfield 18, 3) := by decide +kernel
theorem dX7_isInReach_14 : decode cX7_isInReach 14 = .ok (.iload_n 2, 1) := by decide +kernel
theorem dX7_isInReach_15 : decode cX7_isInReach 15 = .ok (.iaload, 1) := by decide +kernel
theorem dX7_isInReach_16 : decode cX7_isInReach 16 = .ok (.aload_n 0, 1) := by decide +kernel
theorem dX7_isInReach_17 : decode cX7_isInReach 17 = .ok (.getfield 15, 3) := by decide +kernel
theorem dX7_isInReach_20 : decode cX7_isInReach 20 = .ok (.iload_n 2, 1) := by decide +kernel
theorem dX7_isInReach_21 : decode cX7_isInReach 21 = .ok (.iaload, 1) := by decide +kernel
theorem dX7_isInReach_22 : decode cX7_isInReach 22 = .ok (.if_icmp .gt 30, 3) := by decide +kernel
theorem dX7_isInReach_25 : decode cX7_isInReach 25 = .ok (.aload_n 0, 1) := by decide +kernel
theorem dX7_isInReach_26 : decode cX7_isInReach 26 = .ok (.getfield 18, 3) := by decide +kernel
theorem dX7_isInReach_29 : decode cX7_isInReach 29 = .ok (.iload_n 2, 1) := by decide +kernel
theorem dX7_isInReach_30 : decode cX7_isInReach 30 = .ok (.iaload, 1) := by decide +kernel
theorem dX7_isInReach_31 : decode cX7_isInReach 31 = .ok (.aload_n 0, 1) := by decide +kernel
theorem dX7_isInReach_32 : decode cX7_isInReach 32 = .ok (.getfield 21, 3) := by decide +kernel
theorem dX7_isInReach_35 : decode cX7_isInReach 35 = .ok (.iload_n 2, 1) := by decide +kernel
theorem dX7_isInReach_36 : decode cX7_isInReach 36 = .ok (.bipush 13, 2) := by decide +kernel
theorem dX7_isInReach_38 : decode cX7_isInReach 38 = .ok (.imul, 1) := by decide +kernel
theorem dX7_isInReach_39 : decode cX7_isInReach 39 = .ok (.iload_n 1, 1) := by decide +kernel
theorem dX7_isInReach_40 : decode cX7_isInReach 40 = .ok (.iadd, 1) := by decide +kernel
theorem dX7_isInReach_41 : decode cX7_isInReach 41 = .ok (.iaload, 1) := by decide +kernel
theorem dX7_isInReach_42 : decode cX7_isInReach 42 = .ok (.iadd, 1) := by decide +kernel
theorem dX7_isInReach_43 : decode cX7_isInReach 43 = .ok (.aload_n 0, 1) := by decide +kernel
theorem dX7_isInReach_44 : decode cX7_isInReach 44 = .ok (.getfield 9, 3) := by decide +kernel
theorem dX7_isInReach_47 : decode cX7_isInReach 47 = .ok (.iload_n 2, 1) := by decide +kernel
theorem dX7_isInReach_48 : decode cX7_isInReach 48 = .ok (.iaload, 1) := by decide +kernel
theorem dX7_isInReach_49 : decode cX7_isInReach 49 = .ok (.if_icmp .ge 5, 3) := by decide +kernel
theorem dX7_isInReach_52 : decode cX7_isInReach 52 = .ok (.iconst 0, 1) := by decide +kernel
theorem dX7_isInReach_53 : decode cX7_isInReach 53 = .ok (.ireturn, 1) := by decide +kernel
theorem dX7_isInReach_54 : decode cX7_isInReach 54 = .ok (.iinc 2 1, 3) := by decide +kernel
theorem dX7_isInReach_57 : decode cX7_isInReach 57 = .ok (.goto (-55), 3) := by decide +kernel
theorem dX7_isInReach_60 : decode cX7_isInReach 60 = .ok (.iconst 1, 1) := by decide +kernel
theorem dX7_isInReach_61 : decode cX7_isInReach 61 = .ok (.ireturn, 1) := by decide +kernel
def ok_X7_isInReach_2 (K : ro_K) (v1 : Int32) (μ : ro_Mem) : (Unit ⊕ Unit) → Prop := Sum.elim (fun e => ro_X K 52 [] [] μ) (fun e => ro_X K 60 [] [] μ)
def fb_X7_isInReach_2 (v1 : Int32) (μ : ro_Mem) (rec : Int32 → Option (Unit ⊕ Unit)) (v2 : Int32) : Option (Unit ⊕ Unit) :=
  if (μ 199 6) ≤ v2 then
  (some (.inr ()))
  else
  (if ro_in v2 20 then
  (if (μ 201 v2.toNatClampNeg) < (μ 202 v2.toNatClampNeg) then
  (some (.inl ()))
  else
  (if ro_in ((v2 * 13) + v1) 260 then
  (if (μ 200 v2.toNatClampNeg) ≤ ((μ 202 v2.toNatClampNeg) + (μ 203 ((v2 * 13) + v1).toNatClampNeg)) then
  (rec (v2 + 1))
  else
  (some (.inl ()))) else none)) else none)
theorem bb_X7_isInReach_2 {K : ro_K} (hK : ro_C K RX7 cX7_isInReach 3 0) (hR : ro_R K (some .boolean)) {v1 : Int32}  {μ : ro_Mem} {rec : Int32 → Option (Unit ⊕ Unit)} {v2 : Int32} {q : (Unit ⊕ Unit)} (hrec : ∀ (s : Int32) (q : (Unit ⊕ Unit)), rec s = some q → ok_X7_isInReach_2 K v1 μ q → ro_X K 2 [(0, .ref (ro_ad (kG K) 199)), (1, .int v1), (2, .int s)] [] μ) (hf : fb_X7_isInReach_2 v1 μ rec v2 = some q) (hq : ok_X7_isInReach_2 K v1 μ q) : ro_X K 2 [(0, .ref (ro_ad (kG K) 199)), (1, .int v1), (2, .int v2)] [] μ := by
  unfold fb_X7_isInReach_2 at hf
  refine ro_iload_n hK 2 rfl dX7_isInReach_2 rfl ?_
  refine ro_aload_n hK 0 rfl dX7_isInReach_3 rfl ?_
  refine ro_geti hK fl_X7_28 sh_199 dX7_isInReach_4 ?_
  refine ro_icmp_ge hK 60 dX7_isInReach_7 (by decide) (fun c1 => ?_) (fun c1 => ?_)
  · have hf := ro_it hf c1
    refine ro_sub (L' := []) [] rfl ?_
    obtain rfl := Option.some.inj hf
    exact hq
  · have hf := ro_ie hf c1
    refine ro_aload_n hK 0 rfl dX7_isInReach_10 rfl ?_
    refine ro_getr hK fl_X7_18 sh_199 dX7_isInReach_11 ?_
    refine ro_iload_n hK 2 rfl dX7_isInReach_14 rfl ?_
    obtain ⟨g2, hf⟩ := ro_gd hf
    refine ro_iald hK sh_202 g2 dX7_isInReach_15 ?_
    refine ro_aload_n hK 0 rfl dX7_isInReach_16 rfl ?_
    refine ro_getr hK fl_X7_15 sh_199 dX7_isInReach_17 ?_
    refine ro_iload_n hK 2 rfl dX7_isInReach_20 rfl ?_
    refine ro_iald hK sh_201 g2 dX7_isInReach_21 ?_
    refine ro_icmp_gt hK 52 dX7_isInReach_22 (by decide) (fun c3 => ?_) (fun c3 => ?_)
    · have hf := ro_it hf c3
      refine ro_sub (L' := []) [] rfl ?_
      obtain rfl := Option.some.inj hf
      exact hq
    · have hf := ro_ie hf c3
      refine ro_aload_n hK 0 rfl dX7_isInReach_25 rfl ?_
      refine ro_getr hK fl_X7_18 sh_199 dX7_isInReach_26 ?_
      refine ro_iload_n hK 2 rfl dX7_isInReach_29 rfl ?_
      refine ro_iald hK sh_202 g2 dX7_isInReach_30 ?_
      refine ro_aload_n hK 0 rfl dX7_isInReach_31 rfl ?_
      refine ro_getr hK fl_X7_21 sh_199 dX7_isInReach_32 ?_
      refine ro_iload_n hK 2 rfl dX7_isInReach_35 rfl ?_
      refine ro_bipush (v := 13) hK dX7_isInReach_36 (by decide) ?_
      refine ro_imul hK dX7_isInReach_38 ?_
      refine ro_iload_n hK 1 rfl dX7_isInReach_39 rfl ?_
      refine ro_iadd hK dX7_isInReach_40 ?_
      obtain ⟨g4, hf⟩ := ro_gd hf
      refine ro_iald hK sh_203 g4 dX7_isInReach_41 ?_
      refine ro_iadd hK dX7_isInReach_42 ?_
      refine ro_aload_n hK 0 rfl dX7_isInReach_43 rfl ?_
      refine ro_getr hK fl_X7_9 sh_199 dX7_isInReach_44 ?_
      refine ro_iload_n hK 2 rfl dX7_isInReach_47 rfl ?_
      refine ro_iald hK sh_200 g2 dX7_isInReach_48 ?_
      refine ro_icmp_ge hK 54 dX7_isInReach_49 (by decide) (fun c5 => ?_) (fun c5 => ?_)
      · have hf := ro_it hf c5
        refine ro_iinc (v := v2 + 1) (L' := [(2, .int (v2 + 1)), (0, .ref (ro_ad (kG K) 199)), (1, .int v1)]) hK 2 rfl dX7_isInReach_54 rfl (by decide) rfl ?_
        refine ro_goto hK 2 dX7_isInReach_57 (by decide) ?_
        refine ro_sub (L' := [(0, .ref (ro_ad (kG K) 199)), (1, .int v1), (2, .int (v2 + 1))]) [1, 2, 0] rfl ?_
        exact hrec (v2 + 1) _ hf hq
      · have hf := ro_ie hf c5
        refine ro_sub (L' := []) [] rfl ?_
        obtain rfl := Option.some.inj hf
        exact hq
def fl_X7_isInReach_2 (v1 : Int32) (μ : ro_Mem) : Int32 → Option (Unit ⊕ Unit) :=
  ro_loop (fun rec s => fb_X7_isInReach_2 v1 μ rec s) ro_FU
theorem lp_X7_isInReach_2 {K : ro_K} (hK : ro_C K RX7 cX7_isInReach 3 0) (hR : ro_R K (some .boolean)) {v1 : Int32}  {μ : ro_Mem} {s : Int32} {q : (Unit ⊕ Unit)} (hf : fl_X7_isInReach_2 v1 μ s = some q) (hq : ok_X7_isInReach_2 K v1 μ q) : ro_X K 2 [(0, .ref (ro_ad (kG K) 199)), (1, .int v1), (2, .int s)] [] μ :=
  ro_loopX (b := fun rec s => fb_X7_isInReach_2 v1 μ rec s) (X := fun s => ro_X K 2 [(0, .ref (ro_ad (kG K) 199)), (1, .int v1), (2, .int s)] [] μ) (OK := ok_X7_isInReach_2 K v1 μ) (fun rec s q hrec hb ho => bb_X7_isInReach_2 hK hR  hrec hb ho) ro_FU s q hf hq
def fn_X7_isInReach (v1 : Int32) (μ : ro_Mem) : Option Int32 :=
  (fl_X7_isInReach_2 v1 μ 0).bind fun q6 =>
  q6.elim (fun e8 => some 0) (fun e9 => some 1)
theorem be_X7_isInReach {K : ro_K} (hK : ro_C K RX7 cX7_isInReach 3 0) (hR : ro_R K (some .boolean)) {v1 : Int32}  {μ : ro_Mem} {out : Int32} (hf : fn_X7_isInReach v1 μ = some out) (hq : kQ K (some (.int out)) μ) : ro_X K 0 [(0, .ref (ro_ad (kG K) 199)), (1, .int v1)] [] μ := by
  unfold fn_X7_isInReach at hf
  refine ro_iconst (v := 0) hK dX7_isInReach_0 (by decide) ?_
  refine ro_istore_n (L' := [(2, .int 0), (0, .ref (ro_ad (kG K) 199)), (1, .int v1)]) hK dX7_isInReach_1 rfl (by decide) rfl ?_
  obtain ⟨q6, e7, hf⟩ := ro_bd hf
  refine ro_sub (L' := [(0, .ref (ro_ad (kG K) 199)), (1, .int v1), (2, .int 0)]) [1, 2, 0] rfl ?_
  refine lp_X7_isInReach_2 hK hR  e7 ?_
  rcases q6 with e8 | e9
  · have hf := ro_el hf
    show ro_X K 52 [] [] μ
    refine ro_iconst (v := 0) hK dX7_isInReach_52 (by decide) ?_
    obtain rfl := Option.some.inj hf
    exact ro_zret hK hR dX7_isInReach_53 (by decide) hq
  · have hf := ro_er hf
    show ro_X K 60 [] [] μ
    refine ro_iconst (v := 1) hK dX7_isInReach_60 (by decide) ?_
    obtain rfl := Option.some.inj hf
    exact ro_zret hK hR dX7_isInReach_61 (by decide) hq
theorem mt_X7_isInReach (l : Launch) (G : ro_G) {v1 : Int32}  {μ : ro_Mem} {out : Int32} (hf : fn_X7_isInReach v1 μ = some out) : ro_MX l G yX7_isInReach cX7_isInReach 3 (some .boolean) 0 [.ref (ro_ad G 199), .int v1] μ (some (.int out)) μ := by
  refine ro_MX.of (by decide +kernel) (Nat.le_of_ble_eq_true rfl) (fun K hG hl hq hK hR => ?_)
  subst hG
  exact be_X7_isInReach hK hR  hf hq
-- ===== X7_isFree =====
theorem dX7_isFree_0 : decode cX7_isFree 0 = .ok (.iconst 0, 1) := by decide +kernel
theorem dX7_isFree_1 : decode cX7_isFree 1 = .ok (.istore_n 2, 1) := by decide +kernel
theorem dX7_isFree_2 : decode cX7_isFree 2 = .ok (.iload_n 2, 1) := by decide +kernel
theorem dX7_isFree_3 : decode cX7_isFree 3 = .ok (.aload_n 0, 1) := by decide +kernel
theorem dX7_isFree_4 : decode cX7_isFree 4 = .ok (.getfield 28, 3) := by decide +kernel
theorem dX7_isFree_7 : decode cX7_isFree 7 = .ok (.if_icmp .ge 53, 3) := by decide +kernel
theorem dX7_isFree_10 : decode cX7_isFree 10 = .ok (.aload_n 0, 1) := by decide +kernel
theorem dX7_isFree_11 : decode cX7_isFree 11 = .ok (.getfield 18, 3) := by decide +kernel
theorem dX7_isFree_14 : decode cX7_isFree 14 = .ok (.iload_n 2, 1) := by decide +kernel
theorem dX7_isFree_15 : decode cX7_isFree 15 = .ok (.iaload, 1) := by decide +kernel
theorem dX7_isFree_16 : decode cX7_isFree 16 = .ok (.aload_n 0, 1) := by decide +kernel
theorem dX7_isFree_17 : decode cX7_isFree 17 = .ok (.getfield 9, 3) := by decide +kernel
theorem dX7_isFree_20 : decode cX7_isFree 20 = .ok (.iload_n 2, 1) := by decide +kernel
theorem dX7_isFree_21 : decode cX7_isFree 21 = .ok (.iaload, 1) := by decide +kernel
theorem dX7_isFree_22 : decode cX7_isFree 22 = .ok (.if_icmp .lt 30, 3) := by decide +kernel
theorem dX7_isFree_25 : decode cX7_isFree 25 = .ok (.aload_n 0, 1) := by decide +kernel
theorem dX7_isFree_26 : decode cX7_isFree 26 = .ok (.getfield 18, 3) := by decide +kernel
theorem dX7_isFree_29 : decode cX7_isFree 29 = .ok (.iload_n 2, 1) := by decide +kernel
theorem dX7_isFree_30 : decode cX7_isFree 30 = .ok (.iaload, 1) := by decide +kernel
theorem dX7_isFree_31 : decode cX7_isFree 31 = .ok (.aload_n 0, 1) := by decide +kernel
theorem dX7_isFree_32 : decode cX7_isFree 32 = .ok (.getfield 21, 3) := by decide +kernel
theorem dX7_isFree_35 : decode cX7_isFree 35 = .ok (.iload_n 2, 1) := by decide +kernel
theorem dX7_isFree_36 : decode cX7_isFree 36 = .ok (.bipush 13, 2) := by decide +kernel
theorem dX7_isFree_38 : decode cX7_isFree 38 = .ok (.imul, 1) := by decide +kernel
theorem dX7_isFree_39 : decode cX7_isFree 39 = .ok (.iload_n 1, 1) := by decide +kernel
theorem dX7_isFree_40 : decode cX7_isFree 40 = .ok (.iadd, 1) := by decide +kernel
theorem dX7_isFree_41 : decode cX7_isFree 41 = .ok (.iaload, 1) := by decide +kernel
theorem dX7_isFree_42 : decode cX7_isFree 42 = .ok (.iadd, 1) := by decide +kernel
theorem dX7_isFree_43 : decode cX7_isFree 43 = .ok (.aload_n 0, 1) := by decide +kernel
theorem dX7_isFree_44 : decode cX7_isFree 44 = .ok (.getfield 15, 3) := by decide +kernel
theorem dX7_isFree_47 : decode cX7_isFree 47 = .ok (.iload_n 2, 1) := by decide +kernel
theorem dX7_isFree_48 : decode cX7_isFree 48 = .ok (.iaload, 1) := by decide +kernel
theorem dX7_isFree_49 : decode cX7_isFree 49 = .ok (.if_icmp .le 5, 3) := by decide +kernel
theorem dX7_isFree_52 : decode cX7_isFree 52 = .ok (.iconst 0, 1) := by decide +kernel
theorem dX7_isFree_53 : decode cX7_isFree 53 = .ok (.ireturn, 1) := by decide +kernel
theorem dX7_isFree_54 : decode cX7_isFree 54 = .ok (.iinc 2 1, 3) := by decide +kernel
theorem dX7_isFree_57 : decode cX7_isFree 57 = .ok (.goto (-55), 3) := by decide +kernel
theorem dX7_isFree_60 : decode cX7_isFree 60 = .ok (.iconst 1, 1) := by decide +kernel
theorem dX7_isFree_61 : decode cX7_isFree 61 = .ok (.ireturn, 1) := by decide +kernel
def ok_X7_isFree_2 (K : ro_K) (v1 : Int32) (μ : ro_Mem) : (Unit ⊕ Unit) → Prop := Sum.elim (fun e => ro_X K 52 [] [] μ) (fun e => ro_X K 60 [] [] μ)
def fb_X7_isFree_2 (v1 : Int32) (μ : ro_Mem) (rec : Int32 → Option (Unit ⊕ Unit)) (v2 : Int32) : Option (Unit ⊕ Unit) :=
  if (μ 199 6) ≤ v2 then
  (some (.inr ()))
  else
  (if ro_in v2 20 then
  (if (μ 202 v2.toNatClampNeg) < (μ 200 v2.toNatClampNeg) then
  (some (.inl ()))
  else
  (if ro_in ((v2 * 13) + v1) 260 then
  (if ((μ 202 v2.toNatClampNeg) + (μ 203 ((v2 * 13) + v1).toNatClampNeg)) ≤ (μ 201 v2.toNatClampNeg) then
  (rec (v2 + 1))
  else
  (some (.inl ()))) else none)) else none)
theorem bb_X7_isFree_2 {K : ro_K} (hK : ro_C K RX7 cX7_isFree 3 0) (hR : ro_R K (some .boolean)) {v1 : Int32}  {μ : ro_Mem} {rec : Int32 → Option (Unit ⊕ Unit)} {v2 : Int32} {q : (Unit ⊕ Unit)} (hrec : ∀ (s : Int32) (q : (Unit ⊕ Unit)), rec s = some q → ok_X7_isFree_2 K v1 μ q → ro_X K 2 [(0, .ref (ro_ad (kG K) 199)), (1, .int v1), (2, .int s)] [] μ) (hf : fb_X7_isFree_2 v1 μ rec v2 = some q) (hq : ok_X7_isFree_2 K v1 μ q) : ro_X K 2 [(0, .ref (ro_ad (kG K) 199)), (1, .int v1), (2, .int v2)] [] μ := by
  unfold fb_X7_isFree_2 at hf
  refine ro_iload_n hK 2 rfl dX7_isFree_2 rfl ?_
  refine ro_aload_n hK 0 rfl dX7_isFree_3 rfl ?_
  refine ro_geti hK fl_X7_28 sh_199 dX7_isFree_4 ?_
  refine ro_icmp_ge hK 60 dX7_isFree_7 (by decide) (fun c1 => ?_) (fun c1 => ?_)
  · have hf := ro_it hf c1
    refine ro_sub (L' := []) [] rfl ?_
    obtain rfl := Option.some.inj hf
    exact hq
  · have hf := ro_ie hf c1
    refine ro_aload_n hK 0 rfl dX7_isFree_10 rfl ?_
    refine ro_getr hK fl_X7_18 sh_199 dX7_isFree_11 ?_
    refine ro_iload_n hK 2 rfl dX7_isFree_14 rfl ?_
    obtain ⟨g2, hf⟩ := ro_gd hf
    refine ro_iald hK sh_202 g2 dX7_isFree_15 ?_
    refine ro_aload_n hK 0 rfl dX7_isFree_16 rfl ?_
    refine ro_getr hK fl_X7_9 sh_199 dX7_isFree_17 ?_
    refine ro_iload_n hK 2 rfl dX7_isFree_20 rfl ?_
    refine ro_iald hK sh_200 g2 dX7_isFree_21 ?_
    refine ro_icmp_lt hK 52 dX7_isFree_22 (by decide) (fun c3 => ?_) (fun c3 => ?_)
    · have hf := ro_it hf c3
      refine ro_sub (L' := []) [] rfl ?_
      obtain rfl := Option.some.inj hf
      exact hq
    · have hf := ro_ie hf c3
      refine ro_aload_n hK 0 rfl dX7_isFree_25 rfl ?_
      refine ro_getr hK fl_X7_18 sh_199 dX7_isFree_26 ?_
      refine ro_iload_n hK 2 rfl dX7_isFree_29 rfl ?_
      refine ro_iald hK sh_202 g2 dX7_isFree_30 ?_
      refine ro_aload_n hK 0 rfl dX7_isFree_31 rfl ?_
      refine ro_getr hK fl_X7_21 sh_199 dX7_isFree_32 ?_
      refine ro_iload_n hK 2 rfl dX7_isFree_35 rfl ?_
      refine ro_bipush (v := 13) hK dX7_isFree_36 (by decide) ?_
      refine ro_imul hK dX7_isFree_38 ?_
      refine ro_iload_n hK 1 rfl dX7_isFree_39 rfl ?_
      refine ro_iadd hK dX7_isFree_40 ?_
      obtain ⟨g4, hf⟩ := ro_gd hf
      refine ro_iald hK sh_203 g4 dX7_isFree_41 ?_
      refine ro_iadd hK dX7_isFree_42 ?_
      refine ro_aload_n hK 0 rfl dX7_isFree_43 rfl ?_
      refine ro_getr hK fl_X7_15 sh_199 dX7_isFree_44 ?_
      refine ro_iload_n hK 2 rfl dX7_isFree_47 rfl ?_
      refine ro_iald hK sh_201 g2 dX7_isFree_48 ?_
      refine ro_icmp_le hK 54 dX7_isFree_49 (by decide) (fun c5 => ?_) (fun c5 => ?_)
      · have hf := ro_it hf c5
        refine ro_iinc (v := v2 + 1) (L' := [(2, .int (v2 + 1)), (0, .ref (ro_ad (kG K) 199)), (1, .int v1)]) hK 2 rfl dX7_isFree_54 rfl (by decide) rfl ?_
        refine ro_goto hK 2 dX7_isFree_57 (by decide) ?_
        refine ro_sub (L' := [(0, .ref (ro_ad (kG K) 199)), (1, .int v1), (2, .int (v2 + 1))]) [1, 2, 0] rfl ?_
        exact hrec (v2 + 1) _ hf hq
      · have hf := ro_ie hf c5
        refine ro_sub (L' := []) [] rfl ?_
        obtain rfl := Option.some.inj hf
        exact hq
def fl_X7_isFree_2 (v1 : Int32) (μ : ro_Mem) : Int32 → Option (Unit ⊕ Unit) :=
  ro_loop (fun rec s => fb_X7_isFree_2 v1 μ rec s) ro_FU
theorem lp_X7_isFree_2 {K : ro_K} (hK : ro_C K RX7 cX7_isFree 3 0) (hR : ro_R K (some .boolean)) {v1 : Int32}  {μ : ro_Mem} {s : Int32} {q : (Unit ⊕ Unit)} (hf : fl_X7_isFree_2 v1 μ s = some q) (hq : ok_X7_isFree_2 K v1 μ q) : ro_X K 2 [(0, .ref (ro_ad (kG K) 199)), (1, .int v1), (2, .int s)] [] μ :=
  ro_loopX (b := fun rec s => fb_X7_isFree_2 v1 μ rec s) (X := fun s => ro_X K 2 [(0, .ref (ro_ad (kG K) 199)), (1, .int v1), (2, .int s)] [] μ) (OK := ok_X7_isFree_2 K v1 μ) (fun rec s q hrec hb ho => bb_X7_isFree_2 hK hR  hrec hb ho) ro_FU s q hf hq
def fn_X7_isFree (v1 : Int32) (μ : ro_Mem) : Option Int32 :=
  (fl_X7_isFree_2 v1 μ 0).bind fun q6 =>
  q6.elim (fun e8 => some 0) (fun e9 => some 1)
theorem be_X7_isFree {K : ro_K} (hK : ro_C K RX7 cX7_isFree 3 0) (hR : ro_R K (some .boolean)) {v1 : Int32}  {μ : ro_Mem} {out : Int32} (hf : fn_X7_isFree v1 μ = some out) (hq : kQ K (some (.int out)) μ) : ro_X K 0 [(0, .ref (ro_ad (kG K) 199)), (1, .int v1)] [] μ := by
  unfold fn_X7_isFree at hf
  refine ro_iconst (v := 0) hK dX7_isFree_0 (by decide) ?_
  refine ro_istore_n (L' := [(2, .int 0), (0, .ref (ro_ad (kG K) 199)), (1, .int v1)]) hK dX7_isFree_1 rfl (by decide) rfl ?_
  obtain ⟨q6, e7, hf⟩ := ro_bd hf
  refine ro_sub (L' := [(0, .ref (ro_ad (kG K) 199)), (1, .int v1), (2, .int 0)]) [1, 2, 0] rfl ?_
  refine lp_X7_isFree_2 hK hR  e7 ?_
  rcases q6 with e8 | e9
  · have hf := ro_el hf
    show ro_X K 52 [] [] μ
    refine ro_iconst (v := 0) hK dX7_isFree_52 (by decide) ?_
    obtain rfl := Option.some.inj hf
    exact ro_zret hK hR dX7_isFree_53 (by decide) hq
  · have hf := ro_er hf
    show ro_X K 60 [] [] μ
    refine ro_iconst (v := 1) hK dX7_isFree_60 (by decide) ?_
    obtain rfl := Option.some.inj hf
    exact ro_zret hK hR dX7_isFree_61 (by decide) hq
theorem mt_X7_isFree (l : Launch) (G : ro_G) {v1 : Int32}  {μ : ro_Mem} {out : Int32} (hf : fn_X7_isFree v1 μ = some out) : ro_MX l G yX7_isFree cX7_isFree 3 (some .boolean) 0 [.ref (ro_ad G 199), .int v1] μ (some (.int out)) μ := by
  refine ro_MX.of (by decide +kernel) (Nat.le_of_ble_eq_true rfl) (fun K hG hl hq hK hR => ?_)
  subst hG
  exact be_X7_isFree hK hR  hf hq
-- ===== X7_sing =====
theorem dX7_sing_0 : decode cX7_sing 0 = .ok (.iconst 0, 1) := by decide +kernel
theorem dX7_sing_1 : decode cX7_sing 1 = .ok (.istore_n 3, 1) := by decide +kernel
theorem dX7_sing_2 : decode cX7_sing 2 = .ok (.iload_n 3, 1) := by decide +kernel
theorem dX7_sing_3 : decode cX7_sing 3 = .ok (.aload_n 0, 1) := by decide +kernel
theorem dX7_sing_4 : decode cX7_sing 4 = .ok (.getfield 28, 3) := by decide +kernel
theorem dX7_sing_7 : decode cX7_sing 7 = .ok (.if_icmp .ge 45, 3) := by decide +kernel
theorem dX7_sing_10 : decode cX7_sing 10 = .ok (.iload_n 3, 1) := by decide +kernel
theorem dX7_sing_11 : decode cX7_sing 11 = .ok (.bipush 13, 2) := by decide +kernel
theorem dX7_sing_13 : decode cX7_sing 13 = .ok (.imul, 1) := by decide +kernel
theorem dX7_sing_14 : decode cX7_sing 14 = .ok (.iload_n 1, 1) := by decide +kernel
theorem dX7_sing_15 : decode cX7_sing 15 = .ok (.iadd, 1) := by decide +kernel
theorem dX7_sing_16 : decode cX7_sing 16 = .ok (.istore 4, 2) := by decide +kernel
theorem dX7_sing_18 : decode cX7_sing 18 = .ok (.aload_n 0, 1) := by decide +kernel
theorem dX7_sing_19 : decode cX7_sing 19 = .ok (.getfield 18, 3) := by decide +kernel
theorem dX7_sing_22 : decode cX7_sing 22 = .ok (.iload_n 3, 1) := by decide +kernel
theorem dX7_sing_23 : decode cX7_sing 23 = .ok (.dup2, 1) := by decide +kernel
theorem dX7_sing_24 : decode cX7_sing 24 = .ok (.iaload, 1) := by decide +kernel
theorem dX7_sing_25 : decode cX7_sing 25 = .ok (.iload_n 2, 1) := by decide +kernel
theorem dX7_sing_26 : decode cX7_sing 26 = .ok (.aload_n 0, 1) := by decide +kernel
theorem dX7_sing_27 : decode cX7_sing 27 = .ok (.getfield 21, 3) := by decide +kernel
theorem dX7_sing_30 : decode cX7_sing 30 = .ok (.iload 4, 2) := by decide +kernel
theorem dX7_sing_32 : decode cX7_sing 32 = .ok (.iconst 1, 1) := by decide +kernel
theorem dX7_sing_33 : decode cX7_sing 33 = .ok (.iadd, 1) := by decide +kernel
theorem dX7_sing_34 : decode cX7_sing 34 = .ok (.iaload, 1) := by decide +kernel
theorem dX7_sing_35 : decode cX7_sing 35 = .ok (.aload_n 0, 1) := by decide +kernel
theorem dX7_sing_36 : decode cX7_sing 36 = .ok (.getfield 21, 3) := by decide +kernel
theorem dX7_sing_39 : decode cX7_sing 39 = .ok (.iload 4, 2) := by decide +kernel
theorem dX7_sing_41 : decode cX7_sing 41 = .ok (.iaload, 1) := by decide +kernel
theorem dX7_sing_42 : decode cX7_sing 42 = .ok (.isub, 1) := by decide +kernel
theorem dX7_sing_43 : decode cX7_sing 43 = .ok (.imul, 1) := by decide +kernel
theorem dX7_sing_44 : decode cX7_sing 44 = .ok (.iadd, 1) := by decide +kernel
theorem dX7_sing_45 : decode cX7_sing 45 = .ok (.iastore, 1) := by decide +kernel
theorem dX7_sing_46 : decode cX7_sing 46 = .ok (.iinc 3 1, 3) := by decide +kernel
theorem dX7_sing_49 : decode cX7_sing 49 = .ok (.goto (-47), 3) := by decide +kernel
theorem dX7_sing_52 : decode cX7_sing 52 = .ok (.return_, 1) := by decide +kernel
def ok_X7_sing_2 (K : ro_K) (v1 : Int32) (v2 : Int32) : ro_Mem → Prop := fun e => ro_X K 52 [] [] e
def fb_X7_sing_2 (v1 : Int32) (v2 : Int32) (rec : (Int32 × ro_Mem) → Option ro_Mem) (v3 : Int32) (μ : ro_Mem) : Option ro_Mem :=
  if (μ 199 6) ≤ v3 then
  (some μ)
  else
  (ro_lt ((v3 * 13) + v1) fun z2 =>
  if ro_in v3 20 then
  (if ro_in (z2 + 1) 260 then
  (if ro_in z2 260 then
  (ro_lt (ro_set μ 202 v3.toNatClampNeg ((μ 202 v3.toNatClampNeg) + (v2 * ((μ 203 (z2 + 1).toNatClampNeg) - (μ 203 z2.toNatClampNeg))))) fun m7 =>
  rec (v3 + 1, m7)) else none) else none) else none)
theorem bb_X7_sing_2 {K : ro_K} (hK : ro_C K RX7 cX7_sing 5 0) (hR : ro_R K none) {v1 : Int32} {v2 : Int32}  {μ : ro_Mem} {rec : (Int32 × ro_Mem) → Option ro_Mem} {v3 : Int32} {q : ro_Mem} (hrec : ∀ (s : Int32 × ro_Mem) (q : ro_Mem), rec s = some q → ok_X7_sing_2 K v1 v2 q → ro_X K 2 [(0, .ref (ro_ad (kG K) 199)), (1, .int v1), (2, .int v2), (3, .int s.1)] [] s.2) (hf : fb_X7_sing_2 v1 v2 rec v3 μ = some q) (hq : ok_X7_sing_2 K v1 v2 q) : ro_X K 2 [(0, .ref (ro_ad (kG K) 199)), (1, .int v1), (2, .int v2), (3, .int v3)] [] μ := by
  unfold fb_X7_sing_2 at hf
  refine ro_iload_n hK 3 rfl dX7_sing_2 rfl ?_
  refine ro_aload_n hK 0 rfl dX7_sing_3 rfl ?_
  refine ro_geti hK fl_X7_28 sh_199 dX7_sing_4 ?_
  refine ro_icmp_ge hK 52 dX7_sing_7 (by decide) (fun c1 => ?_) (fun c1 => ?_)
  · have hf := ro_it hf c1
    refine ro_sub (L' := []) [] rfl ?_
    obtain rfl := Option.some.inj hf
    exact hq
  · have hf := ro_ie hf c1
    refine ro_iload_n hK 3 rfl dX7_sing_10 rfl ?_
    refine ro_bipush (v := 13) hK dX7_sing_11 (by decide) ?_
    refine ro_imul hK dX7_sing_13 ?_
    refine ro_iload_n hK 1 rfl dX7_sing_14 rfl ?_
    refine ro_iadd hK dX7_sing_15 ?_
    obtain ⟨z2, e3, hf⟩ := ro_ld hf
    refine ro_iv e3 ?_
    refine ro_istore (L' := [(4, .int z2), (0, .ref (ro_ad (kG K) 199)), (1, .int v1), (2, .int v2), (3, .int v3)]) hK dX7_sing_16 (by decide) rfl ?_
    refine ro_aload_n hK 1 rfl dX7_sing_18 rfl ?_
    refine ro_getr hK fl_X7_18 sh_199 dX7_sing_19 ?_
    refine ro_iload_n hK 4 rfl dX7_sing_22 rfl ?_
    refine ro_dup2 hK dX7_sing_23 rfl rfl ?_
    obtain ⟨g4, hf⟩ := ro_gd hf
    refine ro_iald hK sh_202 g4 dX7_sing_24 ?_
    refine ro_iload_n hK 3 rfl dX7_sing_25 rfl ?_
    refine ro_aload_n hK 1 rfl dX7_sing_26 rfl ?_
    refine ro_getr hK fl_X7_21 sh_199 dX7_sing_27 ?_
    refine ro_iload hK 0 rfl dX7_sing_30 ?_
    refine ro_iconst (v := 1) hK dX7_sing_32 (by decide) ?_
    refine ro_iadd hK dX7_sing_33 ?_
    obtain ⟨g5, hf⟩ := ro_gd hf
    refine ro_iald hK sh_203 g5 dX7_sing_34 ?_
    refine ro_aload_n hK 1 rfl dX7_sing_35 rfl ?_
    refine ro_getr hK fl_X7_21 sh_199 dX7_sing_36 ?_
    refine ro_iload hK 0 rfl dX7_sing_39 ?_
    obtain ⟨g6, hf⟩ := ro_gd hf
    refine ro_iald hK sh_203 g6 dX7_sing_41 ?_
    refine ro_isub hK dX7_sing_42 ?_
    refine ro_imul hK dX7_sing_43 ?_
    refine ro_iadd hK dX7_sing_44 ?_
    obtain ⟨m7, e8, hf⟩ := ro_ld hf
    refine ro_iast hK sh_202 g4 dX7_sing_45 ?_
    refine ro_mv e8 ?_
    refine ro_iinc (v := v3 + 1) (L' := [(3, .int (v3 + 1)), (4, .int z2), (0, .ref (ro_ad (kG K) 199)), (1, .int v1), (2, .int v2)]) hK 4 rfl dX7_sing_46 rfl (by decide) rfl ?_
    refine ro_goto hK 2 dX7_sing_49 (by decide) ?_
    refine ro_sub (L' := [(0, .ref (ro_ad (kG K) 199)), (1, .int v1), (2, .int v2), (3, .int (v3 + 1))]) [2, 3, 4, 0] rfl ?_
    exact hrec (v3 + 1, m7) _ hf hq
def fl_X7_sing_2 (v1 : Int32) (v2 : Int32) : (Int32 × ro_Mem) → Option ro_Mem :=
  ro_loop (fun rec s => fb_X7_sing_2 v1 v2 rec s.1 s.2) ro_FU
theorem lp_X7_sing_2 {K : ro_K} (hK : ro_C K RX7 cX7_sing 5 0) (hR : ro_R K none) {v1 : Int32} {v2 : Int32}  {s : Int32 × ro_Mem} {q : ro_Mem} (hf : fl_X7_sing_2 v1 v2 s = some q) (hq : ok_X7_sing_2 K v1 v2 q) : ro_X K 2 [(0, .ref (ro_ad (kG K) 199)), (1, .int v1), (2, .int v2), (3, .int s.1)] [] s.2 :=
  ro_loopX (b := fun rec s => fb_X7_sing_2 v1 v2 rec s.1 s.2) (X := fun s => ro_X K 2 [(0, .ref (ro_ad (kG K) 199)), (1, .int v1), (2, .int v2), (3, .int s.1)] [] s.2) (OK := ok_X7_sing_2 K v1 v2) (fun rec s q hrec hb ho => bb_X7_sing_2 hK hR  hrec hb ho) ro_FU s q hf hq
def fn_X7_sing (v1 : Int32) (v2 : Int32) (μ : ro_Mem) : Option ro_Mem :=
  (fl_X7_sing_2 v1 v2 (0, μ)).bind fun q9 =>
  some q9
theorem be_X7_sing {K : ro_K} (hK : ro_C K RX7 cX7_sing 5 0) (hR : ro_R K none) {v1 : Int32} {v2 : Int32}  {μ : ro_Mem} {out : ro_Mem} (hf : fn_X7_sing v1 v2 μ = some out) (hq : kQ K none out) : ro_X K 0 [(0, .ref (ro_ad (kG K) 199)), (1, .int v1), (2, .int v2)] [] μ := by
  unfold fn_X7_sing at hf
  refine ro_iconst (v := 0) hK dX7_sing_0 (by decide) ?_
  refine ro_istore_n (L' := [(3, .int 0), (0, .ref (ro_ad (kG K) 199)), (1, .int v1), (2, .int v2)]) hK dX7_sing_1 rfl (by decide) rfl ?_
  obtain ⟨q9, e10, hf⟩ := ro_bd hf
  refine ro_sub (L' := [(0, .ref (ro_ad (kG K) 199)), (1, .int v1), (2, .int v2), (3, .int 0)]) [1, 2, 3, 0] rfl ?_
  refine lp_X7_sing_2 hK hR  e10 ?_
  show ro_X K 52 [] [] q9
  obtain rfl := Option.some.inj hf
  exact ro_vret hK hR dX7_sing_52 hq
theorem mt_X7_sing (l : Launch) (G : ro_G) {v1 : Int32} {v2 : Int32}  {μ : ro_Mem} {out : ro_Mem} (hf : fn_X7_sing v1 v2 μ = some out) : ro_MX l G yX7_sing cX7_sing 5 none 0 [.ref (ro_ad G 199), .int v1, .int v2] μ none out := by
  refine ro_MX.of (by decide +kernel) (Nat.le_of_ble_eq_true rfl) (fun K hG hl hq hK hR => ?_)
  subst hG
  exact be_X7_sing hK hR  hf hq
-- ===== X7_search =====
theorem dX7_search_0 : decode cX7_search 0 = .ok (.aload_n 0, 1) := by decide +kernel
theorem dX7_search_1 : decode cX7_search 1 = .ok (.iload_n 1, 1) := by decide +kernel
theorem dX7_search_2 : decode cX7_search 2 = .ok (.invokevirtual 87, 3) := by decide +kernel
theorem dX7_search_5 : decode cX7_search 5 = .ok (.ifCond .ne 4, 3) := by decide +kernel
theorem dX7_search_8 : decode cX7_search 8 = .ok (.return_, 1) := by decide +kernel
theorem dX7_search_9 : decode cX7_search 9 = .ok (.iload_n 1, 1) := by decide +kernel
theorem dX7_search_10 : decode cX7_search 10 = .ok (.ifCond .eq 11, 3) := by decide +kernel
theorem dX7_search_13 : decode cX7_search 13 = .ok (.aload_n 0, 1) := by decide +kernel
theorem dX7_search_14 : decode cX7_search 14 = .ok (.iload_n 1, 1) := by decide +kernel
theorem dX7_search_15 : decode cX7_search 15 = .ok (.invokevirtual 91, 3) := by decide +kernel
theorem dX7_search_18 : decode cX7_search 18 = .ok (.ifCond .eq 56, 3) := by decide +kernel
theorem dX7_search_21 : decode cX7_search 21 = .ok (.aload_n 0, 1) := by decide +kernel
theorem dX7_search_22 : decode cX7_search 22 = .ok (.aload_n 0, 1) := by decide +kernel
theorem dX7_search_23 : decode cX7_search 23 = .ok (.getfield 74, 3) := by decide +kernel
theorem dX7_search_26 : decode cX7_search 26 = .ok (.ifCond .ne 7, 3) := by decide +kernel
theorem dX7_search_29 : decode cX7_search 29 = .ok (.iload_n 2, 1) := by decide +kernel
theorem dX7_search_30 : decode cX7_search 30 = .ok (.goto 7, 3) := by decide +kernel
theorem dX7_search_33 : decode cX7_search 33 = .ok (.aload_n 0, 1) := by decide +kernel
theorem dX7_search_34 : decode cX7_search 34 = .ok (.getfield 77, 3) := by decide +kernel
theorem dX7_search_37 : decode cX7_search 37 = .ok (.putfield 77, 3) := by decide +kernel
theorem dX7_search_40 : decode cX7_search 40 = .ok (.aload_n 0, 1) := by decide +kernel
theorem dX7_search_41 : decode cX7_search 41 = .ok (.aload_n 0, 1) := by decide +kernel
theorem dX7_search_42 : decode cX7_search 42 = .ok (.getfield 74, 3) := by decide +kernel
theorem dX7_search_45 : decode cX7_search 45 = .ok (.ifCond .ne 7, 3) := by decide +kernel
theorem dX7_search_48 : decode cX7_search 48 = .ok (.iload_n 2, 1) := by decide +kernel
theorem dX7_search_49 : decode cX7_search 49 = .ok (.goto 9, 3) := by decide +kernel
theorem dX7_search_52 : decode cX7_search 52 = .ok (.aload_n 0, 1) := by decide +kernel
theorem dX7_search_53 : decode cX7_search 53 = .ok (.getfield 80, 3) := by decide +kernel
theorem dX7_search_56 : decode cX7_search 56 = .ok (.iload_n 2, 1) := by decide +kernel
theorem dX7_search_57 : decode cX7_search 57 = .ok (.iand, 1) := by decide +kernel
theorem dX7_search_58 : decode cX7_search 58 = .ok (.putfield 80, 3) := by decide +kernel
theorem dX7_search_61 : decode cX7_search 61 = .ok (.aload_n 0, 1) := by decide +kernel
theorem dX7_search_62 : decode cX7_search 62 = .ok (.dup, 1) := by decide +kernel
theorem dX7_search_63 : decode cX7_search 63 = .ok (.getfield 74, 3) := by decide +kernel
theorem dX7_search_66 : decode cX7_search 66 = .ok (.iconst 1, 1) := by decide +kernel
theorem dX7_search_67 : decode cX7_search 67 = .ok (.iload_n 1, 1) := by decide +kernel
theorem dX7_search_68 : decode cX7_search 68 = .ok (.ishl, 1) := by decide +kernel
theorem dX7_search_69 : decode cX7_search 69 = .ok (.iadd, 1) := by decide +kernel
theorem dX7_search_70 : decode cX7_search 70 = .ok (.putfield 74, 3) := by decide +kernel
theorem dX7_search_73 : decode cX7_search 73 = .ok (.return_, 1) := by decide +kernel
theorem dX7_search_74 : decode cX7_search 74 = .ok (.iload_n 1, 1) := by decide +kernel
theorem dX7_search_75 : decode cX7_search 75 = .ok (.iconst 1, 1) := by decide +kernel
theorem dX7_search_76 : decode cX7_search 76 = .ok (.isub, 1) := by decide +kernel
theorem dX7_search_77 : decode cX7_search 77 = .ok (.istore_n 3, 1) := by decide +kernel
theorem dX7_search_78 : decode cX7_search 78 = .ok (.aload_n 0, 1) := by decide +kernel
theorem dX7_search_79 : decode cX7_search 79 = .ok (.iload_n 3, 1) := by decide +kernel
theorem dX7_search_80 : decode cX7_search 80 = .ok (.iload_n 2, 1) := by decide +kernel
theorem dX7_search_81 : decode cX7_search 81 = .ok (.invokevirtual 83, 3) := by decide +kernel
theorem dX7_search_84 : decode cX7_search 84 = .ok (.aload_n 0, 1) := by decide +kernel
theorem dX7_search_85 : decode cX7_search 85 = .ok (.iload_n 3, 1) := by decide +kernel
theorem dX7_search_86 : decode cX7_search 86 = .ok (.iconst 1, 1) := by decide +kernel
theorem dX7_search_87 : decode cX7_search 87 = .ok (.invokevirtual 94, 3) := by decide +kernel
theorem dX7_search_90 : decode cX7_search 90 = .ok (.aload_n 0, 1) := by decide +kernel
theorem dX7_search_91 : decode cX7_search 91 = .ok (.iload_n 3, 1) := by decide +kernel
theorem dX7_search_92 : decode cX7_search 92 = .ok (.iload_n 2, 1) := by decide +kernel
theorem dX7_search_93 : decode cX7_search 93 = .ok (.iconst 1, 1) := by decide +kernel
theorem dX7_search_94 : decode cX7_search 94 = .ok (.iload_n 3, 1) := by decide +kernel
theorem dX7_search_95 : decode cX7_search 95 = .ok (.ishl, 1) := by decide +kernel
theorem dX7_search_96 : decode cX7_search 96 = .ok (.ior, 1) := by decide +kernel
theorem dX7_search_97 : decode cX7_search 97 = .ok (.invokevirtual 83, 3) := by decide +kernel
theorem dX7_search_100 : decode cX7_search 100 = .ok (.aload_n 0, 1) := by decide +kernel
theorem dX7_search_101 : decode cX7_search 101 = .ok (.iload_n 3, 1) := by decide +kernel
theorem dX7_search_102 : decode cX7_search 102 = .ok (.iconst (-1), 1) := by decide +kernel
theorem dX7_search_103 : decode cX7_search 103 = .ok (.invokevirtual 94, 3) := by decide +kernel
theorem dX7_search_106 : decode cX7_search 106 = .ok (.return_, 1) := by decide +kernel
def fj_X7_search_58 (F_X7_search : Int32 → Int32 → ro_Mem → Option ro_Mem) (v1 : Int32) (t1 : Int32) (μ : ro_Mem) : Option ro_Mem :=
  ro_lt (ro_set μ 199 2 t1) fun m9 =>
  ro_lt (ro_set m9 199 0 ((m9 199 0) + ((1 : Int32) <<< (v1 &&& 31)))) fun m11 =>
  some m11
theorem bj_X7_search_58 {K : ro_K} {hd : Nat} (hhd : 1 ≤ hd) (hK : ro_C K RX7 cX7_search 4 (hd + 1)) (hR : ro_R K none) {F_X7_search : Int32 → Int32 → ro_Mem → Option ro_Mem} (H_X7_search : ∀ (v1 : Int32) (v2 : Int32) (μ : ro_Mem) (out : ro_Mem), F_X7_search v1 v2 μ = some out → ro_MX (kl K) (kG K) yX7_search cX7_search 4 none hd [.ref (ro_ad (kG K) 199), .int v1, .int v2] μ none out) {v1 : Int32} {t1 : Int32}   {μ : ro_Mem}  {out : ro_Mem} (hf : fj_X7_search_58 F_X7_search v1 t1 μ = some out) (hq : kQ K none out) : ro_X K 58 [(0, .ref (ro_ad (kG K) 199)), (1, .int v1)] [.int t1, .ref (ro_ad (kG K) 199)] μ := by
  unfold fj_X7_search_58 at hf
  obtain ⟨m9, e10, hf⟩ := ro_ld hf
  refine ro_puti hK fl_X7_80 sh_199 rfl rfl dX7_search_58 ?_
  refine ro_mv e10 ?_
  refine ro_aload_n hK 0 rfl dX7_search_61 rfl ?_
  refine ro_dup hK dX7_search_62 rfl ?_
  refine ro_geti hK fl_X7_74 sh_199 dX7_search_63 ?_
  refine ro_iconst (v := 1) hK dX7_search_66 (by decide) ?_
  refine ro_iload_n hK 1 rfl dX7_search_67 rfl ?_
  refine ro_ishl hK dX7_search_68 ?_
  refine ro_iadd hK dX7_search_69 ?_
  obtain ⟨m11, e12, hf⟩ := ro_ld hf
  refine ro_puti hK fl_X7_74 sh_199 rfl rfl dX7_search_70 ?_
  refine ro_mv e12 ?_
  obtain rfl := Option.some.inj hf
  exact ro_vret hK hR dX7_search_73 hq
def fj_X7_search_37 (F_X7_search : Int32 → Int32 → ro_Mem → Option ro_Mem) (v1 : Int32) (v2 : Int32) (t1 : Int32) (μ : ro_Mem) : Option ro_Mem :=
  ro_lt (ro_set μ 199 1 t1) fun m6 =>
  if (m6 199 0) = 0 then
  (fj_X7_search_58 F_X7_search v1 v2 m6)
  else
  (fj_X7_search_58 F_X7_search v1 ((m6 199 2) &&& v2) m6)
theorem bj_X7_search_37 {K : ro_K} {hd : Nat} (hhd : 1 ≤ hd) (hK : ro_C K RX7 cX7_search 4 (hd + 1)) (hR : ro_R K none) {F_X7_search : Int32 → Int32 → ro_Mem → Option ro_Mem} (H_X7_search : ∀ (v1 : Int32) (v2 : Int32) (μ : ro_Mem) (out : ro_Mem), F_X7_search v1 v2 μ = some out → ro_MX (kl K) (kG K) yX7_search cX7_search 4 none hd [.ref (ro_ad (kG K) 199), .int v1, .int v2] μ none out) {v1 : Int32} {v2 : Int32} {t1 : Int32}   {μ : ro_Mem}  {out : ro_Mem} (hf : fj_X7_search_37 F_X7_search v1 v2 t1 μ = some out) (hq : kQ K none out) : ro_X K 37 [(0, .ref (ro_ad (kG K) 199)), (1, .int v1), (2, .int v2)] [.int t1, .ref (ro_ad (kG K) 199)] μ := by
  unfold fj_X7_search_37 at hf
  obtain ⟨m6, e7, hf⟩ := ro_ld hf
  refine ro_puti hK fl_X7_77 sh_199 rfl rfl dX7_search_37 ?_
  refine ro_mv e7 ?_
  refine ro_aload_n hK 0 rfl dX7_search_40 rfl ?_
  refine ro_aload_n hK 0 rfl dX7_search_41 rfl ?_
  refine ro_geti hK fl_X7_74 sh_199 dX7_search_42 ?_
  refine ro_if_ne hK 52 dX7_search_45 (by decide) (fun c8 => ?_) (fun c8 => ?_)
  · have hf := ro_ie hf c8
    refine ro_aload_n hK 0 rfl dX7_search_52 rfl ?_
    refine ro_geti hK fl_X7_80 sh_199 dX7_search_53 ?_
    refine ro_iload_n hK 2 rfl dX7_search_56 rfl ?_
    refine ro_iand hK dX7_search_57 ?_
    refine ro_sub (L' := [(0, .ref (ro_ad (kG K) 199)), (1, .int v1)]) [0, 1] rfl ?_
    exact bj_X7_search_58 hhd hK hR H_X7_search  hf hq
  · have hf := ro_it hf c8
    refine ro_iload_n hK 2 rfl dX7_search_48 rfl ?_
    refine ro_goto hK 58 dX7_search_49 (by decide) ?_
    refine ro_sub (L' := [(0, .ref (ro_ad (kG K) 199)), (1, .int v1)]) [0, 1] rfl ?_
    exact bj_X7_search_58 hhd hK hR H_X7_search  hf hq
def fj_X7_search_21 (F_X7_search : Int32 → Int32 → ro_Mem → Option ro_Mem) (v1 : Int32) (v2 : Int32) (μ : ro_Mem) : Option ro_Mem :=
  if (μ 199 0) = 0 then
  (fj_X7_search_37 F_X7_search v1 v2 v2 μ)
  else
  (fj_X7_search_37 F_X7_search v1 v2 (μ 199 1) μ)
theorem bj_X7_search_21 {K : ro_K} {hd : Nat} (hhd : 1 ≤ hd) (hK : ro_C K RX7 cX7_search 4 (hd + 1)) (hR : ro_R K none) {F_X7_search : Int32 → Int32 → ro_Mem → Option ro_Mem} (H_X7_search : ∀ (v1 : Int32) (v2 : Int32) (μ : ro_Mem) (out : ro_Mem), F_X7_search v1 v2 μ = some out → ro_MX (kl K) (kG K) yX7_search cX7_search 4 none hd [.ref (ro_ad (kG K) 199), .int v1, .int v2] μ none out) {v1 : Int32} {v2 : Int32}   {μ : ro_Mem}  {out : ro_Mem} (hf : fj_X7_search_21 F_X7_search v1 v2 μ = some out) (hq : kQ K none out) : ro_X K 21 [(0, .ref (ro_ad (kG K) 199)), (1, .int v1), (2, .int v2)] [] μ := by
  unfold fj_X7_search_21 at hf
  refine ro_aload_n hK 0 rfl dX7_search_21 rfl ?_
  refine ro_aload_n hK 0 rfl dX7_search_22 rfl ?_
  refine ro_geti hK fl_X7_74 sh_199 dX7_search_23 ?_
  refine ro_if_ne hK 33 dX7_search_26 (by decide) (fun c5 => ?_) (fun c5 => ?_)
  · have hf := ro_ie hf c5
    refine ro_aload_n hK 0 rfl dX7_search_33 rfl ?_
    refine ro_geti hK fl_X7_77 sh_199 dX7_search_34 ?_
    exact bj_X7_search_37 hhd hK hR H_X7_search  hf hq
  · have hf := ro_it hf c5
    refine ro_iload_n hK 2 rfl dX7_search_29 rfl ?_
    refine ro_goto hK 37 dX7_search_30 (by decide) ?_
    exact bj_X7_search_37 hhd hK hR H_X7_search  hf hq
def fo_X7_search (F_X7_search : Int32 → Int32 → ro_Mem → Option ro_Mem) (v1 : Int32) (v2 : Int32) (μ : ro_Mem) : Option ro_Mem :=
  (fn_X7_isInReach v1 μ).bind fun q1 =>
  if q1 = 0 then
  (some μ)
  else
  (if v1 = 0 then
  (fj_X7_search_21 F_X7_search v1 v2 μ)
  else
  ((fn_X7_isFree v1 μ).bind fun q13 =>
  if q13 = 0 then
  (ro_lt (v1 - 1) fun z16 =>
  (F_X7_search z16 v2 μ).bind fun q18 =>
  (fn_X7_sing z16 1 q18).bind fun q20 =>
  (F_X7_search z16 (v2 ||| ((1 : Int32) <<< (z16 &&& 31))) q20).bind fun q22 =>
  (fn_X7_sing z16 (-1) q22).bind fun q24 =>
  some q24)
  else
  (fj_X7_search_21 F_X7_search v1 v2 μ)))
theorem be_X7_search {K : ro_K} {hd : Nat} (hhd : 1 ≤ hd) (hK : ro_C K RX7 cX7_search 4 (hd + 1)) (hR : ro_R K none) {F_X7_search : Int32 → Int32 → ro_Mem → Option ro_Mem} (H_X7_search : ∀ (v1 : Int32) (v2 : Int32) (μ : ro_Mem) (out : ro_Mem), F_X7_search v1 v2 μ = some out → ro_MX (kl K) (kG K) yX7_search cX7_search 4 none hd [.ref (ro_ad (kG K) 199), .int v1, .int v2] μ none out) {v1 : Int32} {v2 : Int32}  {μ : ro_Mem} {out : ro_Mem} (hf : fo_X7_search F_X7_search v1 v2 μ = some out) (hq : kQ K none out) : ro_X K 0 [(0, .ref (ro_ad (kG K) 199)), (1, .int v1), (2, .int v2)] [] μ := by
  unfold fo_X7_search at hf
  refine ro_aload_n hK 0 rfl dX7_search_0 rfl ?_
  refine ro_iload_n hK 1 rfl dX7_search_1 rfl ?_
  obtain ⟨q1, e2, hf⟩ := ro_bd hf
  refine ro_callvi hK [.int v1] ml_X7_87 mv_X7_isInReach (mt_X7_isInReach (kl K) (kG K)  e2) sh_199 ⟨_, rfl, rfl⟩ (by omega) rfl rfl (Nat.le_of_ble_eq_true rfl) dX7_search_2 ?_
  refine ro_if_ne hK 9 dX7_search_5 (by decide) (fun c3 => ?_) (fun c3 => ?_)
  · have hf := ro_ie hf c3
    refine ro_iload_n hK 1 rfl dX7_search_9 rfl ?_
    refine ro_if_eq hK 21 dX7_search_10 (by decide) (fun c4 => ?_) (fun c4 => ?_)
    · have hf := ro_it hf c4
      exact bj_X7_search_21 hhd hK hR H_X7_search  hf hq
    · have hf := ro_ie hf c4
      refine ro_aload_n hK 0 rfl dX7_search_13 rfl ?_
      refine ro_iload_n hK 1 rfl dX7_search_14 rfl ?_
      obtain ⟨q13, e14, hf⟩ := ro_bd hf
      refine ro_callvi hK [.int v1] ml_X7_91 mv_X7_isFree (mt_X7_isFree (kl K) (kG K)  e14) sh_199 ⟨_, rfl, rfl⟩ (by omega) rfl rfl (Nat.le_of_ble_eq_true rfl) dX7_search_15 ?_
      refine ro_if_eq hK 74 dX7_search_18 (by decide) (fun c15 => ?_) (fun c15 => ?_)
      · have hf := ro_it hf c15
        refine ro_iload_n hK 1 rfl dX7_search_74 rfl ?_
        refine ro_iconst (v := 1) hK dX7_search_75 (by decide) ?_
        refine ro_isub hK dX7_search_76 ?_
        obtain ⟨z16, e17, hf⟩ := ro_ld hf
        refine ro_iv e17 ?_
        refine ro_istore_n (L' := [(3, .int z16), (0, .ref (ro_ad (kG K) 199)), (1, .int v1), (2, .int v2)]) hK dX7_search_77 rfl (by decide) rfl ?_
        refine ro_aload_n hK 1 rfl dX7_search_78 rfl ?_
        refine ro_iload_n hK 0 rfl dX7_search_79 rfl ?_
        refine ro_iload_n hK 3 rfl dX7_search_80 rfl ?_
        obtain ⟨q18, e19, hf⟩ := ro_bd hf
        refine ro_callvv hK [.int z16, .int v2] ml_X7_83 mv_X7_search (H_X7_search _ _ _ _ e19) sh_199 ⟨_, rfl, rfl⟩ (Nat.le_refl _) rfl rfl (Nat.le_of_ble_eq_true rfl) dX7_search_81 ?_
        refine ro_aload_n hK 1 rfl dX7_search_84 rfl ?_
        refine ro_iload_n hK 0 rfl dX7_search_85 rfl ?_
        refine ro_iconst (v := 1) hK dX7_search_86 (by decide) ?_
        obtain ⟨q20, e21, hf⟩ := ro_bd hf
        refine ro_callvv hK [.int z16, .int 1] ml_X7_94 mv_X7_sing (mt_X7_sing (kl K) (kG K)  e21) sh_199 ⟨_, rfl, rfl⟩ (by omega) rfl rfl (Nat.le_of_ble_eq_true rfl) dX7_search_87 ?_
        refine ro_aload_n hK 1 rfl dX7_search_90 rfl ?_
        refine ro_iload_n hK 0 rfl dX7_search_91 rfl ?_
        refine ro_iload_n hK 3 rfl dX7_search_92 rfl ?_
        refine ro_iconst (v := 1) hK dX7_search_93 (by decide) ?_
        refine ro_iload_n hK 0 rfl dX7_search_94 rfl ?_
        refine ro_ishl hK dX7_search_95 ?_
        refine ro_ior hK dX7_search_96 ?_
        obtain ⟨q22, e23, hf⟩ := ro_bd hf
        refine ro_callvv hK [.int z16, .int (v2 ||| ((1 : Int32) <<< (z16 &&& 31)))] ml_X7_83 mv_X7_search (H_X7_search _ _ _ _ e23) sh_199 ⟨_, rfl, rfl⟩ (Nat.le_refl _) rfl rfl (Nat.le_of_ble_eq_true rfl) dX7_search_97 ?_
        refine ro_aload_n hK 1 rfl dX7_search_100 rfl ?_
        refine ro_iload_n hK 0 rfl dX7_search_101 rfl ?_
        refine ro_iconst (v := (-1)) hK dX7_search_102 (by decide) ?_
        obtain ⟨q24, e25, hf⟩ := ro_bd hf
        refine ro_callvv hK [.int z16, .int (-1)] ml_X7_94 mv_X7_sing (mt_X7_sing (kl K) (kG K)  e25) sh_199 ⟨_, rfl, rfl⟩ (by omega) rfl rfl (Nat.le_of_ble_eq_true rfl) dX7_search_103 ?_
        obtain rfl := Option.some.inj hf
        exact ro_vret hK hR dX7_search_106 hq
      · have hf := ro_ie hf c15
        exact bj_X7_search_21 hhd hK hR H_X7_search  hf hq
  · have hf := ro_it hf c3
    obtain rfl := Option.some.inj hf
    exact ro_vret hK hR dX7_search_8 hq
theorem mo_X7_search (l : Launch) (G : ro_G) {hd : Nat} (hhd : 1 ≤ hd) {F_X7_search : Int32 → Int32 → ro_Mem → Option ro_Mem} (H_X7_search : ∀ (v1 : Int32) (v2 : Int32) (μ : ro_Mem) (out : ro_Mem), F_X7_search v1 v2 μ = some out → ro_MX l G yX7_search cX7_search 4 none hd [.ref (ro_ad G 199), .int v1, .int v2] μ none out) {v1 : Int32} {v2 : Int32}  {μ : ro_Mem} {out : ro_Mem} (hf : fo_X7_search F_X7_search v1 v2 μ = some out) : ro_MX l G yX7_search cX7_search 4 none (hd + 1) [.ref (ro_ad G 199), .int v1, .int v2] μ none out := by
  refine ro_MX.of (by decide +kernel) (Nat.le_of_ble_eq_true rfl) (fun K hG hl hq hK hR => ?_)
  subst hG
  subst hl
  exact be_X7_search hhd hK hR H_X7_search  hf hq
def fr_X7_search : Nat → (Int32 → Int32 → ro_Mem → Option ro_Mem)
  | 0 => fun _ _ _ => none
  | n + 1 => let F := fr_X7_search n
    fo_X7_search F
theorem mr_X7_search (l : Launch) (G : ro_G) : ∀ n : Nat, (∀ (v1 : Int32) (v2 : Int32) (μ : ro_Mem) (out : ro_Mem), (fr_X7_search n) v1 v2 μ = some out → ro_MX l G yX7_search cX7_search 4 none (1 + n) [.ref (ro_ad G 199), .int v1, .int v2] μ none out) := by
  intro n
  induction n with
  | zero => exact fun _ _ _ _ => (by intro h; cases h)
  | succ n ih => exact fun v1 v2 μ out hf => mo_X7_search l G (hd := 1 + n) (by omega) ih  hf
def fn_X7_search (v1 : Int32) (v2 : Int32) (μ : ro_Mem) : Option ro_Mem := (fr_X7_search 199) v1 v2 μ
theorem mt_X7_search (l : Launch) (G : ro_G) {v1 : Int32} {v2 : Int32}  {μ : ro_Mem} {out : ro_Mem} (hf : fn_X7_search v1 v2 μ = some out) : ro_MX l G yX7_search cX7_search 4 none 200 [.ref (ro_ad G 199), .int v1, .int v2] μ none out :=
  mr_X7_search l G 199 _ _ _ _ hf
-- ===== X7_solve =====
theorem dX7_solve_0 : decode cX7_solve 0 = .ok (.aload_n 0, 1) := by decide +kernel
theorem dX7_solve_1 : decode cX7_solve 1 = .ok (.iconst 0, 1) := by decide +kernel
theorem dX7_solve_2 : decode cX7_solve 2 = .ok (.putfield 74, 3) := by decide +kernel
theorem dX7_solve_5 : decode cX7_solve 5 = .ok (.aload_n 0, 1) := by decide +kernel
theorem dX7_solve_6 : decode cX7_solve 6 = .ok (.iconst 0, 1) := by decide +kernel
theorem dX7_solve_7 : decode cX7_solve 7 = .ok (.putfield 77, 3) := by decide +kernel
theorem dX7_solve_10 : decode cX7_solve 10 = .ok (.aload_n 0, 1) := by decide +kernel
theorem dX7_solve_11 : decode cX7_solve 11 = .ok (.iconst 0, 1) := by decide +kernel
theorem dX7_solve_12 : decode cX7_solve 12 = .ok (.putfield 80, 3) := by decide +kernel
theorem dX7_solve_15 : decode cX7_solve 15 = .ok (.aload_n 0, 1) := by decide +kernel
theorem dX7_solve_16 : decode cX7_solve 16 = .ok (.aload_n 0, 1) := by decide +kernel
theorem dX7_solve_17 : decode cX7_solve 17 = .ok (.getfield 31, 3) := by decide +kernel
theorem dX7_solve_20 : decode cX7_solve 20 = .ok (.iconst 0, 1) := by decide +kernel
theorem dX7_solve_21 : decode cX7_solve 21 = .ok (.invokevirtual 83, 3) := by decide +kernel
theorem dX7_solve_24 : decode cX7_solve 24 = .ok (.return_, 1) := by decide +kernel
def fn_X7_solve (μ : ro_Mem) : Option ro_Mem :=
  ro_lt (ro_set μ 199 0 0) fun m1 =>
  ro_lt (ro_set m1 199 1 0) fun m3 =>
  ro_lt (ro_set m3 199 2 0) fun m5 =>
  (fn_X7_search (m5 199 5) 0 m5).bind fun q7 =>
  some q7
theorem be_X7_solve {K : ro_K} (hK : ro_C K RX7 cX7_solve 1 201) (hR : ro_R K none)   {μ : ro_Mem} {out : ro_Mem} (hf : fn_X7_solve μ = some out) (hq : kQ K none out) : ro_X K 0 [(0, .ref (ro_ad (kG K) 199))] [] μ := by
  unfold fn_X7_solve at hf
  refine ro_aload_n hK 0 rfl dX7_solve_0 rfl ?_
  refine ro_iconst (v := 0) hK dX7_solve_1 (by decide) ?_
  obtain ⟨m1, e2, hf⟩ := ro_ld hf
  refine ro_puti hK fl_X7_74 sh_199 rfl rfl dX7_solve_2 ?_
  refine ro_mv e2 ?_
  refine ro_aload_n hK 0 rfl dX7_solve_5 rfl ?_
  refine ro_iconst (v := 0) hK dX7_solve_6 (by decide) ?_
  obtain ⟨m3, e4, hf⟩ := ro_ld hf
  refine ro_puti hK fl_X7_77 sh_199 rfl rfl dX7_solve_7 ?_
  refine ro_mv e4 ?_
  refine ro_aload_n hK 0 rfl dX7_solve_10 rfl ?_
  refine ro_iconst (v := 0) hK dX7_solve_11 (by decide) ?_
  obtain ⟨m5, e6, hf⟩ := ro_ld hf
  refine ro_puti hK fl_X7_80 sh_199 rfl rfl dX7_solve_12 ?_
  refine ro_mv e6 ?_
  refine ro_aload_n hK 0 rfl dX7_solve_15 rfl ?_
  refine ro_aload_n hK 0 rfl dX7_solve_16 rfl ?_
  refine ro_geti hK fl_X7_31 sh_199 dX7_solve_17 ?_
  refine ro_iconst (v := 0) hK dX7_solve_20 (by decide) ?_
  obtain ⟨q7, e8, hf⟩ := ro_bd hf
  refine ro_callvv hK [.int (m5 199 5), .int 0] ml_X7_83 mv_X7_search (mt_X7_search (kl K) (kG K)  e8) sh_199 ⟨_, rfl, rfl⟩ (by decide) rfl rfl (Nat.le_of_ble_eq_true rfl) dX7_solve_21 ?_
  obtain rfl := Option.some.inj hf
  exact ro_vret hK hR dX7_solve_24 hq
theorem mt_X7_solve (l : Launch) (G : ro_G)   {μ : ro_Mem} {out : ro_Mem} (hf : fn_X7_solve μ = some out) : ro_MX l G yX7_solve cX7_solve 1 none 201 [.ref (ro_ad G 199)] μ none out := by
  refine ro_MX.of (by decide +kernel) (Nat.le_of_ble_eq_true rfl) (fun K hG hl hq hK hR => ?_)
  subst hG
  exact be_X7_solve hK hR  hf hq
