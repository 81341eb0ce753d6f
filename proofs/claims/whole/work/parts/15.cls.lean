-- ===== X4_search =====
theorem dX4_search_0 : decode cX4_search 0 = .ok (.aload_n 0, 1) := by decide +kernel
theorem dX4_search_1 : decode cX4_search 1 = .ok (.iload_n 1, 1) := by decide +kernel
theorem dX4_search_2 : decode cX4_search 2 = .ok (.iload_n 2, 1) := by decide +kernel
theorem dX4_search_3 : decode cX4_search 3 = .ok (.invokevirtual 47, 3) := by decide +kernel
theorem dX4_search_6 : decode cX4_search 6 = .ok (.ifCond .ne 5, 3) := by decide +kernel
theorem dX4_search_9 : decode cX4_search 9 = .ok (.iconst 0, 1) := by decide +kernel
theorem dX4_search_10 : decode cX4_search 10 = .ok (.ireturn, 1) := by decide +kernel
theorem dX4_search_11 : decode cX4_search 11 = .ok (.iload_n 2, 1) := by decide +kernel
theorem dX4_search_12 : decode cX4_search 12 = .ok (.ifCond .eq 7, 3) := by decide +kernel
theorem dX4_search_15 : decode cX4_search 15 = .ok (.iload_n 1, 1) := by decide +kernel
theorem dX4_search_16 : decode cX4_search 16 = .ok (.ifCond .ne 10, 3) := by decide +kernel
theorem dX4_search_19 : decode cX4_search 19 = .ok (.aload_n 0, 1) := by decide +kernel
theorem dX4_search_20 : decode cX4_search 20 = .ok (.iload_n 3, 1) := by decide +kernel
theorem dX4_search_21 : decode cX4_search 21 = .ok (.putfield 40, 3) := by decide +kernel
theorem dX4_search_24 : decode cX4_search 24 = .ok (.iconst 1, 1) := by decide +kernel
theorem dX4_search_25 : decode cX4_search 25 = .ok (.ireturn, 1) := by decide +kernel
theorem dX4_search_26 : decode cX4_search 26 = .ok (.iload_n 1, 1) := by decide +kernel
theorem dX4_search_27 : decode cX4_search 27 = .ok (.iconst 1, 1) := by decide +kernel
theorem dX4_search_28 : decode cX4_search 28 = .ok (.isub, 1) := by decide +kernel
theorem dX4_search_29 : decode cX4_search 29 = .ok (.istore 4, 2) := by decide +kernel
theorem dX4_search_31 : decode cX4_search 31 = .ok (.aload_n 0, 1) := by decide +kernel
theorem dX4_search_32 : decode cX4_search 32 = .ok (.iload 4, 2) := by decide +kernel
theorem dX4_search_34 : decode cX4_search 34 = .ok (.iload_n 2, 1) := by decide +kernel
theorem dX4_search_35 : decode cX4_search 35 = .ok (.iload_n 3, 1) := by decide +kernel
theorem dX4_search_36 : decode cX4_search 36 = .ok (.invokevirtual 43, 3) := by decide +kernel
theorem dX4_search_39 : decode cX4_search 39 = .ok (.ifCond .eq 5, 3) := by decide +kernel
theorem dX4_search_42 : decode cX4_search 42 = .ok (.iconst 1, 1) := by decide +kernel
theorem dX4_search_43 : decode cX4_search 43 = .ok (.ireturn, 1) := by decide +kernel
theorem dX4_search_44 : decode cX4_search 44 = .ok (.iconst 0, 1) := by decide +kernel
theorem dX4_search_45 : decode cX4_search 45 = .ok (.istore 5, 2) := by decide +kernel
theorem dX4_search_47 : decode cX4_search 47 = .ok (.iload 5, 2) := by decide +kernel
theorem dX4_search_49 : decode cX4_search 49 = .ok (.aload_n 0, 1) := by decide +kernel
theorem dX4_search_50 : decode cX4_search 50 = .ok (.getfield 24, 3) := by decide +kernel
theorem dX4_search_53 : decode cX4_search 53 = .ok (.if_icmp .ge 32, 3) := by decide +kernel
theorem dX4_search_56 : decode cX4_search 56 = .ok (.aload_n 0, 1) := by decide +kernel
theorem dX4_search_57 : decode cX4_search 57 = .ok (.getfield 17, 3) := by decide +kernel
theorem dX4_search_60 : decode cX4_search 60 = .ok (.iload 5, 2) := by decide +kernel
theorem dX4_search_62 : decode cX4_search 62 = .ok (.dup2, 1) := by decide +kernel
theorem dX4_search_63 : decode cX4_search 63 = .ok (.iaload, 1) := by decide +kernel
theorem dX4_search_64 : decode cX4_search 64 = .ok (.aload_n 0, 1) := by decide +kernel
theorem dX4_search_65 : decode cX4_search 65 = .ok (.getfield 11, 3) := by decide +kernel
theorem dX4_search_68 : decode cX4_search 68 = .ok (.iload 5, 2) := by decide +kernel
theorem dX4_search_70 : decode cX4_search 70 = .ok (.aaload, 1) := by decide +kernel
theorem dX4_search_71 : decode cX4_search 71 = .ok (.getfield 28, 3) := by decide +kernel
theorem dX4_search_74 : decode cX4_search 74 = .ok (.iload 4, 2) := by decide +kernel
theorem dX4_search_76 : decode cX4_search 76 = .ok (.iaload, 1) := by decide +kernel
theorem dX4_search_77 : decode cX4_search 77 = .ok (.isub, 1) := by decide +kernel
theorem dX4_search_78 : decode cX4_search 78 = .ok (.iastore, 1) := by decide +kernel
theorem dX4_search_79 : decode cX4_search 79 = .ok (.iinc 5 1, 3) := by decide +kernel
theorem dX4_search_82 : decode cX4_search 82 = .ok (.goto (-35), 3) := by decide +kernel
theorem dX4_search_85 : decode cX4_search 85 = .ok (.aload_n 0, 1) := by decide +kernel
theorem dX4_search_86 : decode cX4_search 86 = .ok (.iload 4, 2) := by decide +kernel
theorem dX4_search_88 : decode cX4_search 88 = .ok (.iload_n 2, 1) := by decide +kernel
theorem dX4_search_89 : decode cX4_search 89 = .ok (.iconst 1, 1) := by decide +kernel
theorem dX4_search_90 : decode cX4_search 90 = .ok (.isub, 1) := by decide +kernel
theorem dX4_search_91 : decode cX4_search 91 = .ok (.iload_n 3, 1) := by decide +kernel
theorem dX4_search_92 : decode cX4_search 92 = .ok (.iconst 1, 1) := by decide +kernel
theorem dX4_search_93 : decode cX4_search 93 = .ok (.iload 4, 2) := by decide +kernel
theorem dX4_search_95 : decode cX4_search 95 = .ok (.ishl, 1) := by decide +kernel
theorem dX4_search_96 : decode cX4_search 96 = .ok (.ior, 1) := by decide +kernel
theorem dX4_search_97 : decode cX4_search 97 = .ok (.invokevirtual 43, 3) := by decide +kernel
theorem dX4_search_100 : decode cX4_search 100 = .ok (.istore 5, 2) := by decide +kernel
theorem dX4_search_102 : decode cX4_search 102 = .ok (.iconst 0, 1) := by decide +kernel
theorem dX4_search_103 : decode cX4_search 103 = .ok (.istore 6, 2) := by decide +kernel
theorem dX4_search_105 : decode cX4_search 105 = .ok (.iload 6, 2) := by decide +kernel
theorem dX4_search_107 : decode cX4_search 107 = .ok (.aload_n 0, 1) := by decide +kernel
theorem dX4_search_108 : decode cX4_search 108 = .ok (.getfield 24, 3) := by decide +kernel
theorem dX4_search_111 : decode cX4_search 111 = .ok (.if_icmp .ge 32, 3) := by decide +kernel
theorem dX4_search_114 : decode cX4_search 114 = .ok (.aload_n 0, 1) := by decide +kernel
theorem dX4_search_115 : decode cX4_search 115 = .ok (.getfield 17, 3) := by decide +kernel
theorem dX4_search_118 : decode cX4_search 118 = .ok (.iload 6, 2) := by decide +kernel
theorem dX4_search_120 : decode cX4_search 120 = .ok (.dup2, 1) := by decide +kernel
theorem dX4_search_121 : decode cX4_search 121 = .ok (.iaload, 1) := by decide +kernel
theorem dX4_search_122 : decode cX4_search 122 = .ok (.aload_n 0, 1) := by decide +kernel
theorem dX4_search_123 : decode cX4_search 123 = .ok (.getfield 11, 3) := by decide +kernel
theorem dX4_search_126 : decode cX4_search 126 = .ok (.iload 6, 2) := by decide +kernel
theorem dX4_search_128 : decode cX4_search 128 = .ok (.aaload, 1) := by decide +kernel
theorem dX4_search_129 : decode cX4_search 129 = .ok (.getfield 28, 3) := by decide +kernel
theorem dX4_search_132 : decode cX4_search 132 = .ok (.iload 4, 2) := by decide +kernel
theorem dX4_search_134 : decode cX4_search 134 = .ok (.iaload, 1) := by decide +kernel
theorem dX4_search_135 : decode cX4_search 135 = .ok (.iadd, 1) := by decide +kernel
theorem dX4_search_136 : decode cX4_search 136 = .ok (.iastore, 1) := by decide +kernel
theorem dX4_search_137 : decode cX4_search 137 = .ok (.iinc 6 1, 3) := by decide +kernel
theorem dX4_search_140 : decode cX4_search 140 = .ok (.goto (-35), 3) := by decide +kernel
theorem dX4_search_143 : decode cX4_search 143 = .ok (.iload 5, 2) := by decide +kernel
theorem dX4_search_145 : decode cX4_search 145 = .ok (.ireturn, 1) := by decide +kernel
def ok_X4_search_47 (K : ro_K) (v2 : Int32) (v3 : Int32) (v4 : Int32) : ro_Mem → Prop := fun e => ro_X K 85 [(0, .ref (ro_ad (kG K) 76)), (2, .int v2), (3, .int v3), (4, .int v4)] [] e
def fb_X4_search_47 (F_X4_search : Int32 → Int32 → Int32 → ro_Mem → Option (Int32 × ro_Mem)) (v2 : Int32) (v3 : Int32) (v4 : Int32) (rec : (Int32 × ro_Mem) → Option ro_Mem) (v5 : Int32) (μ : ro_Mem) : Option ro_Mem :=
  if (μ 76 2) ≤ v5 then
  (some μ)
  else
  (if ro_in v5 40 then
  (if ro_in v4 (ro_len (77 + 2 + 3 * v5.toNatClampNeg + 1)) then
  (ro_lt (ro_set μ 78 v5.toNatClampNeg ((μ 78 v5.toNatClampNeg) - (μ ((77 + 2 + 3 * v5.toNatClampNeg) + 1) v4.toNatClampNeg))) fun m16 =>
  rec (v5 + 1, m16)) else none) else none)
theorem bb_X4_search_47 {K : ro_K} {hd : Nat} (hhd : 2 ≤ hd) (hK : ro_C K RX4 cX4_search 7 (hd + 1)) (hR : ro_R K (some .boolean)) {F_X4_search : Int32 → Int32 → Int32 → ro_Mem → Option (Int32 × ro_Mem)} (H_X4_search : ∀ (v1 : Int32) (v2 : Int32) (v3 : Int32) (μ : ro_Mem) (out : Int32 × ro_Mem), F_X4_search v1 v2 v3 μ = some out → ro_MX (kl K) (kG K) yX4_search cX4_search 7 (some .boolean) hd [.ref (ro_ad (kG K) 76), .int v1, .int v2, .int v3] μ (some (.int out.1)) out.2) {v2 : Int32} {v3 : Int32} {v4 : Int32}  {μ : ro_Mem} {rec : (Int32 × ro_Mem) → Option ro_Mem} {v5 : Int32} {q : ro_Mem} (hrec : ∀ (s : Int32 × ro_Mem) (q : ro_Mem), rec s = some q → ok_X4_search_47 K v2 v3 v4 q → ro_X K 47 [(0, .ref (ro_ad (kG K) 76)), (2, .int v2), (3, .int v3), (4, .int v4), (5, .int s.1)] [] s.2) (hf : fb_X4_search_47 F_X4_search v2 v3 v4 rec v5 μ = some q) (hq : ok_X4_search_47 K v2 v3 v4 q) : ro_X K 47 [(0, .ref (ro_ad (kG K) 76)), (2, .int v2), (3, .int v3), (4, .int v4), (5, .int v5)] [] μ := by
  unfold fb_X4_search_47 at hf
  refine ro_iload hK 4 rfl dX4_search_47 ?_
  refine ro_aload_n hK 0 rfl dX4_search_49 rfl ?_
  refine ro_geti hK fl_X4_24 sh_76 dX4_search_50 ?_
  refine ro_icmp_ge hK 85 dX4_search_53 (by decide) (fun c13 => ?_) (fun c13 => ?_)
  · have hf := ro_it hf c13
    refine ro_sub (L' := [(0, .ref (ro_ad (kG K) 76)), (2, .int v2), (3, .int v3), (4, .int v4)]) [0, 1, 2, 3] rfl ?_
    obtain rfl := Option.some.inj hf
    exact hq
  · have hf := ro_ie hf c13
    refine ro_aload_n hK 0 rfl dX4_search_56 rfl ?_
    refine ro_getr hK fl_X4_17 sh_76 dX4_search_57 ?_
    refine ro_iload hK 4 rfl dX4_search_60 ?_
    refine ro_dup2 hK dX4_search_62 rfl rfl ?_
    obtain ⟨g14, hf⟩ := ro_gd hf
    refine ro_iald hK sh_78 g14 dX4_search_63 ?_
    refine ro_aload_n hK 0 rfl dX4_search_64 rfl ?_
    refine ro_getr hK fl_X4_11 sh_76 dX4_search_65 ?_
    refine ro_iload hK 4 rfl dX4_search_68 ?_
    refine ro_aald hK sh_77 g14 dX4_search_70 ?_
    refine ro_getr hK fl_X4_28 (sh_rows g14.2) dX4_search_71 ?_
    refine ro_iload hK 3 rfl dX4_search_74 ?_
    obtain ⟨g15, hf⟩ := ro_gd hf
    refine ro_iald hK (so_10_1 (sh_rows g14.2)) g15 dX4_search_76 ?_
    refine ro_isub hK dX4_search_77 ?_
    obtain ⟨m16, e17, hf⟩ := ro_ld hf
    refine ro_iast hK sh_78 g14 dX4_search_78 ?_
    refine ro_mv e17 ?_
    refine ro_iinc (v := v5 + 1) (L' := [(5, .int (v5 + 1)), (0, .ref (ro_ad (kG K) 76)), (2, .int v2), (3, .int v3), (4, .int v4)]) hK 4 rfl dX4_search_79 rfl (by decide) rfl ?_
    refine ro_goto hK 47 dX4_search_82 (by decide) ?_
    refine ro_sub (L' := [(0, .ref (ro_ad (kG K) 76)), (2, .int v2), (3, .int v3), (4, .int v4), (5, .int (v5 + 1))]) [1, 2, 3, 4, 0] rfl ?_
    exact hrec (v5 + 1, m16) _ hf hq
def fl_X4_search_47 (F_X4_search : Int32 → Int32 → Int32 → ro_Mem → Option (Int32 × ro_Mem)) (v2 : Int32) (v3 : Int32) (v4 : Int32) : (Int32 × ro_Mem) → Option ro_Mem :=
  ro_loop (fun rec s => fb_X4_search_47 F_X4_search v2 v3 v4 rec s.1 s.2) ro_FU
theorem lp_X4_search_47 {K : ro_K} {hd : Nat} (hhd : 2 ≤ hd) (hK : ro_C K RX4 cX4_search 7 (hd + 1)) (hR : ro_R K (some .boolean)) {F_X4_search : Int32 → Int32 → Int32 → ro_Mem → Option (Int32 × ro_Mem)} (H_X4_search : ∀ (v1 : Int32) (v2 : Int32) (v3 : Int32) (μ : ro_Mem) (out : Int32 × ro_Mem), F_X4_search v1 v2 v3 μ = some out → ro_MX (kl K) (kG K) yX4_search cX4_search 7 (some .boolean) hd [.ref (ro_ad (kG K) 76), .int v1, .int v2, .int v3] μ (some (.int out.1)) out.2) {v2 : Int32} {v3 : Int32} {v4 : Int32}  {s : Int32 × ro_Mem} {q : ro_Mem} (hf : fl_X4_search_47 F_X4_search v2 v3 v4 s = some q) (hq : ok_X4_search_47 K v2 v3 v4 q) : ro_X K 47 [(0, .ref (ro_ad (kG K) 76)), (2, .int v2), (3, .int v3), (4, .int v4), (5, .int s.1)] [] s.2 :=
  ro_loopX (b := fun rec s => fb_X4_search_47 F_X4_search v2 v3 v4 rec s.1 s.2) (X := fun s => ro_X K 47 [(0, .ref (ro_ad (kG K) 76)), (2, .int v2), (3, .int v3), (4, .int v4), (5, .int s.1)] [] s.2) (OK := ok_X4_search_47 K v2 v3 v4) (fun rec s q hrec hb ho => bb_X4_search_47 hhd hK hR H_X4_search  hrec hb ho) ro_FU s q hf hq
def ok_X4_search_105 (K : ro_K) (v4 : Int32) (v5 : Int32) : ro_Mem → Prop := fun e => ro_X K 143 [(5, .int v5)] [] e
def fb_X4_search_105 (F_X4_search : Int32 → Int32 → Int32 → ro_Mem → Option (Int32 × ro_Mem)) (v4 : Int32) (v5 : Int32) (rec : (Int32 × ro_Mem) → Option ro_Mem) (v6 : Int32) (μ : ro_Mem) : Option ro_Mem :=
  if (μ 76 2) ≤ v6 then
  (some μ)
  else
  (if ro_in v6 40 then
  (if ro_in v4 (ro_len (77 + 2 + 3 * v6.toNatClampNeg + 1)) then
  (ro_lt (ro_set μ 78 v6.toNatClampNeg ((μ 78 v6.toNatClampNeg) + (μ ((77 + 2 + 3 * v6.toNatClampNeg) + 1) v4.toNatClampNeg))) fun m25 =>
  rec (v6 + 1, m25)) else none) else none)
theorem bb_X4_search_105 {K : ro_K} {hd : Nat} (hhd : 2 ≤ hd) (hK : ro_C K RX4 cX4_search 7 (hd + 1)) (hR : ro_R K (some .boolean)) {F_X4_search : Int32 → Int32 → Int32 → ro_Mem → Option (Int32 × ro_Mem)} (H_X4_search : ∀ (v1 : Int32) (v2 : Int32) (v3 : Int32) (μ : ro_Mem) (out : Int32 × ro_Mem), F_X4_search v1 v2 v3 μ = some out → ro_MX (kl K) (kG K) yX4_search cX4_search 7 (some .boolean) hd [.ref (ro_ad (kG K) 76), .int v1, .int v2, .int v3] μ (some (.int out.1)) out.2) {v4 : Int32} {v5 : Int32}  {μ : ro_Mem} {rec : (Int32 × ro_Mem) → Option ro_Mem} {v6 : Int32} {q : ro_Mem} (hrec : ∀ (s : Int32 × ro_Mem) (q : ro_Mem), rec s = some q → ok_X4_search_105 K v4 v5 q → ro_X K 105 [(0, .ref (ro_ad (kG K) 76)), (4, .int v4), (5, .int v5), (6, .int s.1)] [] s.2) (hf : fb_X4_search_105 F_X4_search v4 v5 rec v6 μ = some q) (hq : ok_X4_search_105 K v4 v5 q) : ro_X K 105 [(0, .ref (ro_ad (kG K) 76)), (4, .int v4), (5, .int v5), (6, .int v6)] [] μ := by
  unfold fb_X4_search_105 at hf
  refine ro_iload hK 3 rfl dX4_search_105 ?_
  refine ro_aload_n hK 0 rfl dX4_search_107 rfl ?_
  refine ro_geti hK fl_X4_24 sh_76 dX4_search_108 ?_
  refine ro_icmp_ge hK 143 dX4_search_111 (by decide) (fun c22 => ?_) (fun c22 => ?_)
  · have hf := ro_it hf c22
    refine ro_sub (L' := [(5, .int v5)]) [2] rfl ?_
    obtain rfl := Option.some.inj hf
    exact hq
  · have hf := ro_ie hf c22
    refine ro_aload_n hK 0 rfl dX4_search_114 rfl ?_
    refine ro_getr hK fl_X4_17 sh_76 dX4_search_115 ?_
    refine ro_iload hK 3 rfl dX4_search_118 ?_
    refine ro_dup2 hK dX4_search_120 rfl rfl ?_
    obtain ⟨g23, hf⟩ := ro_gd hf
    refine ro_iald hK sh_78 g23 dX4_search_121 ?_
    refine ro_aload_n hK 0 rfl dX4_search_122 rfl ?_
    refine ro_getr hK fl_X4_11 sh_76 dX4_search_123 ?_
    refine ro_iload hK 3 rfl dX4_search_126 ?_
    refine ro_aald hK sh_77 g23 dX4_search_128 ?_
    refine ro_getr hK fl_X4_28 (sh_rows g23.2) dX4_search_129 ?_
    refine ro_iload hK 1 rfl dX4_search_132 ?_
    obtain ⟨g24, hf⟩ := ro_gd hf
    refine ro_iald hK (so_10_1 (sh_rows g23.2)) g24 dX4_search_134 ?_
    refine ro_iadd hK dX4_search_135 ?_
    obtain ⟨m25, e26, hf⟩ := ro_ld hf
    refine ro_iast hK sh_78 g23 dX4_search_136 ?_
    refine ro_mv e26 ?_
    refine ro_iinc (v := v6 + 1) (L' := [(6, .int (v6 + 1)), (0, .ref (ro_ad (kG K) 76)), (4, .int v4), (5, .int v5)]) hK 3 rfl dX4_search_137 rfl (by decide) rfl ?_
    refine ro_goto hK 105 dX4_search_140 (by decide) ?_
    refine ro_sub (L' := [(0, .ref (ro_ad (kG K) 76)), (4, .int v4), (5, .int v5), (6, .int (v6 + 1))]) [1, 2, 3, 0] rfl ?_
    exact hrec (v6 + 1, m25) _ hf hq
def fl_X4_search_105 (F_X4_search : Int32 → Int32 → Int32 → ro_Mem → Option (Int32 × ro_Mem)) (v4 : Int32) (v5 : Int32) : (Int32 × ro_Mem) → Option ro_Mem :=
  ro_loop (fun rec s => fb_X4_search_105 F_X4_search v4 v5 rec s.1 s.2) ro_FU
theorem lp_X4_search_105 {K : ro_K} {hd : Nat} (hhd : 2 ≤ hd) (hK : ro_C K RX4 cX4_search 7 (hd + 1)) (hR : ro_R K (some .boolean)) {F_X4_search : Int32 → Int32 → Int32 → ro_Mem → Option (Int32 × ro_Mem)} (H_X4_search : ∀ (v1 : Int32) (v2 : Int32) (v3 : Int32) (μ : ro_Mem) (out : Int32 × ro_Mem), F_X4_search v1 v2 v3 μ = some out → ro_MX (kl K) (kG K) yX4_search cX4_search 7 (some .boolean) hd [.ref (ro_ad (kG K) 76), .int v1, .int v2, .int v3] μ (some (.int out.1)) out.2) {v4 : Int32} {v5 : Int32}  {s : Int32 × ro_Mem} {q : ro_Mem} (hf : fl_X4_search_105 F_X4_search v4 v5 s = some q) (hq : ok_X4_search_105 K v4 v5 q) : ro_X K 105 [(0, .ref (ro_ad (kG K) 76)), (4, .int v4), (5, .int v5), (6, .int s.1)] [] s.2 :=
  ro_loopX (b := fun rec s => fb_X4_search_105 F_X4_search v4 v5 rec s.1 s.2) (X := fun s => ro_X K 105 [(0, .ref (ro_ad (kG K) 76)), (4, .int v4), (5, .int v5), (6, .int s.1)] [] s.2) (OK := ok_X4_search_105 K v4 v5) (fun rec s q hrec hb ho => bb_X4_search_105 hhd hK hR H_X4_search  hrec hb ho) ro_FU s q hf hq
def fo_X4_search (F_X4_search : Int32 → Int32 → Int32 → ro_Mem → Option (Int32 × ro_Mem)) (v1 : Int32) (v2 : Int32) (v3 : Int32) (μ : ro_Mem) : Option (Int32 × ro_Mem) :=
  (fn_X4_isInReach v1 v2 μ).bind fun q1 =>
  if q1 = 0 then
  (some (0, μ))
  else
  (if v2 = 0 then
  (ro_lt (ro_set μ 76 3 v3) fun m5 =>
  some (1, m5))
  else
  (if v1 = 0 then
  (ro_lt (ro_set μ 76 3 v3) fun m30 =>
  some (1, m30))
  else
  (ro_lt (v1 - 1) fun z8 =>
  (F_X4_search z8 v2 v3 μ).bind fun q10 =>
  if q10.1 = 0 then
  ((fl_X4_search_47 F_X4_search v2 v3 z8 (0, q10.2)).bind fun q18 =>
  (F_X4_search z8 (v2 - 1) (v3 ||| ((1 : Int32) <<< (z8 &&& 31))) q18).bind fun q20 =>
  (fl_X4_search_105 F_X4_search z8 q20.1 (0, q20.2)).bind fun q27 =>
  if q20.1 = 0 ∨ q20.1 = 1 then
  (some (q20.1, q27)) else none)
  else
  (some (1, q10.2)))))
theorem be_X4_search {K : ro_K} {hd : Nat} (hhd : 2 ≤ hd) (hK : ro_C K RX4 cX4_search 7 (hd + 1)) (hR : ro_R K (some .boolean)) {F_X4_search : Int32 → Int32 → Int32 → ro_Mem → Option (Int32 × ro_Mem)} (H_X4_search : ∀ (v1 : Int32) (v2 : Int32) (v3 : Int32) (μ : ro_Mem) (out : Int32 × ro_Mem), F_X4_search v1 v2 v3 μ = some out → ro_MX (kl K) (kG K) yX4_search cX4_search 7 (some .boolean) hd [.ref (ro_ad (kG K) 76), .int v1, .int v2, .int v3] μ (some (.int out.1)) out.2) {v1 : Int32} {v2 : Int32} {v3 : Int32}  {μ : ro_Mem} {out : Int32 × ro_Mem} (hf : fo_X4_search F_X4_search v1 v2 v3 μ = some out) (hq : kQ K (some (.int out.1)) out.2) : ro_X K 0 [(0, .ref (ro_ad (kG K) 76)), (1, .int v1), (2, .int v2), (3, .int v3)] [] μ := by
  unfold fo_X4_search at hf
  refine ro_aload_n hK 0 rfl dX4_search_0 rfl ?_
  refine ro_iload_n hK 1 rfl dX4_search_1 rfl ?_
  refine ro_iload_n hK 2 rfl dX4_search_2 rfl ?_
  obtain ⟨q1, e2, hf⟩ := ro_bd hf
  refine ro_callvi hK [.int v1, .int v2] ml_X4_47 mv_X4_isInReach (mt_X4_isInReach (kl K) (kG K)  e2) sh_76 ⟨_, rfl, rfl⟩ (by omega) rfl rfl (Nat.le_of_ble_eq_true rfl) dX4_search_3 ?_
  refine ro_if_ne hK 11 dX4_search_6 (by decide) (fun c3 => ?_) (fun c3 => ?_)
  · have hf := ro_ie hf c3
    refine ro_iload_n hK 2 rfl dX4_search_11 rfl ?_
    refine ro_if_eq hK 19 dX4_search_12 (by decide) (fun c4 => ?_) (fun c4 => ?_)
    · have hf := ro_it hf c4
      refine ro_aload_n hK 0 rfl dX4_search_19 rfl ?_
      refine ro_iload_n hK 3 rfl dX4_search_20 rfl ?_
      obtain ⟨m5, e6, hf⟩ := ro_ld hf
      refine ro_puti hK fl_X4_40 sh_76 rfl rfl dX4_search_21 ?_
      refine ro_mv e6 ?_
      refine ro_iconst (v := 1) hK dX4_search_24 (by decide) ?_
      obtain rfl := Option.some.inj hf
      exact ro_zret hK hR dX4_search_25 (by decide) hq
    · have hf := ro_ie hf c4
      refine ro_iload_n hK 1 rfl dX4_search_15 rfl ?_
      refine ro_if_ne hK 26 dX4_search_16 (by decide) (fun c7 => ?_) (fun c7 => ?_)
      · have hf := ro_ie hf c7
        refine ro_iload_n hK 1 rfl dX4_search_26 rfl ?_
        refine ro_iconst (v := 1) hK dX4_search_27 (by decide) ?_
        refine ro_isub hK dX4_search_28 ?_
        obtain ⟨z8, e9, hf⟩ := ro_ld hf
        refine ro_iv e9 ?_
        refine ro_istore (L' := [(4, .int z8), (0, .ref (ro_ad (kG K) 76)), (1, .int v1), (2, .int v2), (3, .int v3)]) hK dX4_search_29 (by decide) rfl ?_
        refine ro_aload_n hK 1 rfl dX4_search_31 rfl ?_
        refine ro_iload hK 0 rfl dX4_search_32 ?_
        refine ro_iload_n hK 3 rfl dX4_search_34 rfl ?_
        refine ro_iload_n hK 4 rfl dX4_search_35 rfl ?_
        obtain ⟨q10, e11, hf⟩ := ro_bd hf
        refine ro_callvi hK [.int z8, .int v2, .int v3] ml_X4_43 mv_X4_search (H_X4_search _ _ _ _ _ e11) sh_76 ⟨_, rfl, rfl⟩ (Nat.le_refl _) rfl rfl (Nat.le_of_ble_eq_true rfl) dX4_search_36 ?_
        refine ro_if_eq hK 44 dX4_search_39 (by decide) (fun c12 => ?_) (fun c12 => ?_)
        · have hf := ro_it hf c12
          refine ro_iconst (v := 0) hK dX4_search_44 (by decide) ?_
          refine ro_istore (L' := [(5, .int 0), (4, .int z8), (0, .ref (ro_ad (kG K) 76)), (1, .int v1), (2, .int v2), (3, .int v3)]) hK dX4_search_45 (by decide) rfl ?_
          obtain ⟨q18, e19, hf⟩ := ro_bd hf
          refine ro_sub (L' := [(0, .ref (ro_ad (kG K) 76)), (2, .int v2), (3, .int v3), (4, .int z8), (5, .int 0)]) [2, 4, 5, 1, 0] rfl ?_
          refine lp_X4_search_47 hhd hK hR H_X4_search  e19 ?_
          show ro_X K 85 [(0, .ref (ro_ad (kG K) 76)), (2, .int v2), (3, .int v3), (4, .int z8)] [] q18
          refine ro_aload_n hK 0 rfl dX4_search_85 rfl ?_
          refine ro_iload hK 3 rfl dX4_search_86 ?_
          refine ro_iload_n hK 1 rfl dX4_search_88 rfl ?_
          refine ro_iconst (v := 1) hK dX4_search_89 (by decide) ?_
          refine ro_isub hK dX4_search_90 ?_
          refine ro_iload_n hK 2 rfl dX4_search_91 rfl ?_
          refine ro_iconst (v := 1) hK dX4_search_92 (by decide) ?_
          refine ro_iload hK 3 rfl dX4_search_93 ?_
          refine ro_ishl hK dX4_search_95 ?_
          refine ro_ior hK dX4_search_96 ?_
          obtain ⟨q20, e21, hf⟩ := ro_bd hf
          refine ro_callvi hK [.int z8, .int (v2 - 1), .int (v3 ||| ((1 : Int32) <<< (z8 &&& 31)))] ml_X4_43 mv_X4_search (H_X4_search _ _ _ _ _ e21) sh_76 ⟨_, rfl, rfl⟩ (Nat.le_refl _) rfl rfl (Nat.le_of_ble_eq_true rfl) dX4_search_97 ?_
          refine ro_istore (L' := [(5, .int q20.1), (0, .ref (ro_ad (kG K) 76)), (2, .int v2), (3, .int v3), (4, .int z8)]) hK dX4_search_100 (by decide) rfl ?_
          refine ro_iconst (v := 0) hK dX4_search_102 (by decide) ?_
          refine ro_istore (L' := [(6, .int 0), (5, .int q20.1), (0, .ref (ro_ad (kG K) 76)), (2, .int v2), (3, .int v3), (4, .int z8)]) hK dX4_search_103 (by decide) rfl ?_
          obtain ⟨q27, e28, hf⟩ := ro_bd hf
          refine ro_sub (L' := [(0, .ref (ro_ad (kG K) 76)), (4, .int z8), (5, .int q20.1), (6, .int 0)]) [2, 5, 1, 0] rfl ?_
          refine lp_X4_search_105 hhd hK hR H_X4_search  e28 ?_
          show ro_X K 143 [(5, .int q20.1)] [] q27
          refine ro_iload hK 0 rfl dX4_search_143 ?_
          obtain ⟨g29, hf⟩ := ro_gd hf
          obtain rfl := Option.some.inj hf
          exact ro_zret hK hR dX4_search_145 g29 hq
        · have hf := ro_ie hf c12
          refine ro_iconst (v := 1) hK dX4_search_42 (by decide) ?_
          obtain rfl := Option.some.inj hf
          exact ro_zret hK hR dX4_search_43 (by decide) hq
      · have hf := ro_it hf c7
        refine ro_aload_n hK 0 rfl dX4_search_19 rfl ?_
        refine ro_iload_n hK 3 rfl dX4_search_20 rfl ?_
        obtain ⟨m30, e31, hf⟩ := ro_ld hf
        refine ro_puti hK fl_X4_40 sh_76 rfl rfl dX4_search_21 ?_
        refine ro_mv e31 ?_
        refine ro_iconst (v := 1) hK dX4_search_24 (by decide) ?_
        obtain rfl := Option.some.inj hf
        exact ro_zret hK hR dX4_search_25 (by decide) hq
  · have hf := ro_it hf c3
    refine ro_iconst (v := 0) hK dX4_search_9 (by decide) ?_
    obtain rfl := Option.some.inj hf
    exact ro_zret hK hR dX4_search_10 (by decide) hq
theorem mo_X4_search (l : Launch) (G : ro_G) {hd : Nat} (hhd : 2 ≤ hd) {F_X4_search : Int32 → Int32 → Int32 → ro_Mem → Option (Int32 × ro_Mem)} (H_X4_search : ∀ (v1 : Int32) (v2 : Int32) (v3 : Int32) (μ : ro_Mem) (out : Int32 × ro_Mem), F_X4_search v1 v2 v3 μ = some out → ro_MX l G yX4_search cX4_search 7 (some .boolean) hd [.ref (ro_ad G 76), .int v1, .int v2, .int v3] μ (some (.int out.1)) out.2) {v1 : Int32} {v2 : Int32} {v3 : Int32}  {μ : ro_Mem} {out : Int32 × ro_Mem} (hf : fo_X4_search F_X4_search v1 v2 v3 μ = some out) : ro_MX l G yX4_search cX4_search 7 (some .boolean) (hd + 1) [.ref (ro_ad G 76), .int v1, .int v2, .int v3] μ (some (.int out.1)) out.2 := by
  refine ro_MX.of (by decide +kernel) (Nat.le_of_ble_eq_true rfl) (fun K hG hl hq hK hR => ?_)
  subst hG
  subst hl
  exact be_X4_search hhd hK hR H_X4_search  hf hq
def fr_X4_search : Nat → (Int32 → Int32 → Int32 → ro_Mem → Option (Int32 × ro_Mem))
  | 0 => fun _ _ _ _ => none
  | n + 1 => let F := fr_X4_search n
    fo_X4_search F
theorem mr_X4_search (l : Launch) (G : ro_G) : ∀ n : Nat, (∀ (v1 : Int32) (v2 : Int32) (v3 : Int32) (μ : ro_Mem) (out : Int32 × ro_Mem), (fr_X4_search n) v1 v2 v3 μ = some out → ro_MX l G yX4_search cX4_search 7 (some .boolean) (2 + n) [.ref (ro_ad G 76), .int v1, .int v2, .int v3] μ (some (.int out.1)) out.2) := by
  intro n
  induction n with
  | zero => exact fun _ _ _ _ _ => (by intro h; cases h)
  | succ n ih => exact fun v1 v2 v3 μ out hf => mo_X4_search l G (hd := 2 + n) (by omega) ih  hf
def fn_X4_search (v1 : Int32) (v2 : Int32) (v3 : Int32) (μ : ro_Mem) : Option (Int32 × ro_Mem) := (fr_X4_search 198) v1 v2 v3 μ
theorem mt_X4_search (l : Launch) (G : ro_G) {v1 : Int32} {v2 : Int32} {v3 : Int32}  {μ : ro_Mem} {out : Int32 × ro_Mem} (hf : fn_X4_search v1 v2 v3 μ = some out) : ro_MX l G yX4_search cX4_search 7 (some .boolean) 200 [.ref (ro_ad G 76), .int v1, .int v2, .int v3] μ (some (.int out.1)) out.2 :=
  mr_X4_search l G 198 _ _ _ _ _ hf
-- ===== X4_solve =====
theorem dX4_solve_0 : decode cX4_solve 0 = .ok (.aload_n 0, 1) := by decide +kernel
theorem dX4_solve_1 : decode cX4_solve 1 = .ok (.iconst 0, 1) := by decide +kernel
theorem dX4_solve_2 : decode cX4_solve 2 = .ok (.putfield 40, 3) := by decide +kernel
theorem dX4_solve_5 : decode cX4_solve 5 = .ok (.iconst 0, 1) := by decide +kernel
theorem dX4_solve_6 : decode cX4_solve 6 = .ok (.istore_n 1, 1) := by decide +kernel
theorem dX4_solve_7 : decode cX4_solve 7 = .ok (.iload_n 1, 1) := by decide +kernel
theorem dX4_solve_8 : decode cX4_solve 8 = .ok (.bipush 16, 2) := by decide +kernel
theorem dX4_solve_10 : decode cX4_solve 10 = .ok (.if_icmp .gt 25, 3) := by decide +kernel
theorem dX4_solve_13 : decode cX4_solve 13 = .ok (.aload_n 0, 1) := by decide +kernel
theorem dX4_solve_14 : decode cX4_solve 14 = .ok (.bipush 16, 2) := by decide +kernel
theorem dX4_solve_16 : decode cX4_solve 16 = .ok (.iload_n 1, 1) := by decide +kernel
theorem dX4_solve_17 : decode cX4_solve 17 = .ok (.iconst 0, 1) := by decide +kernel
theorem dX4_solve_18 : decode cX4_solve 18 = .ok (.invokevirtual 43, 3) := by decide +kernel
theorem dX4_solve_21 : decode cX4_solve 21 = .ok (.ifCond .eq 8, 3) := by decide +kernel
theorem dX4_solve_24 : decode cX4_solve 24 = .ok (.aload_n 0, 1) := by decide +kernel
theorem dX4_solve_25 : decode cX4_solve 25 = .ok (.getfield 40, 3) := by decide +kernel
theorem dX4_solve_28 : decode cX4_solve 28 = .ok (.ireturn, 1) := by decide +kernel
theorem dX4_solve_29 : decode cX4_solve 29 = .ok (.iinc 1 1, 3) := by decide +kernel
theorem dX4_solve_32 : decode cX4_solve 32 = .ok (.goto (-25), 3) := by decide +kernel
theorem dX4_solve_35 : decode cX4_solve 35 = .ok (.aload_n 0, 1) := by decide +kernel
theorem dX4_solve_36 : decode cX4_solve 36 = .ok (.getfield 40, 3) := by decide +kernel
theorem dX4_solve_39 : decode cX4_solve 39 = .ok (.ireturn, 1) := by decide +kernel
def ok_X4_solve_7 (K : ro_K)  : (ro_Mem ⊕ ro_Mem) → Prop := Sum.elim (fun e => ro_X K 24 [(0, .ref (ro_ad (kG K) 76))] [] e) (fun e => ro_X K 35 [(0, .ref (ro_ad (kG K) 76))] [] e)
def fb_X4_solve_7  (rec : (Int32 × ro_Mem) → Option (ro_Mem ⊕ ro_Mem)) (v1 : Int32) (μ : ro_Mem) : Option (ro_Mem ⊕ ro_Mem) :=
  if 16 < v1 then
  (some (.inr μ))
  else
  ((fn_X4_search 16 v1 0 μ).bind fun q4 =>
  if q4.1 = 0 then
  (rec (v1 + 1, q4.2))
  else
  (some (.inl q4.2)))
theorem bb_X4_solve_7 {K : ro_K} (hK : ro_C K RX4 cX4_solve 2 201) (hR : ro_R K (some .int))   {μ : ro_Mem} {rec : (Int32 × ro_Mem) → Option (ro_Mem ⊕ ro_Mem)} {v1 : Int32} {q : (ro_Mem ⊕ ro_Mem)} (hrec : ∀ (s : Int32 × ro_Mem) (q : (ro_Mem ⊕ ro_Mem)), rec s = some q → ok_X4_solve_7 K q → ro_X K 7 [(0, .ref (ro_ad (kG K) 76)), (1, .int s.1)] [] s.2) (hf : fb_X4_solve_7 rec v1 μ = some q) (hq : ok_X4_solve_7 K q) : ro_X K 7 [(0, .ref (ro_ad (kG K) 76)), (1, .int v1)] [] μ := by
  unfold fb_X4_solve_7 at hf
  refine ro_iload_n hK 1 rfl dX4_solve_7 rfl ?_
  refine ro_bipush (v := 16) hK dX4_solve_8 (by decide) ?_
  refine ro_icmp_gt hK 35 dX4_solve_10 (by decide) (fun c3 => ?_) (fun c3 => ?_)
  · have hf := ro_it hf c3
    refine ro_sub (L' := [(0, .ref (ro_ad (kG K) 76))]) [0] rfl ?_
    obtain rfl := Option.some.inj hf
    exact hq
  · have hf := ro_ie hf c3
    refine ro_aload_n hK 0 rfl dX4_solve_13 rfl ?_
    refine ro_bipush (v := 16) hK dX4_solve_14 (by decide) ?_
    refine ro_iload_n hK 1 rfl dX4_solve_16 rfl ?_
    refine ro_iconst (v := 0) hK dX4_solve_17 (by decide) ?_
    obtain ⟨q4, e5, hf⟩ := ro_bd hf
    refine ro_callvi hK [.int 16, .int v1, .int 0] ml_X4_43 mv_X4_search (mt_X4_search (kl K) (kG K)  e5) sh_76 ⟨_, rfl, rfl⟩ (by decide) rfl rfl (Nat.le_of_ble_eq_true rfl) dX4_solve_18 ?_
    refine ro_if_eq hK 29 dX4_solve_21 (by decide) (fun c6 => ?_) (fun c6 => ?_)
    · have hf := ro_it hf c6
      refine ro_iinc (v := v1 + 1) (L' := [(1, .int (v1 + 1)), (0, .ref (ro_ad (kG K) 76))]) hK 1 rfl dX4_solve_29 rfl (by decide) rfl ?_
      refine ro_goto hK 7 dX4_solve_32 (by decide) ?_
      refine ro_sub (L' := [(0, .ref (ro_ad (kG K) 76)), (1, .int (v1 + 1))]) [1, 0] rfl ?_
      exact hrec (v1 + 1, q4.2) _ hf hq
    · have hf := ro_ie hf c6
      refine ro_sub (L' := [(0, .ref (ro_ad (kG K) 76))]) [0] rfl ?_
      obtain rfl := Option.some.inj hf
      exact hq
def fl_X4_solve_7  : (Int32 × ro_Mem) → Option (ro_Mem ⊕ ro_Mem) :=
  ro_loop (fun rec s => fb_X4_solve_7 rec s.1 s.2) ro_FU
theorem lp_X4_solve_7 {K : ro_K} (hK : ro_C K RX4 cX4_solve 2 201) (hR : ro_R K (some .int))   {s : Int32 × ro_Mem} {q : (ro_Mem ⊕ ro_Mem)} (hf : fl_X4_solve_7 s = some q) (hq : ok_X4_solve_7 K q) : ro_X K 7 [(0, .ref (ro_ad (kG K) 76)), (1, .int s.1)] [] s.2 :=
  ro_loopX (b := fun rec s => fb_X4_solve_7 rec s.1 s.2) (X := fun s => ro_X K 7 [(0, .ref (ro_ad (kG K) 76)), (1, .int s.1)] [] s.2) (OK := ok_X4_solve_7 K) (fun rec s q hrec hb ho => bb_X4_solve_7 hK hR  hrec hb ho) ro_FU s q hf hq
def fn_X4_solve (μ : ro_Mem) : Option (Int32 × ro_Mem) :=
  ro_lt (ro_set μ 76 3 0) fun m1 =>
  (fl_X4_solve_7  (0, m1)).bind fun q7 =>
  q7.elim (fun e9 => some (e9 76 3, e9)) (fun e10 => some (e10 76 3, e10))
theorem be_X4_solve {K : ro_K} (hK : ro_C K RX4 cX4_solve 2 201) (hR : ro_R K (some .int))   {μ : ro_Mem} {out : Int32 × ro_Mem} (hf : fn_X4_solve μ = some out) (hq : kQ K (some (.int out.1)) out.2) : ro_X K 0 [(0, .ref (ro_ad (kG K) 76))] [] μ := by
  unfold fn_X4_solve at hf
  refine ro_aload_n hK 0 rfl dX4_solve_0 rfl ?_
  refine ro_iconst (v := 0) hK dX4_solve_1 (by decide) ?_
  obtain ⟨m1, e2, hf⟩ := ro_ld hf
  refine ro_puti hK fl_X4_40 sh_76 rfl rfl dX4_solve_2 ?_
  refine ro_mv e2 ?_
  refine ro_iconst (v := 0) hK dX4_solve_5 (by decide) ?_
  refine ro_istore_n (L' := [(1, .int 0), (0, .ref (ro_ad (kG K) 76))]) hK dX4_solve_6 rfl (by decide) rfl ?_
  obtain ⟨q7, e8, hf⟩ := ro_bd hf
  refine ro_sub (L' := [(0, .ref (ro_ad (kG K) 76)), (1, .int 0)]) [1, 0] rfl ?_
  refine lp_X4_solve_7 hK hR  e8 ?_
  rcases q7 with e9 | e10
  · have hf := ro_el hf
    show ro_X K 24 [(0, .ref (ro_ad (kG K) 76))] [] e9
    refine ro_aload_n hK 0 rfl dX4_solve_24 rfl ?_
    refine ro_geti hK fl_X4_40 sh_76 dX4_solve_25 ?_
    obtain rfl := Option.some.inj hf
    exact ro_iret hK hR dX4_solve_28 hq
  · have hf := ro_er hf
    show ro_X K 35 [(0, .ref (ro_ad (kG K) 76))] [] e10
    refine ro_aload_n hK 0 rfl dX4_solve_35 rfl ?_
    refine ro_geti hK fl_X4_40 sh_76 dX4_solve_36 ?_
    obtain rfl := Option.some.inj hf
    exact ro_iret hK hR dX4_solve_39 hq
theorem mt_X4_solve (l : Launch) (G : ro_G)   {μ : ro_Mem} {out : Int32 × ro_Mem} (hf : fn_X4_solve μ = some out) : ro_MX l G yX4_solve cX4_solve 2 (some .int) 201 [.ref (ro_ad G 76)] μ (some (.int out.1)) out.2 := by
  refine ro_MX.of (by decide +kernel) (Nat.le_of_ble_eq_true rfl) (fun K hG hl hq hK hR => ?_)
  subst hG
  exact be_X4_solve hK hR  hf hq
-- ===== X5_readPitch =====
theorem dX5_readPitch_0 : decode cX5_readPitch 0 = .ok (.aload_n 1, 1) := by decide +kernel
theorem dX5_readPitch_1 : decode cX5_readPitch 1 = .ok (.getfield 59, 3) := by decide +kernel
theorem dX5_readPitch_4 : decode cX5_readPitch 4 = .ok (.istore_n 2, 1) := by decide +kernel
theorem dX5_readPitch_5 : decode cX5_readPitch 5 = .ok (.aload_n 1, 1) := by decide +kernel
theorem dX5_readPitch_6 : decode cX5_readPitch 6 = .ok (.invokevirtual 74, 3) := by decide +kernel
theorem dX5_readPitch_9 : decode cX5_readPitch 9 = .ok (.istore_n 3, 1) := by decide +kernel
theorem dX5_readPitch_10 : decode cX5_readPitch 10 = .ok (.iload_n 3, 1) := by decide +kernel
theorem dX5_readPitch_11 : decode cX5_readPitch 11 = .ok (.ifCond .ge 11, 3) := by decide +kernel
theorem dX5_readPitch_14 : decode cX5_readPitch 14 = .ok (.aload_n 1, 1) := by decide +kernel
theorem dX5_readPitch_15 : decode cX5_readPitch 15 = .ok (.iconst 1, 1) := by decide +kernel
theorem dX5_readPitch_16 : decode cX5_readPitch 16 = .ok (.iload_n 2, 1) := by decide +kernel
theorem dX5_readPitch_17 : decode cX5_readPitch 17 = .ok (.invokevirtual 62, 3) := by decide +kernel
theorem dX5_readPitch_20 : decode cX5_readPitch 20 = .ok (.iconst 0, 1) := by decide +kernel
theorem dX5_readPitch_21 : decode cX5_readPitch 21 = .ok (.ireturn, 1) := by decide +kernel
theorem dX5_readPitch_22 : decode cX5_readPitch 22 = .ok (.aload_n 1, 1) := by decide +kernel
theorem dX5_readPitch_23 : decode cX5_readPitch 23 = .ok (.dup, 1) := by decide +kernel
theorem dX5_readPitch_24 : decode cX5_readPitch 24 = .ok (.getfield 59, 3) := by decide +kernel
theorem dX5_readPitch_27 : decode cX5_readPitch 27 = .ok (.iconst 1, 1) := by decide +kernel
theorem dX5_readPitch_28 : decode cX5_readPitch 28 = .ok (.iadd, 1) := by decide +kernel
theorem dX5_readPitch_29 : decode cX5_readPitch 29 = .ok (.putfield 59, 3) := by decide +kernel
theorem dX5_readPitch_32 : decode cX5_readPitch 32 = .ok (.aload_n 1, 1) := by decide +kernel
theorem dX5_readPitch_33 : decode cX5_readPitch 33 = .ok (.invokevirtual 74, 3) := by decide +kernel
theorem dX5_readPitch_36 : decode cX5_readPitch 36 = .ok (.istore 4, 2) := by decide +kernel
theorem dX5_readPitch_38 : decode cX5_readPitch 38 = .ok (.iload 4, 2) := by decide +kernel
theorem dX5_readPitch_40 : decode cX5_readPitch 40 = .ok (.ifCond .lt 21, 3) := by decide +kernel
theorem dX5_readPitch_43 : decode cX5_readPitch 43 = .ok (.aload_n 1, 1) := by decide +kernel
theorem dX5_readPitch_44 : decode cX5_readPitch 44 = .ok (.dup, 1) := by decide +kernel
theorem dX5_readPitch_45 : decode cX5_readPitch 45 = .ok (.getfield 59, 3) := by decide +kernel
theorem dX5_readPitch_48 : decode cX5_readPitch 48 = .ok (.iconst 1, 1) := by decide +kernel
theorem dX5_readPitch_49 : decode cX5_readPitch 49 = .ok (.iadd, 1) := by decide +kernel
theorem dX5_readPitch_50 : decode cX5_readPitch 50 = .ok (.putfield 59, 3) := by decide +kernel
theorem dX5_readPitch_53 : decode cX5_readPitch 53 = .ok (.bipush 10, 2) := by decide +kernel
theorem dX5_readPitch_55 : decode cX5_readPitch 55 = .ok (.iload_n 3, 1) := by decide +kernel
theorem dX5_readPitch_56 : decode cX5_readPitch 56 = .ok (.imul, 1) := by decide +kernel
theorem dX5_readPitch_57 : decode cX5_readPitch 57 = .ok (.iload 4, 2) := by decide +kernel
theorem dX5_readPitch_59 : decode cX5_readPitch 59 = .ok (.iadd, 1) := by decide +kernel
theorem dX5_readPitch_60 : decode cX5_readPitch 60 = .ok (.istore_n 3, 1) := by decide +kernel
theorem dX5_readPitch_61 : decode cX5_readPitch 61 = .ok (.iload_n 3, 1) := by decide +kernel
theorem dX5_readPitch_62 : decode cX5_readPitch 62 = .ok (.bipush 48, 2) := by decide +kernel
theorem dX5_readPitch_64 : decode cX5_readPitch 64 = .ok (.if_icmp .lt 9, 3) := by decide +kernel
theorem dX5_readPitch_67 : decode cX5_readPitch 67 = .ok (.aload_n 1, 1) := by decide +kernel
theorem dX5_readPitch_68 : decode cX5_readPitch 68 = .ok (.iconst 3, 1) := by decide +kernel
theorem dX5_readPitch_69 : decode cX5_readPitch 69 = .ok (.iload_n 2, 1) := by decide +kernel
theorem dX5_readPitch_70 : decode cX5_readPitch 70 = .ok (.invokevirtual 62, 3) := by decide +kernel
theorem dX5_readPitch_73 : decode cX5_readPitch 73 = .ok (.iload_n 3, 1) := by decide +kernel
theorem dX5_readPitch_74 : decode cX5_readPitch 74 = .ok (.ireturn, 1) := by decide +kernel
def fj_X5_readPitch_61 (v2 : Int32) (v3 : Int32) (μ : ro_Mem) : Option (Int32 × ro_Mem) :=
  if v3 < 48 then
  (some (v3, μ))
  else
  ((fn_X8_fail 3 v2 μ).bind fun q12 =>
  some (v3, q12))
theorem bj_X5_readPitch_61 {K : ro_K} (hK : ro_C K RX5 cX5_readPitch 5 2) (hR : ro_R K (some .int)) {v2 : Int32} {v3 : Int32}   {μ : ro_Mem}  {out : Int32 × ro_Mem} (hf : fj_X5_readPitch_61 v2 v3 μ = some out) (hq : kQ K (some (.int out.1)) out.2) : ro_X K 61 [(1, .ref (ro_ad (kG K) 60)), (2, .int v2), (3, .int v3)] [] μ := by
  unfold fj_X5_readPitch_61 at hf
  refine ro_iload_n hK 2 rfl dX5_readPitch_61 rfl ?_
  refine ro_bipush (v := 48) hK dX5_readPitch_62 (by decide) ?_
  refine ro_icmp_lt hK 73 dX5_readPitch_64 (by decide) (fun c11 => ?_) (fun c11 => ?_)
  · have hf := ro_it hf c11
    refine ro_iload_n hK 2 rfl dX5_readPitch_73 rfl ?_
    obtain rfl := Option.some.inj hf
    exact ro_iret hK hR dX5_readPitch_74 hq
  · have hf := ro_ie hf c11
    refine ro_aload_n hK 0 rfl dX5_readPitch_67 rfl ?_
    refine ro_iconst (v := 3) hK dX5_readPitch_68 (by decide) ?_
    refine ro_iload_n hK 1 rfl dX5_readPitch_69 rfl ?_
    obtain ⟨q12, e13, hf⟩ := ro_bd hf
    refine ro_callvv hK [.int 3, .int v2] ml_X5_62 mv_X8_fail (mt_X8_fail (kl K) (kG K)  e13) sh_60 ⟨_, rfl, rfl⟩ (by decide) rfl rfl (Nat.le_of_ble_eq_true rfl) dX5_readPitch_70 ?_
    refine ro_iload_n hK 2 rfl dX5_readPitch_73 rfl ?_
    obtain rfl := Option.some.inj hf
    exact ro_iret hK hR dX5_readPitch_74 hq
def fn_X5_readPitch (o0 : Nat) (μ : ro_Mem) : Option (Int32 × ro_Mem) :=
  ro_lt (μ 60 2) fun z1 =>
  (fn_X8_peekDigit μ).bind fun q3 =>
  if 0 ≤ q3 then
  (ro_lt (ro_set μ 60 2 ((μ 60 2) + 1)) fun m6 =>
  (fn_X8_peekDigit m6).bind fun q8 =>
  if q8 < 0 then
  (fj_X5_readPitch_61 z1 q3 m6)
  else
  (ro_lt (ro_set m6 60 2 ((m6 60 2) + 1)) fun m14 =>
  ro_lt ((10 * q3) + q8) fun z16 =>
  fj_X5_readPitch_61 z1 z16 m14))
  else
  ((fn_X8_fail 1 z1 μ).bind fun q18 =>
  some (0, q18))
theorem be_X5_readPitch {K : ro_K} (hK : ro_C K RX5 cX5_readPitch 5 2) (hR : ro_R K (some .int)) {o0 : Nat} (h0 : ro_sh o0 = (0, 5)) {μ : ro_Mem} {out : Int32 × ro_Mem} (hf : fn_X5_readPitch o0 μ = some out) (hq : kQ K (some (.int out.1)) out.2) : ro_X K 0 [(0, .ref (ro_ad (kG K) o0)), (1, .ref (ro_ad (kG K) 60))] [] μ := by
  unfold fn_X5_readPitch at hf
  refine ro_aload_n hK 1 rfl dX5_readPitch_0 rfl ?_
  refine ro_geti hK fl_X5_59 sh_60 dX5_readPitch_1 ?_
  obtain ⟨z1, e2, hf⟩ := ro_ld hf
  refine ro_iv e2 ?_
  refine ro_istore_n (L' := [(2, .int z1), (0, .ref (ro_ad (kG K) o0)), (1, .ref (ro_ad (kG K) 60))]) hK dX5_readPitch_4 rfl (by decide) rfl ?_
  refine ro_aload_n hK 2 rfl dX5_readPitch_5 rfl ?_
  obtain ⟨q3, e4, hf⟩ := ro_bd hf
  refine ro_callvi hK [] ml_X5_74 mv_X8_peekDigit (mt_X8_peekDigit (kl K) (kG K)  e4) sh_60 ⟨_, rfl, rfl⟩ (by decide) rfl rfl (Nat.le_of_ble_eq_true rfl) dX5_readPitch_6 ?_
  refine ro_istore_n (L' := [(3, .int q3), (2, .int z1), (0, .ref (ro_ad (kG K) o0)), (1, .ref (ro_ad (kG K) 60))]) hK dX5_readPitch_9 rfl (by decide) rfl ?_
  refine ro_iload_n hK 0 rfl dX5_readPitch_10 rfl ?_
  refine ro_if_ge hK 22 dX5_readPitch_11 (by decide) (fun c5 => ?_) (fun c5 => ?_)
  · have hf := ro_it hf c5
    refine ro_aload_n hK 3 rfl dX5_readPitch_22 rfl ?_
    refine ro_dup hK dX5_readPitch_23 rfl ?_
    refine ro_geti hK fl_X5_59 sh_60 dX5_readPitch_24 ?_
    refine ro_iconst (v := 1) hK dX5_readPitch_27 (by decide) ?_
    refine ro_iadd hK dX5_readPitch_28 ?_
    obtain ⟨m6, e7, hf⟩ := ro_ld hf
    refine ro_puti hK fl_X5_59 sh_60 rfl rfl dX5_readPitch_29 ?_
    refine ro_mv e7 ?_
    refine ro_aload_n hK 3 rfl dX5_readPitch_32 rfl ?_
    obtain ⟨q8, e9, hf⟩ := ro_bd hf
    refine ro_callvi hK [] ml_X5_74 mv_X8_peekDigit (mt_X8_peekDigit (kl K) (kG K)  e9) sh_60 ⟨_, rfl, rfl⟩ (by decide) rfl rfl (Nat.le_of_ble_eq_true rfl) dX5_readPitch_33 ?_
    refine ro_istore (L' := [(4, .int q8), (3, .int q3), (2, .int z1), (0, .ref (ro_ad (kG K) o0)), (1, .ref (ro_ad (kG K) 60))]) hK dX5_readPitch_36 (by decide) rfl ?_
    refine ro_iload hK 0 rfl dX5_readPitch_38 ?_
    refine ro_if_lt hK 61 dX5_readPitch_40 (by decide) (fun c10 => ?_) (fun c10 => ?_)
    · have hf := ro_it hf c10
      refine ro_sub (L' := [(1, .ref (ro_ad (kG K) 60)), (2, .int z1), (3, .int q3)]) [4, 2, 1] rfl ?_
      exact bj_X5_readPitch_61 hK hR  hf hq
    · have hf := ro_ie hf c10
      refine ro_aload_n hK 4 rfl dX5_readPitch_43 rfl ?_
      refine ro_dup hK dX5_readPitch_44 rfl ?_
      refine ro_geti hK fl_X5_59 sh_60 dX5_readPitch_45 ?_
      refine ro_iconst (v := 1) hK dX5_readPitch_48 (by decide) ?_
      refine ro_iadd hK dX5_readPitch_49 ?_
      obtain ⟨m14, e15, hf⟩ := ro_ld hf
      refine ro_puti hK fl_X5_59 sh_60 rfl rfl dX5_readPitch_50 ?_
      refine ro_mv e15 ?_
      refine ro_bipush (v := 10) hK dX5_readPitch_53 (by decide) ?_
      refine ro_iload_n hK 1 rfl dX5_readPitch_55 rfl ?_
      refine ro_imul hK dX5_readPitch_56 ?_
      refine ro_iload hK 0 rfl dX5_readPitch_57 ?_
      refine ro_iadd hK dX5_readPitch_59 ?_
      obtain ⟨z16, e17, hf⟩ := ro_ld hf
      refine ro_iv e17 ?_
      refine ro_istore_n (L' := [(3, .int z16), (4, .int q8), (2, .int z1), (0, .ref (ro_ad (kG K) o0)), (1, .ref (ro_ad (kG K) 60))]) hK dX5_readPitch_60 rfl (by decide) rfl ?_
      refine ro_sub (L' := [(1, .ref (ro_ad (kG K) 60)), (2, .int z1), (3, .int z16)]) [4, 2, 0] rfl ?_
      exact bj_X5_readPitch_61 hK hR  hf hq
  · have hf := ro_ie hf c5
    refine ro_aload_n hK 3 rfl dX5_readPitch_14 rfl ?_
    refine ro_iconst (v := 1) hK dX5_readPitch_15 (by decide) ?_
    refine ro_iload_n hK 1 rfl dX5_readPitch_16 rfl ?_
    obtain ⟨q18, e19, hf⟩ := ro_bd hf
    refine ro_callvv hK [.int 1, .int z1] ml_X5_62 mv_X8_fail (mt_X8_fail (kl K) (kG K)  e19) sh_60 ⟨_, rfl, rfl⟩ (by decide) rfl rfl (Nat.le_of_ble_eq_true rfl) dX5_readPitch_17 ?_
    refine ro_iconst (v := 0) hK dX5_readPitch_20 (by decide) ?_
    obtain rfl := Option.some.inj hf
    exact ro_iret hK hR dX5_readPitch_21 hq
theorem mt_X5_readPitch (l : Launch) (G : ro_G) {o0 : Nat} (h0 : ro_sh o0 = (0, 5)) {μ : ro_Mem} {out : Int32 × ro_Mem} (hf : fn_X5_readPitch o0 μ = some out) : ro_MX l G yX5_readPitch cX5_readPitch 5 (some .int) 2 [.ref (ro_ad G o0), .ref (ro_ad G 60)] μ (some (.int out.1)) out.2 := by
  refine ro_MX.of (by decide +kernel) (Nat.le_of_ble_eq_true rfl) (fun K hG hl hq hK hR => ?_)
  subst hG
  exact be_X5_readPitch hK hR h0 hf hq
-- ===== X5_readNote =====
theorem dX5_readNote_0 : decode cX5_readNote 0 = .ok (.aload_n 1, 1) := by decide +kernel
theorem dX5_readNote_1 : decode cX5_readNote 1 = .ok (.ldc 53, 2) := by decide +kernel
theorem dX5_readNote_3 : decode cX5_readNote 3 = .ok (.invokevirtual 55, 3) := by decide +kernel
theorem dX5_readNote_6 : decode cX5_readNote 6 = .ok (.istore_n 2, 1) := by decide +kernel
theorem dX5_readNote_7 : decode cX5_readNote 7 = .ok (.iload_n 2, 1) := by decide +kernel
theorem dX5_readNote_8 : decode cX5_readNote 8 = .ok (.ifCond .ge 15, 3) := by decide +kernel
theorem dX5_readNote_11 : decode cX5_readNote 11 = .ok (.aload_n 1, 1) := by decide +kernel
theorem dX5_readNote_12 : decode cX5_readNote 12 = .ok (.iconst 1, 1) := by decide +kernel
theorem dX5_readNote_13 : decode cX5_readNote 13 = .ok (.aload_n 1, 1) := by decide +kernel
theorem dX5_readNote_14 : decode cX5_readNote 14 = .ok (.getfield 59, 3) := by decide +kernel
theorem dX5_readNote_17 : decode cX5_readNote 17 = .ok (.invokevirtual 62, 3) := by decide +kernel
theorem dX5_readNote_20 : decode cX5_readNote 20 = .ok (.goto 21, 3) := by decide +kernel
theorem dX5_readNote_23 : decode cX5_readNote 23 = .ok (.aload_n 0, 1) := by decide +kernel
theorem dX5_readNote_24 : decode cX5_readNote 24 = .ok (.getfield 27, 3) := by decide +kernel
theorem dX5_readNote_27 : decode cX5_readNote 27 = .ok (.bipush 32, 2) := by decide +kernel
theorem dX5_readNote_29 : decode cX5_readNote 29 = .ok (.if_icmp .lt 12, 3) := by decide +kernel
theorem dX5_readNote_32 : decode cX5_readNote 32 = .ok (.aload_n 1, 1) := by decide +kernel
theorem dX5_readNote_33 : decode cX5_readNote 33 = .ok (.iconst 4, 1) := by decide +kernel
theorem dX5_readNote_34 : decode cX5_readNote 34 = .ok (.aload_n 1, 1) := by decide +kernel
theorem dX5_readNote_35 : decode cX5_readNote 35 = .ok (.getfield 59, 3) := by decide +kernel
theorem dX5_readNote_38 : decode cX5_readNote 38 = .ok (.invokevirtual 62, 3) := by decide +kernel
theorem dX5_readNote_41 : decode cX5_readNote 41 = .ok (.aload_n 1, 1) := by decide +kernel
theorem dX5_readNote_42 : decode cX5_readNote 42 = .ok (.getfield 37, 3) := by decide +kernel
theorem dX5_readNote_45 : decode cX5_readNote 45 = .ok (.ifCond .eq 4, 3) := by decide +kernel
theorem dX5_readNote_48 : decode cX5_readNote 48 = .ok (.return_, 1) := by decide +kernel
theorem dX5_readNote_49 : decode cX5_readNote 49 = .ok (.aload_n 1, 1) := by decide +kernel
theorem dX5_readNote_50 : decode cX5_readNote 50 = .ok (.dup, 1) := by decide +kernel
theorem dX5_readNote_51 : decode cX5_readNote 51 = .ok (.getfield 59, 3) := by decide +kernel
theorem dX5_readNote_54 : decode cX5_readNote 54 = .ok (.iconst 1, 1) := by decide +kernel
theorem dX5_readNote_55 : decode cX5_readNote 55 = .ok (.iadd, 1) := by decide +kernel
theorem dX5_readNote_56 : decode cX5_readNote 56 = .ok (.putfield 59, 3) := by decide +kernel
theorem dX5_readNote_59 : decode cX5_readNote 59 = .ok (.aload_n 0, 1) := by decide +kernel
theorem dX5_readNote_60 : decode cX5_readNote 60 = .ok (.aload_n 1, 1) := by decide +kernel
theorem dX5_readNote_61 : decode cX5_readNote 61 = .ok (.invokevirtual 66, 3) := by decide +kernel
theorem dX5_readNote_64 : decode cX5_readNote 64 = .ok (.istore_n 3, 1) := by decide +kernel
theorem dX5_readNote_65 : decode cX5_readNote 65 = .ok (.aload_n 1, 1) := by decide +kernel
theorem dX5_readNote_66 : decode cX5_readNote 66 = .ok (.bipush 120, 2) := by decide +kernel
theorem dX5_readNote_68 : decode cX5_readNote 68 = .ok (.invokevirtual 70, 3) := by decide +kernel
theorem dX5_readNote_71 : decode cX5_readNote 71 = .ok (.aload_n 1, 1) := by decide +kernel
theorem dX5_readNote_72 : decode cX5_readNote 72 = .ok (.invokevirtual 74, 3) := by decide +kernel
theorem dX5_readNote_75 : decode cX5_readNote 75 = .ok (.istore 4, 2) := by decide +kernel
theorem dX5_readNote_77 : decode cX5_readNote 77 = .ok (.iload 4, 2) := by decide +kernel
theorem dX5_readNote_79 : decode cX5_readNote 79 = .ok (.iconst 1, 1) := by decide +kernel
theorem dX5_readNote_80 : decode cX5_readNote 80 = .ok (.if_icmp .ge 12, 3) := by decide +kernel
theorem dX5_readNote_83 : decode cX5_readNote 83 = .ok (.aload_n 1, 1) := by decide +kernel
theorem dX5_readNote_84 : decode cX5_readNote 84 = .ok (.iconst 1, 1) := by decide +kernel
theorem dX5_readNote_85 : decode cX5_readNote 85 = .ok (.aload_n 1, 1) := by decide +kernel
theorem dX5_readNote_86 : decode cX5_readNote 86 = .ok (.getfield 59, 3) := by decide +kernel
theorem dX5_readNote_89 : decode cX5_readNote 89 = .ok (.invokevirtual 62, 3) := by decide +kernel
theorem dX5_readNote_92 : decode cX5_readNote 92 = .ok (.aload_n 1, 1) := by decide +kernel
theorem dX5_readNote_93 : decode cX5_readNote 93 = .ok (.getfield 37, 3) := by decide +kernel
theorem dX5_readNote_96 : decode cX5_readNote 96 = .ok (.ifCond .eq 4, 3) := by decide +kernel
theorem dX5_readNote_99 : decode cX5_readNote 99 = .ok (.return_, 1) := by decide +kernel
theorem dX5_readNote_100 : decode cX5_readNote 100 = .ok (.aload_n 1, 1) := by decide +kernel
theorem dX5_readNote_101 : decode cX5_readNote 101 = .ok (.dup, 1) := by decide +kernel
theorem dX5_readNote_102 : decode cX5_readNote 102 = .ok (.getfield 59, 3) := by decide +kernel
theorem dX5_readNote_105 : decode cX5_readNote 105 = .ok (.iconst 1, 1) := by decide +kernel
theorem dX5_readNote_106 : decode cX5_readNote 106 = .ok (.iadd, 1) := by decide +kernel
theorem dX5_readNote_107 : decode cX5_readNote 107 = .ok (.putfield 59, 3) := by decide +kernel
theorem dX5_readNote_110 : decode cX5_readNote 110 = .ok (.aload_n 0, 1) := by decide +kernel
theorem dX5_readNote_111 : decode cX5_readNote 111 = .ok (.getfield 9, 3) := by decide +kernel
theorem dX5_readNote_114 : decode cX5_readNote 114 = .ok (.aload_n 0, 1) := by decide +kernel
theorem dX5_readNote_115 : decode cX5_readNote 115 = .ok (.getfield 27, 3) := by decide +kernel
theorem dX5_readNote_118 : decode cX5_readNote 118 = .ok (.iload_n 2, 1) := by decide +kernel
theorem dX5_readNote_119 : decode cX5_readNote 119 = .ok (.iastore, 1) := by decide +kernel
theorem dX5_readNote_120 : decode cX5_readNote 120 = .ok (.aload_n 0, 1) := by decide +kernel
theorem dX5_readNote_121 : decode cX5_readNote 121 = .ok (.getfield 15, 3) := by decide +kernel
theorem dX5_readNote_124 : decode cX5_readNote 124 = .ok (.aload_n 0, 1) := by decide +kernel
theorem dX5_readNote_125 : decode cX5_readNote 125 = .ok (.getfield 27, 3) := by decide +kernel
theorem dX5_readNote_128 : decode cX5_readNote 128 = .ok (.iload_n 3, 1) := by decide +kernel
theorem dX5_readNote_129 : decode cX5_readNote 129 = .ok (.iastore, 1) := by decide +kernel
theorem dX5_readNote_130 : decode cX5_readNote 130 = .ok (.aload_n 0, 1) := by decide +kernel
theorem dX5_readNote_131 : decode cX5_readNote 131 = .ok (.getfield 18, 3) := by decide +kernel
theorem dX5_readNote_134 : decode cX5_readNote 134 = .ok (.aload_n 0, 1) := by decide +kernel
theorem dX5_readNote_135 : decode cX5_readNote 135 = .ok (.getfield 27, 3) := by decide +kernel
theorem dX5_readNote_138 : decode cX5_readNote 138 = .ok (.iload 4, 2) := by decide +kernel
theorem dX5_readNote_140 : decode cX5_readNote 140 = .ok (.iastore, 1) := by decide +kernel
theorem dX5_readNote_141 : decode cX5_readNote 141 = .ok (.aload_n 0, 1) := by decide +kernel
theorem dX5_readNote_142 : decode cX5_readNote 142 = .ok (.getfield 21, 3) := by decide +kernel
theorem dX5_readNote_145 : decode cX5_readNote 145 = .ok (.aload_n 0, 1) := by decide +kernel
theorem dX5_readNote_146 : decode cX5_readNote 146 = .ok (.getfield 27, 3) := by decide +kernel
theorem dX5_readNote_149 : decode cX5_readNote 149 = .ok (.aload_n 0, 1) := by decide +kernel
theorem dX5_readNote_150 : decode cX5_readNote 150 = .ok (.getfield 31, 3) := by decide +kernel
theorem dX5_readNote_153 : decode cX5_readNote 153 = .ok (.iconst 1, 1) := by decide +kernel
theorem dX5_readNote_154 : decode cX5_readNote 154 = .ok (.isub, 1) := by decide +kernel
theorem dX5_readNote_155 : decode cX5_readNote 155 = .ok (.iastore, 1) := by decide +kernel
theorem dX5_readNote_156 : decode cX5_readNote 156 = .ok (.aload_n 0, 1) := by decide +kernel
theorem dX5_readNote_157 : decode cX5_readNote 157 = .ok (.getfield 24, 3) := by decide +kernel
theorem dX5_readNote_160 : decode cX5_readNote 160 = .ok (.aload_n 0, 1) := by decide +kernel
theorem dX5_readNote_161 : decode cX5_readNote 161 = .ok (.getfield 27, 3) := by decide +kernel
theorem dX5_readNote_164 : decode cX5_readNote 164 = .ok (.aload_n 0, 1) := by decide +kernel
theorem dX5_readNote_165 : decode cX5_readNote 165 = .ok (.getfield 34, 3) := by decide +kernel
theorem dX5_readNote_168 : decode cX5_readNote 168 = .ok (.iconst 1, 1) := by decide +kernel
theorem dX5_readNote_169 : decode cX5_readNote 169 = .ok (.isub, 1) := by decide +kernel
theorem dX5_readNote_170 : decode cX5_readNote 170 = .ok (.iastore, 1) := by decide +kernel
theorem dX5_readNote_171 : decode cX5_readNote 171 = .ok (.aload_n 0, 1) := by decide +kernel
theorem dX5_readNote_172 : decode cX5_readNote 172 = .ok (.dup, 1) := by decide +kernel
theorem dX5_readNote_173 : decode cX5_readNote 173 = .ok (.getfield 27, 3) := by decide +kernel
theorem dX5_readNote_176 : decode cX5_readNote 176 = .ok (.iconst 1, 1) := by decide +kernel
theorem dX5_readNote_177 : decode cX5_readNote 177 = .ok (.iadd, 1) := by decide +kernel
theorem dX5_readNote_178 : decode cX5_readNote 178 = .ok (.putfield 27, 3) := by decide +kernel
theorem dX5_readNote_181 : decode cX5_readNote 181 = .ok (.return_, 1) := by decide +kernel
def fj_X5_readNote_92 (o0 : Nat) (v2 : Int32) (v3 : Int32) (v4 : Int32) (μ : ro_Mem) : Option ro_Mem :=
  if (μ 60 4) = 0 then
  (ro_lt (ro_set μ 60 2 ((μ 60 2) + 1)) fun m16 =>
  if ro_in (m16 o0 5) 32 then
  (ro_lt (ro_set m16 (o0 + 1) (m16 o0 5).toNatClampNeg v2) fun m19 =>
  if ro_in (m19 o0 5) 32 then
  (ro_lt (ro_set m19 (o0 + 2) (m19 o0 5).toNatClampNeg v3) fun m22 =>
  if ro_in (m22 o0 5) 32 then
  (ro_lt (ro_set m22 (o0 + 3) (m22 o0 5).toNatClampNeg v4) fun m25 =>
  if ro_in (m25 o0 5) 32 then
  (ro_lt (ro_set m25 (o0 + 4) (m25 o0 5).toNatClampNeg ((m25 o0 6) - 1)) fun m28 =>
  if ro_in (m28 o0 5) 32 then
  (ro_lt (ro_set m28 (o0 + 5) (m28 o0 5).toNatClampNeg ((m28 o0 7) - 1)) fun m31 =>
  ro_lt (ro_set m31 o0 5 ((m31 o0 5) + 1)) fun m33 =>
  some m33) else none) else none) else none) else none) else none)
  else
  (some μ)
theorem bj_X5_readNote_92 {K : ro_K} (hK : ro_C K RX5 cX5_readNote 5 5) (hR : ro_R K none) {o0 : Nat} {v2 : Int32} {v3 : Int32} {v4 : Int32} (h0 : ro_sh o0 = (0, 5))  {μ : ro_Mem}  {out : ro_Mem} (hf : fj_X5_readNote_92 o0 v2 v3 v4 μ = some out) (hq : kQ K none out) : ro_X K 92 [(0, .ref (ro_ad (kG K) o0)), (1, .ref (ro_ad (kG K) 60)), (2, .int v2), (3, .int v3), (4, .int v4)] [] μ := by
  unfold fj_X5_readNote_92 at hf
  refine ro_aload_n hK 1 rfl dX5_readNote_92 rfl ?_
  refine ro_geti hK fl_X5_37 sh_60 dX5_readNote_93 ?_
  refine ro_if_eq hK 100 dX5_readNote_96 (by decide) (fun c15 => ?_) (fun c15 => ?_)
  · have hf := ro_it hf c15
    refine ro_aload_n hK 1 rfl dX5_readNote_100 rfl ?_
    refine ro_dup hK dX5_readNote_101 rfl ?_
    refine ro_geti hK fl_X5_59 sh_60 dX5_readNote_102 ?_
    refine ro_iconst (v := 1) hK dX5_readNote_105 (by decide) ?_
    refine ro_iadd hK dX5_readNote_106 ?_
    obtain ⟨m16, e17, hf⟩ := ro_ld hf
    refine ro_puti hK fl_X5_59 sh_60 rfl rfl dX5_readNote_107 ?_
    refine ro_mv e17 ?_
    refine ro_aload_n hK 0 rfl dX5_readNote_110 rfl ?_
    refine ro_getr hK fl_X5_9 h0 dX5_readNote_111 ?_
    refine ro_aload_n hK 0 rfl dX5_readNote_114 rfl ?_
    refine ro_geti hK fl_X5_27 h0 dX5_readNote_115 ?_
    refine ro_iload_n hK 2 rfl dX5_readNote_118 rfl ?_
    obtain ⟨g18, hf⟩ := ro_gd hf
    obtain ⟨m19, e20, hf⟩ := ro_ld hf
    refine ro_iast hK (so_5_1 h0) g18 dX5_readNote_119 ?_
    refine ro_mv e20 ?_
    refine ro_aload_n hK 0 rfl dX5_readNote_120 rfl ?_
    refine ro_getr hK fl_X5_15 h0 dX5_readNote_121 ?_
    refine ro_aload_n hK 0 rfl dX5_readNote_124 rfl ?_
    refine ro_geti hK fl_X5_27 h0 dX5_readNote_125 ?_
    refine ro_iload_n hK 3 rfl dX5_readNote_128 rfl ?_
    obtain ⟨g21, hf⟩ := ro_gd hf
    obtain ⟨m22, e23, hf⟩ := ro_ld hf
    refine ro_iast hK (so_5_2 h0) g21 dX5_readNote_129 ?_
    refine ro_mv e23 ?_
    refine ro_aload_n hK 0 rfl dX5_readNote_130 rfl ?_
    refine ro_getr hK fl_X5_18 h0 dX5_readNote_131 ?_
    refine ro_aload_n hK 0 rfl dX5_readNote_134 rfl ?_
    refine ro_geti hK fl_X5_27 h0 dX5_readNote_135 ?_
    refine ro_iload hK 4 rfl dX5_readNote_138 ?_
    obtain ⟨g24, hf⟩ := ro_gd hf
    obtain ⟨m25, e26, hf⟩ := ro_ld hf
    refine ro_iast hK (so_5_3 h0) g24 dX5_readNote_140 ?_
    refine ro_mv e26 ?_
    refine ro_aload_n hK 0 rfl dX5_readNote_141 rfl ?_
    refine ro_getr hK fl_X5_21 h0 dX5_readNote_142 ?_
    refine ro_aload_n hK 0 rfl dX5_readNote_145 rfl ?_
    refine ro_geti hK fl_X5_27 h0 dX5_readNote_146 ?_
    refine ro_aload_n hK 0 rfl dX5_readNote_149 rfl ?_
    refine ro_geti hK fl_X5_31 h0 dX5_readNote_150 ?_
    refine ro_iconst (v := 1) hK dX5_readNote_153 (by decide) ?_
    refine ro_isub hK dX5_readNote_154 ?_
    obtain ⟨g27, hf⟩ := ro_gd hf
    obtain ⟨m28, e29, hf⟩ := ro_ld hf
    refine ro_iast hK (so_5_4 h0) g27 dX5_readNote_155 ?_
    refine ro_mv e29 ?_
    refine ro_aload_n hK 0 rfl dX5_readNote_156 rfl ?_
    refine ro_getr hK fl_X5_24 h0 dX5_readNote_157 ?_
    refine ro_aload_n hK 0 rfl dX5_readNote_160 rfl ?_
    refine ro_geti hK fl_X5_27 h0 dX5_readNote_161 ?_
    refine ro_aload_n hK 0 rfl dX5_readNote_164 rfl ?_
    refine ro_geti hK fl_X5_34 h0 dX5_readNote_165 ?_
    refine ro_iconst (v := 1) hK dX5_readNote_168 (by decide) ?_
    refine ro_isub hK dX5_readNote_169 ?_
    obtain ⟨g30, hf⟩ := ro_gd hf
    obtain ⟨m31, e32, hf⟩ := ro_ld hf
    refine ro_iast hK (so_5_5 h0) g30 dX5_readNote_170 ?_
    refine ro_mv e32 ?_
    refine ro_aload_n hK 0 rfl dX5_readNote_171 rfl ?_
    refine ro_dup hK dX5_readNote_172 rfl ?_
    refine ro_geti hK fl_X5_27 h0 dX5_readNote_173 ?_
    refine ro_iconst (v := 1) hK dX5_readNote_176 (by decide) ?_
    refine ro_iadd hK dX5_readNote_177 ?_
    obtain ⟨m33, e34, hf⟩ := ro_ld hf
    refine ro_puti hK fl_X5_27 h0 rfl rfl dX5_readNote_178 ?_
    refine ro_mv e34 ?_
    obtain rfl := Option.some.inj hf
    exact ro_vret hK hR dX5_readNote_181 hq
  · have hf := ro_ie hf c15
    obtain rfl := Option.some.inj hf
    exact ro_vret hK hR dX5_readNote_99 hq
def fj_X5_readNote_41 (o0 : Nat) (v2 : Int32) (μ : ro_Mem) : Option ro_Mem :=
  if (μ 60 4) = 0 then
  (ro_lt (ro_set μ 60 2 ((μ 60 2) + 1)) fun m6 =>
  (fn_X5_readPitch o0 m6).bind fun q8 =>
  (fn_X8_pass 120 q8.2).bind fun q10 =>
  (fn_X8_peekDigit q10).bind fun q12 =>
  if 1 ≤ q12 then
  (fj_X5_readNote_92 o0 v2 q8.1 q12 q10)
  else
  ((fn_X8_fail 1 (q10 60 2) q10).bind fun q35 =>
  fj_X5_readNote_92 o0 v2 q8.1 q12 q35))
  else
  (some μ)
theorem bj_X5_readNote_41 {K : ro_K} (hK : ro_C K RX5 cX5_readNote 5 5) (hR : ro_R K none) {o0 : Nat} {v2 : Int32} (h0 : ro_sh o0 = (0, 5))  {μ : ro_Mem}  {out : ro_Mem} (hf : fj_X5_readNote_41 o0 v2 μ = some out) (hq : kQ K none out) : ro_X K 41 [(0, .ref (ro_ad (kG K) o0)), (1, .ref (ro_ad (kG K) 60)), (2, .int v2)] [] μ := by
  unfold fj_X5_readNote_41 at hf
  refine ro_aload_n hK 1 rfl dX5_readNote_41 rfl ?_
  refine ro_geti hK fl_X5_37 sh_60 dX5_readNote_42 ?_
  refine ro_if_eq hK 49 dX5_readNote_45 (by decide) (fun c5 => ?_) (fun c5 => ?_)
  · have hf := ro_it hf c5
    refine ro_aload_n hK 1 rfl dX5_readNote_49 rfl ?_
    refine ro_dup hK dX5_readNote_50 rfl ?_
    refine ro_geti hK fl_X5_59 sh_60 dX5_readNote_51 ?_
    refine ro_iconst (v := 1) hK dX5_readNote_54 (by decide) ?_
    refine ro_iadd hK dX5_readNote_55 ?_
    obtain ⟨m6, e7, hf⟩ := ro_ld hf
    refine ro_puti hK fl_X5_59 sh_60 rfl rfl dX5_readNote_56 ?_
    refine ro_mv e7 ?_
    refine ro_aload_n hK 0 rfl dX5_readNote_59 rfl ?_
    refine ro_aload_n hK 1 rfl dX5_readNote_60 rfl ?_
    obtain ⟨q8, e9, hf⟩ := ro_bd hf
    refine ro_callvi hK [.ref (ro_ad (kG K) 60)] ml_X5_66 mv_X5_readPitch (mt_X5_readPitch (kl K) (kG K) h0 e9) h0 ⟨_, rfl, rfl⟩ (by decide) rfl rfl (Nat.le_of_ble_eq_true rfl) dX5_readNote_61 ?_
    refine ro_istore_n (L' := [(3, .int q8.1), (0, .ref (ro_ad (kG K) o0)), (1, .ref (ro_ad (kG K) 60)), (2, .int v2)]) hK dX5_readNote_64 rfl (by decide) rfl ?_
    refine ro_aload_n hK 2 rfl dX5_readNote_65 rfl ?_
    refine ro_bipush (v := 120) hK dX5_readNote_66 (by decide) ?_
    obtain ⟨q10, e11, hf⟩ := ro_bd hf
    refine ro_callvv hK [.int 120] ml_X5_70 mv_X8_pass (mt_X8_pass (kl K) (kG K)  e11) sh_60 ⟨_, rfl, rfl⟩ (by decide) rfl rfl (Nat.le_of_ble_eq_true rfl) dX5_readNote_68 ?_
    refine ro_aload_n hK 2 rfl dX5_readNote_71 rfl ?_
    obtain ⟨q12, e13, hf⟩ := ro_bd hf
    refine ro_callvi hK [] ml_X5_74 mv_X8_peekDigit (mt_X8_peekDigit (kl K) (kG K)  e13) sh_60 ⟨_, rfl, rfl⟩ (by decide) rfl rfl (Nat.le_of_ble_eq_true rfl) dX5_readNote_72 ?_
    refine ro_istore (L' := [(4, .int q12), (3, .int q8.1), (0, .ref (ro_ad (kG K) o0)), (1, .ref (ro_ad (kG K) 60)), (2, .int v2)]) hK dX5_readNote_75 (by decide) rfl ?_
    refine ro_iload hK 0 rfl dX5_readNote_77 ?_
    refine ro_iconst (v := 1) hK dX5_readNote_79 (by decide) ?_
    refine ro_icmp_ge hK 92 dX5_readNote_80 (by decide) (fun c14 => ?_) (fun c14 => ?_)
    · have hf := ro_it hf c14
      refine ro_sub (L' := [(0, .ref (ro_ad (kG K) o0)), (1, .ref (ro_ad (kG K) 60)), (2, .int v2), (3, .int q8.1), (4, .int q12)]) [2, 3, 4, 1, 0] rfl ?_
      exact bj_X5_readNote_92 hK hR h0 hf hq
    · have hf := ro_ie hf c14
      refine ro_aload_n hK 3 rfl dX5_readNote_83 rfl ?_
      refine ro_iconst (v := 1) hK dX5_readNote_84 (by decide) ?_
      refine ro_aload_n hK 3 rfl dX5_readNote_85 rfl ?_
      refine ro_geti hK fl_X5_59 sh_60 dX5_readNote_86 ?_
      obtain ⟨q35, e36, hf⟩ := ro_bd hf
      refine ro_callvv hK [.int 1, .int (q10 60 2)] ml_X5_62 mv_X8_fail (mt_X8_fail (kl K) (kG K)  e36) sh_60 ⟨_, rfl, rfl⟩ (by decide) rfl rfl (Nat.le_of_ble_eq_true rfl) dX5_readNote_89 ?_
      refine ro_sub (L' := [(0, .ref (ro_ad (kG K) o0)), (1, .ref (ro_ad (kG K) 60)), (2, .int v2), (3, .int q8.1), (4, .int q12)]) [2, 3, 4, 1, 0] rfl ?_
      exact bj_X5_readNote_92 hK hR h0 hf hq
  · have hf := ro_ie hf c5
    obtain rfl := Option.some.inj hf
    exact ro_vret hK hR dX5_readNote_48 hq
def fn_X5_readNote (o0 : Nat) (μ : ro_Mem) : Option ro_Mem :=
  (fn_X8_peekAmong 0 μ).bind fun q1 =>
  if 0 ≤ q1 then
  (if (μ o0 5) < 32 then
  (fj_X5_readNote_41 o0 q1 μ)
  else
  ((fn_X8_fail 4 (μ 60 2) μ).bind fun q37 =>
  fj_X5_readNote_41 o0 q1 q37))
  else
  ((fn_X8_fail 1 (μ 60 2) μ).bind fun q39 =>
  fj_X5_readNote_41 o0 q1 q39)
theorem be_X5_readNote {K : ro_K} (hK : ro_C K RX5 cX5_readNote 5 5) (hR : ro_R K none) {o0 : Nat} (h0 : ro_sh o0 = (0, 5)) {μ : ro_Mem} {out : ro_Mem} (hf : fn_X5_readNote o0 μ = some out) (hq : kQ K none out) : ro_X K 0 [(0, .ref (ro_ad (kG K) o0)), (1, .ref (ro_ad (kG K) 60))] [] μ := by
  unfold fn_X5_readNote at hf
  refine ro_aload_n hK 1 rfl dX5_readNote_0 rfl ?_
  refine ro_ldcs hK hK.2.2.2.2.2.2.2.1.1 dX5_readNote_1 ?_
  obtain ⟨q1, e2, hf⟩ := ro_bd hf
  refine ro_callvi hK [.ref (ro_aK (kG K) 0)] ml_X5_55 mv_X8_peekAmong (mt_X8_peekAmong (kl K) (kG K) (by decide) e2) sh_60 ⟨_, rfl, rfl⟩ (by decide) rfl rfl (Nat.le_of_ble_eq_true rfl) dX5_readNote_3 ?_
  refine ro_istore_n (L' := [(2, .int q1), (0, .ref (ro_ad (kG K) o0)), (1, .ref (ro_ad (kG K) 60))]) hK dX5_readNote_6 rfl (by decide) rfl ?_
  refine ro_iload_n hK 0 rfl dX5_readNote_7 rfl ?_
  refine ro_if_ge hK 23 dX5_readNote_8 (by decide) (fun c3 => ?_) (fun c3 => ?_)
  · have hf := ro_it hf c3
    refine ro_aload_n hK 1 rfl dX5_readNote_23 rfl ?_
    refine ro_geti hK fl_X5_27 h0 dX5_readNote_24 ?_
    refine ro_bipush (v := 32) hK dX5_readNote_27 (by decide) ?_
    refine ro_icmp_lt hK 41 dX5_readNote_29 (by decide) (fun c4 => ?_) (fun c4 => ?_)
    · have hf := ro_it hf c4
      refine ro_sub (L' := [(0, .ref (ro_ad (kG K) o0)), (1, .ref (ro_ad (kG K) 60)), (2, .int q1)]) [1, 2, 0] rfl ?_
      exact bj_X5_readNote_41 hK hR h0 hf hq
    · have hf := ro_ie hf c4
      refine ro_aload_n hK 2 rfl dX5_readNote_32 rfl ?_
      refine ro_iconst (v := 4) hK dX5_readNote_33 (by decide) ?_
      refine ro_aload_n hK 2 rfl dX5_readNote_34 rfl ?_
      refine ro_geti hK fl_X5_59 sh_60 dX5_readNote_35 ?_
      obtain ⟨q37, e38, hf⟩ := ro_bd hf
      refine ro_callvv hK [.int 4, .int (μ 60 2)] ml_X5_62 mv_X8_fail (mt_X8_fail (kl K) (kG K)  e38) sh_60 ⟨_, rfl, rfl⟩ (by decide) rfl rfl (Nat.le_of_ble_eq_true rfl) dX5_readNote_38 ?_
      refine ro_sub (L' := [(0, .ref (ro_ad (kG K) o0)), (1, .ref (ro_ad (kG K) 60)), (2, .int q1)]) [1, 2, 0] rfl ?_
      exact bj_X5_readNote_41 hK hR h0 hf hq
  · have hf := ro_ie hf c3
    refine ro_aload_n hK 2 rfl dX5_readNote_11 rfl ?_
    refine ro_iconst (v := 1) hK dX5_readNote_12 (by decide) ?_
    refine ro_aload_n hK 2 rfl dX5_readNote_13 rfl ?_
    refine ro_geti hK fl_X5_59 sh_60 dX5_readNote_14 ?_
    obtain ⟨q39, e40, hf⟩ := ro_bd hf
    refine ro_callvv hK [.int 1, .int (μ 60 2)] ml_X5_62 mv_X8_fail (mt_X8_fail (kl K) (kG K)  e40) sh_60 ⟨_, rfl, rfl⟩ (by decide) rfl rfl (Nat.le_of_ble_eq_true rfl) dX5_readNote_17 ?_
    refine ro_goto hK 41 dX5_readNote_20 (by decide) ?_
    refine ro_sub (L' := [(0, .ref (ro_ad (kG K) o0)), (1, .ref (ro_ad (kG K) 60)), (2, .int q1)]) [1, 2, 0] rfl ?_
    exact bj_X5_readNote_41 hK hR h0 hf hq
theorem mt_X5_readNote (l : Launch) (G : ro_G) {o0 : Nat} (h0 : ro_sh o0 = (0, 5)) {μ : ro_Mem} {out : ro_Mem} (hf : fn_X5_readNote o0 μ = some out) : ro_MX l G yX5_readNote cX5_readNote 5 none 5 [.ref (ro_ad G o0), .ref (ro_ad G 60)] μ none out := by
  refine ro_MX.of (by decide +kernel) (Nat.le_of_ble_eq_true rfl) (fun K hG hl hq hK hR => ?_)
  subst hG
  exact be_X5_readNote hK hR h0 hf hq
-- ===== X5_readMark =====
theorem dX5_readMark_0 : decode cX5_readMark 0 = .ok (.aload_n 1, 1) := by decide +kernel
theorem dX5_readMark_1 : decode cX5_readMark 1 = .ok (.invokevirtual 46, 3) := by decide +kernel
theorem dX5_readMark_4 : decode cX5_readMark 4 = .ok (.istore_n 2, 1) := by decide +kernel
theorem dX5_readMark_5 : decode cX5_readMark 5 = .ok (.iload_n 2, 1) := by decide +kernel
theorem dX5_readMark_6 : decode cX5_readMark 6 = .ok (.bipush 124, 2) := by decide +kernel
theorem dX5_readMark_8 : decode cX5_readMark 8 = .ok (.if_icmp .eq 9, 3) := by decide +kernel
theorem dX5_readMark_11 : decode cX5_readMark 11 = .ok (.iload_n 2, 1) := by decide +kernel
theorem dX5_readMark_12 : decode cX5_readMark 12 = .ok (.bipush 47, 2) := by decide +kernel
theorem dX5_readMark_14 : decode cX5_readMark 14 = .ok (.if_icmp .ne 69, 3) := by decide +kernel
theorem dX5_readMark_17 : decode cX5_readMark 17 = .ok (.aload_n 0, 1) := by decide +kernel
theorem dX5_readMark_18 : decode cX5_readMark 18 = .ok (.getfield 31, 3) := by decide +kernel
theorem dX5_readMark_21 : decode cX5_readMark 21 = .ok (.bipush 12, 2) := by decide +kernel
theorem dX5_readMark_23 : decode cX5_readMark 23 = .ok (.if_icmp .ge 17, 3) := by decide +kernel
theorem dX5_readMark_26 : decode cX5_readMark 26 = .ok (.iload_n 2, 1) := by decide +kernel
theorem dX5_readMark_27 : decode cX5_readMark 27 = .ok (.bipush 47, 2) := by decide +kernel
theorem dX5_readMark_29 : decode cX5_readMark 29 = .ok (.if_icmp .ne 21, 3) := by decide +kernel
theorem dX5_readMark_32 : decode cX5_readMark 32 = .ok (.aload_n 0, 1) := by decide +kernel
theorem dX5_readMark_33 : decode cX5_readMark 33 = .ok (.getfield 34, 3) := by decide +kernel
theorem dX5_readMark_36 : decode cX5_readMark 36 = .ok (.iconst 4, 1) := by decide +kernel
theorem dX5_readMark_37 : decode cX5_readMark 37 = .ok (.if_icmp .lt 13, 3) := by decide +kernel
theorem dX5_readMark_40 : decode cX5_readMark 40 = .ok (.aload_n 1, 1) := by decide +kernel
theorem dX5_readMark_41 : decode cX5_readMark 41 = .ok (.bipush 6, 2) := by decide +kernel
theorem dX5_readMark_43 : decode cX5_readMark 43 = .ok (.aload_n 1, 1) := by decide +kernel
theorem dX5_readMark_44 : decode cX5_readMark 44 = .ok (.getfield 59, 3) := by decide +kernel
theorem dX5_readMark_47 : decode cX5_readMark 47 = .ok (.invokevirtual 62, 3) := by decide +kernel
theorem dX5_readMark_50 : decode cX5_readMark 50 = .ok (.aload_n 0, 1) := by decide +kernel
theorem dX5_readMark_51 : decode cX5_readMark 51 = .ok (.dup, 1) := by decide +kernel
theorem dX5_readMark_52 : decode cX5_readMark 52 = .ok (.getfield 31, 3) := by decide +kernel
theorem dX5_readMark_55 : decode cX5_readMark 55 = .ok (.iconst 1, 1) := by decide +kernel
theorem dX5_readMark_56 : decode cX5_readMark 56 = .ok (.iadd, 1) := by decide +kernel
theorem dX5_readMark_57 : decode cX5_readMark 57 = .ok (.putfield 31, 3) := by decide +kernel
theorem dX5_readMark_60 : decode cX5_readMark 60 = .ok (.aload_n 0, 1) := by decide +kernel
theorem dX5_readMark_61 : decode cX5_readMark 61 = .ok (.dup, 1) := by decide +kernel
theorem dX5_readMark_62 : decode cX5_readMark 62 = .ok (.getfield 34, 3) := by decide +kernel
theorem dX5_readMark_65 : decode cX5_readMark 65 = .ok (.iload_n 2, 1) := by decide +kernel
theorem dX5_readMark_66 : decode cX5_readMark 66 = .ok (.bipush 47, 2) := by decide +kernel
theorem dX5_readMark_68 : decode cX5_readMark 68 = .ok (.if_icmp .ne 7, 3) := by decide +kernel
theorem dX5_readMark_71 : decode cX5_readMark 71 = .ok (.iconst 1, 1) := by decide +kernel
theorem dX5_readMark_72 : decode cX5_readMark 72 = .ok (.goto 4, 3) := by decide +kernel
theorem dX5_readMark_75 : decode cX5_readMark 75 = .ok (.iconst 0, 1) := by decide +kernel
theorem dX5_readMark_76 : decode cX5_readMark 76 = .ok (.iadd, 1) := by decide +kernel
theorem dX5_readMark_77 : decode cX5_readMark 77 = .ok (.putfield 34, 3) := by decide +kernel
theorem dX5_readMark_80 : decode cX5_readMark 80 = .ok (.goto 18, 3) := by decide +kernel
theorem dX5_readMark_83 : decode cX5_readMark 83 = .ok (.iload_n 2, 1) := by decide +kernel
theorem dX5_readMark_84 : decode cX5_readMark 84 = .ok (.bipush 44, 2) := by decide +kernel
theorem dX5_readMark_86 : decode cX5_readMark 86 = .ok (.if_icmp .eq 12, 3) := by decide +kernel
theorem dX5_readMark_89 : decode cX5_readMark 89 = .ok (.aload_n 1, 1) := by decide +kernel
theorem dX5_readMark_90 : decode cX5_readMark 90 = .ok (.iconst 1, 1) := by decide +kernel
theorem dX5_readMark_91 : decode cX5_readMark 91 = .ok (.aload_n 1, 1) := by decide +kernel
theorem dX5_readMark_92 : decode cX5_readMark 92 = .ok (.getfield 59, 3) := by decide +kernel
theorem dX5_readMark_95 : decode cX5_readMark 95 = .ok (.invokevirtual 62, 3) := by decide +kernel
theorem dX5_readMark_98 : decode cX5_readMark 98 = .ok (.aload_n 1, 1) := by decide +kernel
theorem dX5_readMark_99 : decode cX5_readMark 99 = .ok (.dup, 1) := by decide +kernel
theorem dX5_readMark_100 : decode cX5_readMark 100 = .ok (.getfield 59, 3) := by decide +kernel
theorem dX5_readMark_103 : decode cX5_readMark 103 = .ok (.iconst 1, 1) := by decide +kernel
theorem dX5_readMark_104 : decode cX5_readMark 104 = .ok (.iadd, 1) := by decide +kernel
theorem dX5_readMark_105 : decode cX5_readMark 105 = .ok (.putfield 59, 3) := by decide +kernel
theorem dX5_readMark_108 : decode cX5_readMark 108 = .ok (.return_, 1) := by decide +kernel
def fj_X5_readMark_98 (μ : ro_Mem) : Option ro_Mem :=
  ro_lt (ro_set μ 60 2 ((μ 60 2) + 1)) fun m12 =>
  some m12
theorem bj_X5_readMark_98 {K : ro_K} (hK : ro_C K RX5 cX5_readMark 3 1) (hR : ro_R K none)    {μ : ro_Mem}  {out : ro_Mem} (hf : fj_X5_readMark_98 μ = some out) (hq : kQ K none out) : ro_X K 98 [(1, .ref (ro_ad (kG K) 60))] [] μ := by
  unfold fj_X5_readMark_98 at hf
  refine ro_aload_n hK 0 rfl dX5_readMark_98 rfl ?_
  refine ro_dup hK dX5_readMark_99 rfl ?_
  refine ro_geti hK fl_X5_59 sh_60 dX5_readMark_100 ?_
  refine ro_iconst (v := 1) hK dX5_readMark_103 (by decide) ?_
  refine ro_iadd hK dX5_readMark_104 ?_
  obtain ⟨m12, e13, hf⟩ := ro_ld hf
  refine ro_puti hK fl_X5_59 sh_60 rfl rfl dX5_readMark_105 ?_
  refine ro_mv e13 ?_
  obtain rfl := Option.some.inj hf
  exact ro_vret hK hR dX5_readMark_108 hq
def fj_X5_readMark_76 (w0 : Nat) (t1 : Int32) (t2 : Int32) (μ : ro_Mem) : Option ro_Mem :=
  ro_lt (ro_set μ w0 7 (t1 + t2)) fun m10 =>
  fj_X5_readMark_98 m10
theorem bj_X5_readMark_76 {K : ro_K} (hK : ro_C K RX5 cX5_readMark 3 1) (hR : ro_R K none) {w0 : Nat} {t1 : Int32} {t2 : Int32} (k0 : ro_sh w0 = (0, 5))  {μ : ro_Mem}  {out : ro_Mem} (hf : fj_X5_readMark_76 w0 t1 t2 μ = some out) (hq : kQ K none out) : ro_X K 76 [(1, .ref (ro_ad (kG K) 60))] [.int t2, .int t1, .ref (ro_ad (kG K) w0)] μ := by
  unfold fj_X5_readMark_76 at hf
  refine ro_iadd hK dX5_readMark_76 ?_
  obtain ⟨m10, e11, hf⟩ := ro_ld hf
  refine ro_puti hK fl_X5_34 k0 rfl rfl dX5_readMark_77 ?_
  refine ro_mv e11 ?_
  refine ro_goto hK 98 dX5_readMark_80 (by decide) ?_
  exact bj_X5_readMark_98 hK hR  hf hq
def fj_X5_readMark_50 (o0 : Nat) (v2 : Int32) (μ : ro_Mem) : Option ro_Mem :=
  ro_lt (ro_set μ o0 6 ((μ o0 6) + 1)) fun m7 =>
  if v2 = 47 then
  (fj_X5_readMark_76 o0 (m7 o0 7) 1 m7)
  else
  (fj_X5_readMark_76 o0 (m7 o0 7) 0 m7)
theorem bj_X5_readMark_50 {K : ro_K} (hK : ro_C K RX5 cX5_readMark 3 1) (hR : ro_R K none) {o0 : Nat} {v2 : Int32} (h0 : ro_sh o0 = (0, 5))  {μ : ro_Mem}  {out : ro_Mem} (hf : fj_X5_readMark_50 o0 v2 μ = some out) (hq : kQ K none out) : ro_X K 50 [(0, .ref (ro_ad (kG K) o0)), (1, .ref (ro_ad (kG K) 60)), (2, .int v2)] [] μ := by
  unfold fj_X5_readMark_50 at hf
  refine ro_aload_n hK 0 rfl dX5_readMark_50 rfl ?_
  refine ro_dup hK dX5_readMark_51 rfl ?_
  refine ro_geti hK fl_X5_31 h0 dX5_readMark_52 ?_
  refine ro_iconst (v := 1) hK dX5_readMark_55 (by decide) ?_
  refine ro_iadd hK dX5_readMark_56 ?_
  obtain ⟨m7, e8, hf⟩ := ro_ld hf
  refine ro_puti hK fl_X5_31 h0 rfl rfl dX5_readMark_57 ?_
  refine ro_mv e8 ?_
  refine ro_aload_n hK 0 rfl dX5_readMark_60 rfl ?_
  refine ro_dup hK dX5_readMark_61 rfl ?_
  refine ro_geti hK fl_X5_34 h0 dX5_readMark_62 ?_
  refine ro_iload_n hK 2 rfl dX5_readMark_65 rfl ?_
  refine ro_bipush (v := 47) hK dX5_readMark_66 (by decide) ?_
  refine ro_icmp_ne hK 75 dX5_readMark_68 (by decide) (fun c9 => ?_) (fun c9 => ?_)
  · have hf := ro_ie hf c9
    refine ro_iconst (v := 0) hK dX5_readMark_75 (by decide) ?_
    refine ro_sub (L' := [(1, .ref (ro_ad (kG K) 60))]) [1] rfl ?_
    exact bj_X5_readMark_76 hK hR h0 hf hq
  · have hf := ro_it hf c9
    refine ro_iconst (v := 1) hK dX5_readMark_71 (by decide) ?_
    refine ro_goto hK 76 dX5_readMark_72 (by decide) ?_
    refine ro_sub (L' := [(1, .ref (ro_ad (kG K) 60))]) [1] rfl ?_
    exact bj_X5_readMark_76 hK hR h0 hf hq
def fj_X5_readMark_40 (o0 : Nat) (v2 : Int32) (μ : ro_Mem) : Option ro_Mem :=
  (fn_X8_fail 6 (μ 60 2) μ).bind fun q5 =>
  fj_X5_readMark_50 o0 v2 q5
theorem bj_X5_readMark_40 {K : ro_K} (hK : ro_C K RX5 cX5_readMark 3 1) (hR : ro_R K none) {o0 : Nat} {v2 : Int32} (h0 : ro_sh o0 = (0, 5))  {μ : ro_Mem}  {out : ro_Mem} (hf : fj_X5_readMark_40 o0 v2 μ = some out) (hq : kQ K none out) : ro_X K 40 [(0, .ref (ro_ad (kG K) o0)), (1, .ref (ro_ad (kG K) 60)), (2, .int v2)] [] μ := by
  unfold fj_X5_readMark_40 at hf
  refine ro_aload_n hK 1 rfl dX5_readMark_40 rfl ?_
  refine ro_bipush (v := 6) hK dX5_readMark_41 (by decide) ?_
  refine ro_aload_n hK 1 rfl dX5_readMark_43 rfl ?_
  refine ro_geti hK fl_X5_59 sh_60 dX5_readMark_44 ?_
  obtain ⟨q5, e6, hf⟩ := ro_bd hf
  refine ro_callvv hK [.int 6, .int (μ 60 2)] ml_X5_62 mv_X8_fail (mt_X8_fail (kl K) (kG K)  e6) sh_60 ⟨_, rfl, rfl⟩ (by decide) rfl rfl (Nat.le_of_ble_eq_true rfl) dX5_readMark_47 ?_
  exact bj_X5_readMark_50 hK hR h0 hf hq
def fj_X5_readMark_17 (o0 : Nat) (v2 : Int32) (μ : ro_Mem) : Option ro_Mem :=
  if 12 ≤ (μ o0 6) then
  (fj_X5_readMark_40 o0 v2 μ)
  else
  (if v2 = 47 then
  (if (μ o0 7) < 4 then
  (fj_X5_readMark_50 o0 v2 μ)
  else
  (fj_X5_readMark_40 o0 v2 μ))
  else
  (fj_X5_readMark_50 o0 v2 μ))
theorem bj_X5_readMark_17 {K : ro_K} (hK : ro_C K RX5 cX5_readMark 3 1) (hR : ro_R K none) {o0 : Nat} {v2 : Int32} (h0 : ro_sh o0 = (0, 5))  {μ : ro_Mem}  {out : ro_Mem} (hf : fj_X5_readMark_17 o0 v2 μ = some out) (hq : kQ K none out) : ro_X K 17 [(0, .ref (ro_ad (kG K) o0)), (1, .ref (ro_ad (kG K) 60)), (2, .int v2)] [] μ := by
  unfold fj_X5_readMark_17 at hf
  refine ro_aload_n hK 0 rfl dX5_readMark_17 rfl ?_
  refine ro_geti hK fl_X5_31 h0 dX5_readMark_18 ?_
  refine ro_bipush (v := 12) hK dX5_readMark_21 (by decide) ?_
  refine ro_icmp_ge hK 40 dX5_readMark_23 (by decide) (fun c4 => ?_) (fun c4 => ?_)
  · have hf := ro_it hf c4
    exact bj_X5_readMark_40 hK hR h0 hf hq
  · have hf := ro_ie hf c4
    refine ro_iload_n hK 2 rfl dX5_readMark_26 rfl ?_
    refine ro_bipush (v := 47) hK dX5_readMark_27 (by decide) ?_
    refine ro_icmp_ne hK 50 dX5_readMark_29 (by decide) (fun c14 => ?_) (fun c14 => ?_)
    · have hf := ro_ie hf c14
      exact bj_X5_readMark_50 hK hR h0 hf hq
    · have hf := ro_it hf c14
      refine ro_aload_n hK 0 rfl dX5_readMark_32 rfl ?_
      refine ro_geti hK fl_X5_34 h0 dX5_readMark_33 ?_
      refine ro_iconst (v := 4) hK dX5_readMark_36 (by decide) ?_
      refine ro_icmp_lt hK 50 dX5_readMark_37 (by decide) (fun c15 => ?_) (fun c15 => ?_)
      · have hf := ro_it hf c15
        exact bj_X5_readMark_50 hK hR h0 hf hq
      · have hf := ro_ie hf c15
        exact bj_X5_readMark_40 hK hR h0 hf hq
def fn_X5_readMark (o0 : Nat) (μ : ro_Mem) : Option ro_Mem :=
  (fn_X8_peek μ).bind fun q1 =>
  if q1 = 124 then
  (fj_X5_readMark_17 o0 q1 μ)
  else
  (if q1 = 47 then
  (fj_X5_readMark_17 o0 q1 μ)
  else
  (if q1 = 44 then
  (fj_X5_readMark_98 μ)
  else
  ((fn_X8_fail 1 (μ 60 2) μ).bind fun q18 =>
  fj_X5_readMark_98 q18)))
theorem be_X5_readMark {K : ro_K} (hK : ro_C K RX5 cX5_readMark 3 1) (hR : ro_R K none) {o0 : Nat} (h0 : ro_sh o0 = (0, 5)) {μ : ro_Mem} {out : ro_Mem} (hf : fn_X5_readMark o0 μ = some out) (hq : kQ K none out) : ro_X K 0 [(0, .ref (ro_ad (kG K) o0)), (1, .ref (ro_ad (kG K) 60))] [] μ := by
  unfold fn_X5_readMark at hf
  refine ro_aload_n hK 1 rfl dX5_readMark_0 rfl ?_
  obtain ⟨q1, e2, hf⟩ := ro_bd hf
  refine ro_callvi hK [] ml_X5_46 mv_X8_peek (mt_X8_peek (kl K) (kG K)  e2) sh_60 ⟨_, rfl, rfl⟩ (by decide) rfl rfl (Nat.le_of_ble_eq_true rfl) dX5_readMark_1 ?_
  refine ro_istore_n (L' := [(2, .int q1), (0, .ref (ro_ad (kG K) o0)), (1, .ref (ro_ad (kG K) 60))]) hK dX5_readMark_4 rfl (by decide) rfl ?_
  refine ro_iload_n hK 0 rfl dX5_readMark_5 rfl ?_
  refine ro_bipush (v := 124) hK dX5_readMark_6 (by decide) ?_
  refine ro_icmp_eq hK 17 dX5_readMark_8 (by decide) (fun c3 => ?_) (fun c3 => ?_)
  · have hf := ro_it hf c3
    refine ro_sub (L' := [(0, .ref (ro_ad (kG K) o0)), (1, .ref (ro_ad (kG K) 60)), (2, .int q1)]) [1, 2, 0] rfl ?_
    exact bj_X5_readMark_17 hK hR h0 hf hq
  · have hf := ro_ie hf c3
    refine ro_iload_n hK 0 rfl dX5_readMark_11 rfl ?_
    refine ro_bipush (v := 47) hK dX5_readMark_12 (by decide) ?_
    refine ro_icmp_ne hK 83 dX5_readMark_14 (by decide) (fun c16 => ?_) (fun c16 => ?_)
    · have hf := ro_ie hf c16
      refine ro_iload_n hK 0 rfl dX5_readMark_83 rfl ?_
      refine ro_bipush (v := 44) hK dX5_readMark_84 (by decide) ?_
      refine ro_icmp_eq hK 98 dX5_readMark_86 (by decide) (fun c17 => ?_) (fun c17 => ?_)
      · have hf := ro_it hf c17
        refine ro_sub (L' := [(1, .ref (ro_ad (kG K) 60))]) [2] rfl ?_
        exact bj_X5_readMark_98 hK hR  hf hq
      · have hf := ro_ie hf c17
        refine ro_aload_n hK 2 rfl dX5_readMark_89 rfl ?_
        refine ro_iconst (v := 1) hK dX5_readMark_90 (by decide) ?_
        refine ro_aload_n hK 2 rfl dX5_readMark_91 rfl ?_
        refine ro_geti hK fl_X5_59 sh_60 dX5_readMark_92 ?_
        obtain ⟨q18, e19, hf⟩ := ro_bd hf
        refine ro_callvv hK [.int 1, .int (μ 60 2)] ml_X5_62 mv_X8_fail (mt_X8_fail (kl K) (kG K)  e19) sh_60 ⟨_, rfl, rfl⟩ (by decide) rfl rfl (Nat.le_of_ble_eq_true rfl) dX5_readMark_95 ?_
        refine ro_sub (L' := [(1, .ref (ro_ad (kG K) 60))]) [2] rfl ?_
        exact bj_X5_readMark_98 hK hR  hf hq
    · have hf := ro_it hf c16
      refine ro_sub (L' := [(0, .ref (ro_ad (kG K) o0)), (1, .ref (ro_ad (kG K) 60)), (2, .int q1)]) [1, 2, 0] rfl ?_
      exact bj_X5_readMark_17 hK hR h0 hf hq
theorem mt_X5_readMark (l : Launch) (G : ro_G) {o0 : Nat} (h0 : ro_sh o0 = (0, 5)) {μ : ro_Mem} {out : ro_Mem} (hf : fn_X5_readMark o0 μ = some out) : ro_MX l G yX5_readMark cX5_readMark 3 none 1 [.ref (ro_ad G o0), .ref (ro_ad G 60)] μ none out := by
  refine ro_MX.of (by decide +kernel) (Nat.le_of_ble_eq_true rfl) (fun K hG hl hq hK hR => ?_)
  subst hG
  exact be_X5_readMark hK hR h0 hf hq
-- ===== X5_readFrom =====
theorem dX5_readFrom_0 : decode cX5_readFrom 0 = .ok (.aload_n 0, 1) := by decide +kernel
theorem dX5_readFrom_1 : decode cX5_readFrom 1 = .ok (.iconst 0, 1) := by decide +kernel
theorem dX5_readFrom_2 : decode cX5_readFrom 2 = .ok (.putfield 27, 3) := by decide +kernel
theorem dX5_readFrom_5 : decode cX5_readFrom 5 = .ok (.aload_n 0, 1) := by decide +kernel
theorem dX5_readFrom_6 : decode cX5_readFrom 6 = .ok (.iconst 1, 1) := by decide +kernel
theorem dX5_readFrom_7 : decode cX5_readFrom 7 = .ok (.putfield 31, 3) := by decide +kernel
theorem dX5_readFrom_10 : decode cX5_readFrom 10 = .ok (.aload_n 0, 1) := by decide +kernel
theorem dX5_readFrom_11 : decode cX5_readFrom 11 = .ok (.iconst 1, 1) := by decide +kernel
theorem dX5_readFrom_12 : decode cX5_readFrom 12 = .ok (.putfield 34, 3) := by decide +kernel
theorem dX5_readFrom_15 : decode cX5_readFrom 15 = .ok (.iconst 0, 1) := by decide +kernel
theorem dX5_readFrom_16 : decode cX5_readFrom 16 = .ok (.istore_n 2, 1) := by decide +kernel
theorem dX5_readFrom_17 : decode cX5_readFrom 17 = .ok (.iload_n 2, 1) := by decide +kernel
theorem dX5_readFrom_18 : decode cX5_readFrom 18 = .ok (.bipush 32, 2) := by decide +kernel
theorem dX5_readFrom_20 : decode cX5_readFrom 20 = .ok (.if_icmp .gt 46, 3) := by decide +kernel
theorem dX5_readFrom_23 : decode cX5_readFrom 23 = .ok (.aload_n 1, 1) := by decide +kernel
theorem dX5_readFrom_24 : decode cX5_readFrom 24 = .ok (.getfield 37, 3) := by decide +kernel
theorem dX5_readFrom_27 : decode cX5_readFrom 27 = .ok (.ifCond .ne 39, 3) := by decide +kernel
theorem dX5_readFrom_30 : decode cX5_readFrom 30 = .ok (.aload_n 0, 1) := by decide +kernel
theorem dX5_readFrom_31 : decode cX5_readFrom 31 = .ok (.aload_n 1, 1) := by decide +kernel
theorem dX5_readFrom_32 : decode cX5_readFrom 32 = .ok (.invokevirtual 42, 3) := by decide +kernel
theorem dX5_readFrom_35 : decode cX5_readFrom 35 = .ok (.aload_n 1, 1) := by decide +kernel
theorem dX5_readFrom_36 : decode cX5_readFrom 36 = .ok (.getfield 37, 3) := by decide +kernel
theorem dX5_readFrom_39 : decode cX5_readFrom 39 = .ok (.ifCond .ne 16, 3) := by decide +kernel
theorem dX5_readFrom_42 : decode cX5_readFrom 42 = .ok (.aload_n 1, 1) := by decide +kernel
theorem dX5_readFrom_43 : decode cX5_readFrom 43 = .ok (.invokevirtual 46, 3) := by decide +kernel
theorem dX5_readFrom_46 : decode cX5_readFrom 46 = .ok (.iconst (-1), 1) := by decide +kernel
theorem dX5_readFrom_47 : decode cX5_readFrom 47 = .ok (.if_icmp .ne 8, 3) := by decide +kernel
theorem dX5_readFrom_50 : decode cX5_readFrom 50 = .ok (.aload_n 0, 1) := by decide +kernel
theorem dX5_readFrom_51 : decode cX5_readFrom 51 = .ok (.getfield 27, 3) := by decide +kernel
theorem dX5_readFrom_54 : decode cX5_readFrom 54 = .ok (.ireturn, 1) := by decide +kernel
theorem dX5_readFrom_55 : decode cX5_readFrom 55 = .ok (.aload_n 0, 1) := by decide +kernel
theorem dX5_readFrom_56 : decode cX5_readFrom 56 = .ok (.aload_n 1, 1) := by decide +kernel
theorem dX5_readFrom_57 : decode cX5_readFrom 57 = .ok (.invokevirtual 50, 3) := by decide +kernel
theorem dX5_readFrom_60 : decode cX5_readFrom 60 = .ok (.iinc 2 1, 3) := by decide +kernel
theorem dX5_readFrom_63 : decode cX5_readFrom 63 = .ok (.goto (-46), 3) := by decide +kernel
theorem dX5_readFrom_66 : decode cX5_readFrom 66 = .ok (.aload_n 1, 1) := by decide +kernel
theorem dX5_readFrom_67 : decode cX5_readFrom 67 = .ok (.getfield 37, 3) := by decide +kernel
theorem dX5_readFrom_70 : decode cX5_readFrom 70 = .ok (.ireturn, 1) := by decide +kernel
def ok_X5_readFrom_17 (K : ro_K) (o0 : Nat) : (ro_Mem ⊕ ro_Mem) → Prop := Sum.elim (fun e => ro_X K 50 [(0, .ref (ro_ad (kG K) o0))] [] e) (fun e => ro_X K 66 [(1, .ref (ro_ad (kG K) 60))] [] e)
def fj_X5_readFrom_55 (rec : (Int32 × ro_Mem) → Option (ro_Mem ⊕ ro_Mem)) (o0 : Nat) (v2 : Int32) (μ : ro_Mem) : Option (ro_Mem ⊕ ro_Mem) :=
  (fn_X5_readMark o0 μ).bind fun q12 =>
  rec (v2 + 1, q12)
theorem bj_X5_readFrom_55 {K : ro_K} (hK : ro_C K RX5 cX5_readFrom 3 6) (hR : ro_R K (some .int)) {o0 : Nat} {v2 : Int32} (h0 : ro_sh o0 = (0, 5)) {rec : (Int32 × ro_Mem) → Option (ro_Mem ⊕ ro_Mem)} {μ : ro_Mem} (hrec : ∀ (s : Int32 × ro_Mem) (q : (ro_Mem ⊕ ro_Mem)), rec s = some q → ok_X5_readFrom_17 K o0 q → ro_X K 17 [(0, .ref (ro_ad (kG K) o0)), (1, .ref (ro_ad (kG K) 60)), (2, .int s.1)] [] s.2) {out : (ro_Mem ⊕ ro_Mem)} (hf : fj_X5_readFrom_55 rec o0 v2 μ = some out) (hq : ok_X5_readFrom_17 K o0 out) : ro_X K 55 [(0, .ref (ro_ad (kG K) o0)), (1, .ref (ro_ad (kG K) 60)), (2, .int v2)] [] μ := by
  unfold fj_X5_readFrom_55 at hf
  refine ro_aload_n hK 0 rfl dX5_readFrom_55 rfl ?_
  refine ro_aload_n hK 1 rfl dX5_readFrom_56 rfl ?_
  obtain ⟨q12, e13, hf⟩ := ro_bd hf
  refine ro_callvv hK [.ref (ro_ad (kG K) 60)] ml_X5_50 mv_X5_readMark (mt_X5_readMark (kl K) (kG K) h0 e13) h0 ⟨_, rfl, rfl⟩ (by decide) rfl rfl (Nat.le_of_ble_eq_true rfl) dX5_readFrom_57 ?_
  refine ro_iinc (v := v2 + 1) (L' := [(2, .int (v2 + 1)), (0, .ref (ro_ad (kG K) o0)), (1, .ref (ro_ad (kG K) 60))]) hK 2 rfl dX5_readFrom_60 rfl (by decide) rfl ?_
  refine ro_goto hK 17 dX5_readFrom_63 (by decide) ?_
  refine ro_sub (L' := [(0, .ref (ro_ad (kG K) o0)), (1, .ref (ro_ad (kG K) 60)), (2, .int (v2 + 1))]) [1, 2, 0] rfl ?_
  exact hrec (v2 + 1, q12) _ hf hq
def fb_X5_readFrom_17 (o0 : Nat) (rec : (Int32 × ro_Mem) → Option (ro_Mem ⊕ ro_Mem)) (v2 : Int32) (μ : ro_Mem) : Option (ro_Mem ⊕ ro_Mem) :=
  if 32 < v2 then
  (some (.inr μ))
  else
  (if (μ 60 4) = 0 then
  ((fn_X5_readNote o0 μ).bind fun q9 =>
  if (q9 60 4) = 0 then
  ((fn_X8_peek q9).bind fun q14 =>
  if q14 = (-1) then
  (some (.inl q9))
  else
  (fj_X5_readFrom_55 rec o0 v2 q9))
  else
  (fj_X5_readFrom_55 rec o0 v2 q9))
  else
  (some (.inr μ)))
theorem bb_X5_readFrom_17 {K : ro_K} (hK : ro_C K RX5 cX5_readFrom 3 6) (hR : ro_R K (some .int)) {o0 : Nat} (h0 : ro_sh o0 = (0, 5)) {μ : ro_Mem} {rec : (Int32 × ro_Mem) → Option (ro_Mem ⊕ ro_Mem)} {v2 : Int32} {q : (ro_Mem ⊕ ro_Mem)} (hrec : ∀ (s : Int32 × ro_Mem) (q : (ro_Mem ⊕ ro_Mem)), rec s = some q → ok_X5_readFrom_17 K o0 q → ro_X K 17 [(0, .ref (ro_ad (kG K) o0)), (1, .ref (ro_ad (kG K) 60)), (2, .int s.1)] [] s.2) (hf : fb_X5_readFrom_17 o0 rec v2 μ = some q) (hq : ok_X5_readFrom_17 K o0 q) : ro_X K 17 [(0, .ref (ro_ad (kG K) o0)), (1, .ref (ro_ad (kG K) 60)), (2, .int v2)] [] μ := by
  unfold fb_X5_readFrom_17 at hf
  refine ro_iload_n hK 2 rfl dX5_readFrom_17 rfl ?_
  refine ro_bipush (v := 32) hK dX5_readFrom_18 (by decide) ?_
  refine ro_icmp_gt hK 66 dX5_readFrom_20 (by decide) (fun c7 => ?_) (fun c7 => ?_)
  · have hf := ro_it hf c7
    refine ro_sub (L' := [(1, .ref (ro_ad (kG K) 60))]) [1] rfl ?_
    obtain rfl := Option.some.inj hf
    exact hq
  · have hf := ro_ie hf c7
    refine ro_aload_n hK 1 rfl dX5_readFrom_23 rfl ?_
    refine ro_geti hK fl_X5_37 sh_60 dX5_readFrom_24 ?_
    refine ro_if_ne hK 66 dX5_readFrom_27 (by decide) (fun c8 => ?_) (fun c8 => ?_)
    · have hf := ro_ie hf c8
      refine ro_sub (L' := [(1, .ref (ro_ad (kG K) 60))]) [1] rfl ?_
      obtain rfl := Option.some.inj hf
      exact hq
    · have hf := ro_it hf c8
      refine ro_aload_n hK 0 rfl dX5_readFrom_30 rfl ?_
      refine ro_aload_n hK 1 rfl dX5_readFrom_31 rfl ?_
      obtain ⟨q9, e10, hf⟩ := ro_bd hf
      refine ro_callvv hK [.ref (ro_ad (kG K) 60)] ml_X5_42 mv_X5_readNote (mt_X5_readNote (kl K) (kG K) h0 e10) h0 ⟨_, rfl, rfl⟩ (by decide) rfl rfl (Nat.le_of_ble_eq_true rfl) dX5_readFrom_32 ?_
      refine ro_aload_n hK 1 rfl dX5_readFrom_35 rfl ?_
      refine ro_geti hK fl_X5_37 sh_60 dX5_readFrom_36 ?_
      refine ro_if_ne hK 55 dX5_readFrom_39 (by decide) (fun c11 => ?_) (fun c11 => ?_)
      · have hf := ro_ie hf c11
        exact bj_X5_readFrom_55 hK hR h0 hrec hf hq
      · have hf := ro_it hf c11
        refine ro_aload_n hK 1 rfl dX5_readFrom_42 rfl ?_
        obtain ⟨q14, e15, hf⟩ := ro_bd hf
        refine ro_callvi hK [] ml_X5_46 mv_X8_peek (mt_X8_peek (kl K) (kG K)  e15) sh_60 ⟨_, rfl, rfl⟩ (by decide) rfl rfl (Nat.le_of_ble_eq_true rfl) dX5_readFrom_43 ?_
        refine ro_iconst (v := (-1)) hK dX5_readFrom_46 (by decide) ?_
        refine ro_icmp_ne hK 55 dX5_readFrom_47 (by decide) (fun c16 => ?_) (fun c16 => ?_)
        · have hf := ro_ie hf c16
          exact bj_X5_readFrom_55 hK hR h0 hrec hf hq
        · have hf := ro_it hf c16
          refine ro_sub (L' := [(0, .ref (ro_ad (kG K) o0))]) [0] rfl ?_
          obtain rfl := Option.some.inj hf
          exact hq
def fl_X5_readFrom_17 (o0 : Nat) : (Int32 × ro_Mem) → Option (ro_Mem ⊕ ro_Mem) :=
  ro_loop (fun rec s => fb_X5_readFrom_17 o0 rec s.1 s.2) ro_FU
theorem lp_X5_readFrom_17 {K : ro_K} (hK : ro_C K RX5 cX5_readFrom 3 6) (hR : ro_R K (some .int)) {o0 : Nat} (h0 : ro_sh o0 = (0, 5)) {s : Int32 × ro_Mem} {q : (ro_Mem ⊕ ro_Mem)} (hf : fl_X5_readFrom_17 o0 s = some q) (hq : ok_X5_readFrom_17 K o0 q) : ro_X K 17 [(0, .ref (ro_ad (kG K) o0)), (1, .ref (ro_ad (kG K) 60)), (2, .int s.1)] [] s.2 :=
  ro_loopX (b := fun rec s => fb_X5_readFrom_17 o0 rec s.1 s.2) (X := fun s => ro_X K 17 [(0, .ref (ro_ad (kG K) o0)), (1, .ref (ro_ad (kG K) 60)), (2, .int s.1)] [] s.2) (OK := ok_X5_readFrom_17 K o0) (fun rec s q hrec hb ho => bb_X5_readFrom_17 hK hR h0 hrec hb ho) ro_FU s q hf hq
def fn_X5_readFrom (o0 : Nat) (μ : ro_Mem) : Option (Int32 × ro_Mem) :=
  ro_lt (ro_set μ o0 5 0) fun m1 =>
  ro_lt (ro_set m1 o0 6 1) fun m3 =>
  ro_lt (ro_set m3 o0 7 1) fun m5 =>
  (fl_X5_readFrom_17 o0 (0, m5)).bind fun q17 =>
  q17.elim (fun e19 => some (e19 o0 5, e19)) (fun e20 => some (e20 60 4, e20))
theorem be_X5_readFrom {K : ro_K} (hK : ro_C K RX5 cX5_readFrom 3 6) (hR : ro_R K (some .int)) {o0 : Nat} (h0 : ro_sh o0 = (0, 5)) {μ : ro_Mem} {out : Int32 × ro_Mem} (hf : fn_X5_readFrom o0 μ = some out) (hq : kQ K (some (.int out.1)) out.2) : ro_X K 0 [(0, .ref (ro_ad (kG K) o0)), (1, .ref (ro_ad (kG K) 60))] [] μ := by
  unfold fn_X5_readFrom at hf
  refine ro_aload_n hK 0 rfl dX5_readFrom_0 rfl ?_
  refine ro_iconst (v := 0) hK dX5_readFrom_1 (by decide) ?_
  obtain ⟨m1, e2, hf⟩ := ro_ld hf
  refine ro_puti hK fl_X5_27 h0 rfl rfl dX5_readFrom_2 ?_
  refine ro_mv e2 ?_
  refine ro_aload_n hK 0 rfl dX5_readFrom_5 rfl ?_
  refine ro_iconst (v := 1) hK dX5_readFrom_6 (by decide) ?_
  obtain ⟨m3, e4, hf⟩ := ro_ld hf
  refine ro_puti hK fl_X5_31 h0 rfl rfl dX5_readFrom_7 ?_
  refine ro_mv e4 ?_
  refine ro_aload_n hK 0 rfl dX5_readFrom_10 rfl ?_
  refine ro_iconst (v := 1) hK dX5_readFrom_11 (by decide) ?_
  obtain ⟨m5, e6, hf⟩ := ro_ld hf
  refine ro_puti hK fl_X5_34 h0 rfl rfl dX5_readFrom_12 ?_
  refine ro_mv e6 ?_
  refine ro_iconst (v := 0) hK dX5_readFrom_15 (by decide) ?_
  refine ro_istore_n (L' := [(2, .int 0), (0, .ref (ro_ad (kG K) o0)), (1, .ref (ro_ad (kG K) 60))]) hK dX5_readFrom_16 rfl (by decide) rfl ?_
  obtain ⟨q17, e18, hf⟩ := ro_bd hf
  refine ro_sub (L' := [(0, .ref (ro_ad (kG K) o0)), (1, .ref (ro_ad (kG K) 60)), (2, .int 0)]) [1, 2, 0] rfl ?_
  refine lp_X5_readFrom_17 hK hR h0 e18 ?_
  rcases q17 with e19 | e20
  · have hf := ro_el hf
    show ro_X K 50 [(0, .ref (ro_ad (kG K) o0))] [] e19
    refine ro_aload_n hK 0 rfl dX5_readFrom_50 rfl ?_
    refine ro_geti hK fl_X5_27 h0 dX5_readFrom_51 ?_
    obtain rfl := Option.some.inj hf
    exact ro_iret hK hR dX5_readFrom_54 hq
  · have hf := ro_er hf
    show ro_X K 66 [(1, .ref (ro_ad (kG K) 60))] [] e20
    refine ro_aload_n hK 0 rfl dX5_readFrom_66 rfl ?_
    refine ro_geti hK fl_X5_37 sh_60 dX5_readFrom_67 ?_
    obtain rfl := Option.some.inj hf
    exact ro_iret hK hR dX5_readFrom_70 hq
theorem mt_X5_readFrom (l : Launch) (G : ro_G) {o0 : Nat} (h0 : ro_sh o0 = (0, 5)) {μ : ro_Mem} {out : Int32 × ro_Mem} (hf : fn_X5_readFrom o0 μ = some out) : ro_MX l G yX5_readFrom cX5_readFrom 3 (some .int) 6 [.ref (ro_ad G o0), .ref (ro_ad G 60)] μ (some (.int out.1)) out.2 := by
  refine ro_MX.of (by decide +kernel) (Nat.le_of_ble_eq_true rfl) (fun K hG hl hq hK hR => ?_)
  subst hG
  exact be_X5_readFrom hK hR h0 hf hq
-- ===== X5_canShift =====
theorem dX5_canShift_0 : decode cX5_canShift 0 = .ok (.iconst 0, 1) := by decide +kernel
theorem dX5_canShift_1 : decode cX5_canShift 1 = .ok (.istore_n 2, 1) := by decide +kernel
theorem dX5_canShift_2 : decode cX5_canShift 2 = .ok (.iload_n 2, 1) := by decide +kernel
theorem dX5_canShift_3 : decode cX5_canShift 3 = .ok (.aload_n 0, 1) := by decide +kernel
theorem dX5_canShift_4 : decode cX5_canShift 4 = .ok (.getfield 27, 3) := by decide +kernel
theorem dX5_canShift_7 : decode cX5_canShift 7 = .ok (.if_icmp .ge 35, 3) := by decide +kernel
theorem dX5_canShift_10 : decode cX5_canShift 10 = .ok (.aload_n 0, 1) := by decide +kernel
theorem dX5_canShift_11 : decode cX5_canShift 11 = .ok (.getfield 15, 3) := by decide +kernel
theorem dX5_canShift_14 : decode cX5_canShift 14 = .ok (.iload_n 2, 1) := by decide +kernel
theorem dX5_canShift_15 : decode cX5_canShift 15 = .ok (.iaload, 1) := by decide +kernel
theorem dX5_canShift_16 : decode cX5_canShift 16 = .ok (.iload_n 1, 1) := by decide +kernel
theorem dX5_canShift_17 : decode cX5_canShift 17 = .ok (.iadd, 1) := by decide +kernel
theorem dX5_canShift_18 : decode cX5_canShift 18 = .ok (.ifCond .lt 16, 3) := by decide +kernel
theorem dX5_canShift_21 : decode cX5_canShift 21 = .ok (.aload_n 0, 1) := by decide +kernel
theorem dX5_canShift_22 : decode cX5_canShift 22 = .ok (.getfield 15, 3) := by decide +kernel
theorem dX5_canShift_25 : decode cX5_canShift 25 = .ok (.iload_n 2, 1) := by decide +kernel
theorem dX5_canShift_26 : decode cX5_canShift 26 = .ok (.iaload, 1) := by decide +kernel
theorem dX5_canShift_27 : decode cX5_canShift 27 = .ok (.iload_n 1, 1) := by decide +kernel
theorem dX5_canShift_28 : decode cX5_canShift 28 = .ok (.iadd, 1) := by decide +kernel
theorem dX5_canShift_29 : decode cX5_canShift 29 = .ok (.bipush 48, 2) := by decide +kernel
theorem dX5_canShift_31 : decode cX5_canShift 31 = .ok (.if_icmp .lt 5, 3) := by decide +kernel
theorem dX5_canShift_34 : decode cX5_canShift 34 = .ok (.iconst 0, 1) := by decide +kernel
theorem dX5_canShift_35 : decode cX5_canShift 35 = .ok (.ireturn, 1) := by decide +kernel
theorem dX5_canShift_36 : decode cX5_canShift 36 = .ok (.iinc 2 1, 3) := by decide +kernel
theorem dX5_canShift_39 : decode cX5_canShift 39 = .ok (.goto (-37), 3) := by decide +kernel
theorem dX5_canShift_42 : decode cX5_canShift 42 = .ok (.iconst 1, 1) := by decide +kernel
theorem dX5_canShift_43 : decode cX5_canShift 43 = .ok (.ireturn, 1) := by decide +kernel
def ok_X5_canShift_2 (K : ro_K) (o0 : Nat) (v1 : Int32) (μ : ro_Mem) : (Unit ⊕ Unit) → Prop := Sum.elim (fun e => ro_X K 34 [] [] μ) (fun e => ro_X K 42 [] [] μ)
def fb_X5_canShift_2 (o0 : Nat) (v1 : Int32) (μ : ro_Mem) (rec : Int32 → Option (Unit ⊕ Unit)) (v2 : Int32) : Option (Unit ⊕ Unit) :=
  if (μ o0 5) ≤ v2 then
  (some (.inr ()))
  else
  (if ro_in v2 32 then
  (if ((μ (o0 + 2) v2.toNatClampNeg) + v1) < 0 then
  (some (.inl ()))
  else
  (if ((μ (o0 + 2) v2.toNatClampNeg) + v1) < 48 then
  (rec (v2 + 1))
  else
  (some (.inl ())))) else none)
theorem bb_X5_canShift_2 {K : ro_K} (hK : ro_C K RX5 cX5_canShift 3 0) (hR : ro_R K (some .boolean)) {o0 : Nat} {v1 : Int32} (h0 : ro_sh o0 = (0, 5)) {μ : ro_Mem} {rec : Int32 → Option (Unit ⊕ Unit)} {v2 : Int32} {q : (Unit ⊕ Unit)} (hrec : ∀ (s : Int32) (q : (Unit ⊕ Unit)), rec s = some q → ok_X5_canShift_2 K o0 v1 μ q → ro_X K 2 [(0, .ref (ro_ad (kG K) o0)), (1, .int v1), (2, .int s)] [] μ) (hf : fb_X5_canShift_2 o0 v1 μ rec v2 = some q) (hq : ok_X5_canShift_2 K o0 v1 μ q) : ro_X K 2 [(0, .ref (ro_ad (kG K) o0)), (1, .int v1), (2, .int v2)] [] μ := by
  unfold fb_X5_canShift_2 at hf
  refine ro_iload_n hK 2 rfl dX5_canShift_2 rfl ?_
  refine ro_aload_n hK 0 rfl dX5_canShift_3 rfl ?_
  refine ro_geti hK fl_X5_27 h0 dX5_canShift_4 ?_
  refine ro_icmp_ge hK 42 dX5_canShift_7 (by decide) (fun c1 => ?_) (fun c1 => ?_)
  · have hf := ro_it hf c1
    refine ro_sub (L' := []) [] rfl ?_
    obtain rfl := Option.some.inj hf
    exact hq
  · have hf := ro_ie hf c1
    refine ro_aload_n hK 0 rfl dX5_canShift_10 rfl ?_
    refine ro_getr hK fl_X5_15 h0 dX5_canShift_11 ?_
    refine ro_iload_n hK 2 rfl dX5_canShift_14 rfl ?_
    obtain ⟨g2, hf⟩ := ro_gd hf
    refine ro_iald hK (so_5_2 h0) g2 dX5_canShift_15 ?_
    refine ro_iload_n hK 1 rfl dX5_canShift_16 rfl ?_
    refine ro_iadd hK dX5_canShift_17 ?_
    refine ro_if_lt hK 34 dX5_canShift_18 (by decide) (fun c3 => ?_) (fun c3 => ?_)
    · have hf := ro_it hf c3
      refine ro_sub (L' := []) [] rfl ?_
      obtain rfl := Option.some.inj hf
      exact hq
    · have hf := ro_ie hf c3
      refine ro_aload_n hK 0 rfl dX5_canShift_21 rfl ?_
      refine ro_getr hK fl_X5_15 h0 dX5_canShift_22 ?_
      refine ro_iload_n hK 2 rfl dX5_canShift_25 rfl ?_
      refine ro_iald hK (so_5_2 h0) g2 dX5_canShift_26 ?_
      refine ro_iload_n hK 1 rfl dX5_canShift_27 rfl ?_
      refine ro_iadd hK dX5_canShift_28 ?_
      refine ro_bipush (v := 48) hK dX5_canShift_29 (by decide) ?_
      refine ro_icmp_lt hK 36 dX5_canShift_31 (by decide) (fun c4 => ?_) (fun c4 => ?_)
      · have hf := ro_it hf c4
        refine ro_iinc (v := v2 + 1) (L' := [(2, .int (v2 + 1)), (0, .ref (ro_ad (kG K) o0)), (1, .int v1)]) hK 2 rfl dX5_canShift_36 rfl (by decide) rfl ?_
        refine ro_goto hK 2 dX5_canShift_39 (by decide) ?_
        refine ro_sub (L' := [(0, .ref (ro_ad (kG K) o0)), (1, .int v1), (2, .int (v2 + 1))]) [1, 2, 0] rfl ?_
        exact hrec (v2 + 1) _ hf hq
      · have hf := ro_ie hf c4
        refine ro_sub (L' := []) [] rfl ?_
        obtain rfl := Option.some.inj hf
        exact hq
def fl_X5_canShift_2 (o0 : Nat) (v1 : Int32) (μ : ro_Mem) : Int32 → Option (Unit ⊕ Unit) :=
  ro_loop (fun rec s => fb_X5_canShift_2 o0 v1 μ rec s) ro_FU
theorem lp_X5_canShift_2 {K : ro_K} (hK : ro_C K RX5 cX5_canShift 3 0) (hR : ro_R K (some .boolean)) {o0 : Nat} {v1 : Int32} (h0 : ro_sh o0 = (0, 5)) {μ : ro_Mem} {s : Int32} {q : (Unit ⊕ Unit)} (hf : fl_X5_canShift_2 o0 v1 μ s = some q) (hq : ok_X5_canShift_2 K o0 v1 μ q) : ro_X K 2 [(0, .ref (ro_ad (kG K) o0)), (1, .int v1), (2, .int s)] [] μ :=
  ro_loopX (b := fun rec s => fb_X5_canShift_2 o0 v1 μ rec s) (X := fun s => ro_X K 2 [(0, .ref (ro_ad (kG K) o0)), (1, .int v1), (2, .int s)] [] μ) (OK := ok_X5_canShift_2 K o0 v1 μ) (fun rec s q hrec hb ho => bb_X5_canShift_2 hK hR h0 hrec hb ho) ro_FU s q hf hq
def fn_X5_canShift (o0 : Nat) (v1 : Int32) (μ : ro_Mem) : Option Int32 :=
  (fl_X5_canShift_2 o0 v1 μ 0).bind fun q5 =>
  q5.elim (fun e7 => some 0) (fun e8 => some 1)
theorem be_X5_canShift {K : ro_K} (hK : ro_C K RX5 cX5_canShift 3 0) (hR : ro_R K (some .boolean)) {o0 : Nat} {v1 : Int32} (h0 : ro_sh o0 = (0, 5)) {μ : ro_Mem} {out : Int32} (hf : fn_X5_canShift o0 v1 μ = some out) (hq : kQ K (some (.int out)) μ) : ro_X K 0 [(0, .ref (ro_ad (kG K) o0)), (1, .int v1)] [] μ := by
  unfold fn_X5_canShift at hf
  refine ro_iconst (v := 0) hK dX5_canShift_0 (by decide) ?_
  refine ro_istore_n (L' := [(2, .int 0), (0, .ref (ro_ad (kG K) o0)), (1, .int v1)]) hK dX5_canShift_1 rfl (by decide) rfl ?_
  obtain ⟨q5, e6, hf⟩ := ro_bd hf
  refine ro_sub (L' := [(0, .ref (ro_ad (kG K) o0)), (1, .int v1), (2, .int 0)]) [1, 2, 0] rfl ?_
  refine lp_X5_canShift_2 hK hR h0 e6 ?_
  rcases q5 with e7 | e8
  · have hf := ro_el hf
    show ro_X K 34 [] [] μ
    refine ro_iconst (v := 0) hK dX5_canShift_34 (by decide) ?_
    obtain rfl := Option.some.inj hf
    exact ro_zret hK hR dX5_canShift_35 (by decide) hq
  · have hf := ro_er hf
    show ro_X K 42 [] [] μ
    refine ro_iconst (v := 1) hK dX5_canShift_42 (by decide) ?_
    obtain rfl := Option.some.inj hf
    exact ro_zret hK hR dX5_canShift_43 (by decide) hq
theorem mt_X5_canShift (l : Launch) (G : ro_G) {o0 : Nat} {v1 : Int32} (h0 : ro_sh o0 = (0, 5)) {μ : ro_Mem} {out : Int32} (hf : fn_X5_canShift o0 v1 μ = some out) : ro_MX l G yX5_canShift cX5_canShift 3 (some .boolean) 0 [.ref (ro_ad G o0), .int v1] μ (some (.int out)) μ := by
  refine ro_MX.of (by decide +kernel) (Nat.le_of_ble_eq_true rfl) (fun K hG hl hq hK hR => ?_)
  subst hG
  exact be_X5_canShift hK hR h0 hf hq
-- ===== X6_takeSeats =====
theorem dX6_takeSeats_0 : decode cX6_takeSeats 0 = .ok (.aload_n 0, 1) := by decide +kernel
theorem dX6_takeSeats_1 : decode cX6_takeSeats 1 = .ok (.iconst 0, 1) := by decide +kernel
theorem dX6_takeSeats_2 : decode cX6_takeSeats 2 = .ok (.putfield 30, 3) := by decide +kernel
theorem dX6_takeSeats_5 : decode cX6_takeSeats 5 = .ok (.iconst 0, 1) := by decide +kernel
theorem dX6_takeSeats_6 : decode cX6_takeSeats 6 = .ok (.istore_n 3, 1) := by decide +kernel
theorem dX6_takeSeats_7 : decode cX6_takeSeats 7 = .ok (.iload_n 3, 1) := by decide +kernel
theorem dX6_takeSeats_8 : decode cX6_takeSeats 8 = .ok (.iload_n 2, 1) := by decide +kernel
theorem dX6_takeSeats_9 : decode cX6_takeSeats 9 = .ok (.if_icmp .ge 117, 3) := by decide +kernel
theorem dX6_takeSeats_12 : decode cX6_takeSeats 12 = .ok (.iload_n 3, 1) := by decide +kernel
theorem dX6_takeSeats_13 : decode cX6_takeSeats 13 = .ok (.bipush 8, 2) := by decide +kernel
theorem dX6_takeSeats_15 : decode cX6_takeSeats 15 = .ok (.if_icmp .ge 111, 3) := by decide +kernel
theorem dX6_takeSeats_18 : decode cX6_takeSeats 18 = .ok (.aload_n 1, 1) := by decide +kernel
theorem dX6_takeSeats_19 : decode cX6_takeSeats 19 = .ok (.getfield 34, 3) := by decide +kernel
theorem dX6_takeSeats_22 : decode cX6_takeSeats 22 = .ok (.iload_n 3, 1) := by decide +kernel
theorem dX6_takeSeats_23 : decode cX6_takeSeats 23 = .ok (.iaload, 1) := by decide +kernel
theorem dX6_takeSeats_24 : decode cX6_takeSeats 24 = .ok (.istore 4, 2) := by decide +kernel
theorem dX6_takeSeats_26 : decode cX6_takeSeats 26 = .ok (.aload_n 0, 1) := by decide +kernel
theorem dX6_takeSeats_27 : decode cX6_takeSeats 27 = .ok (.getfield 30, 3) := by decide +kernel
theorem dX6_takeSeats_30 : decode cX6_takeSeats 30 = .ok (.istore 5, 2) := by decide +kernel
theorem dX6_takeSeats_32 : decode cX6_takeSeats 32 = .ok (.iload 5, 2) := by decide +kernel
theorem dX6_takeSeats_34 : decode cX6_takeSeats 34 = .ok (.ifCond .le 39, 3) := by decide +kernel
theorem dX6_takeSeats_37 : decode cX6_takeSeats 37 = .ok (.aload_n 0, 1) := by decide +kernel
theorem dX6_takeSeats_38 : decode cX6_takeSeats 38 = .ok (.getfield 9, 3) := by decide +kernel
theorem dX6_takeSeats_41 : decode cX6_takeSeats 41 = .ok (.iload 5, 2) := by decide +kernel
theorem dX6_takeSeats_43 : decode cX6_takeSeats 43 = .ok (.iconst 1, 1) := by decide +kernel
theorem dX6_takeSeats_44 : decode cX6_takeSeats 44 = .ok (.isub, 1) := by decide +kernel
theorem dX6_takeSeats_45 : decode cX6_takeSeats 45 = .ok (.iaload, 1) := by decide +kernel
theorem dX6_takeSeats_46 : decode cX6_takeSeats 46 = .ok (.iload 4, 2) := by decide +kernel
theorem dX6_takeSeats_48 : decode cX6_takeSeats 48 = .ok (.if_icmp .le 25, 3) := by decide +kernel
theorem dX6_takeSeats_51 : decode cX6_takeSeats 51 = .ok (.aload_n 0, 1) := by decide +kernel
theorem dX6_takeSeats_52 : decode cX6_takeSeats 52 = .ok (.getfield 9, 3) := by decide +kernel
theorem dX6_takeSeats_55 : decode cX6_takeSeats 55 = .ok (.iload 5, 2) := by decide +kernel
theorem dX6_takeSeats_57 : decode cX6_takeSeats 57 = .ok (.aload_n 0, 1) := by decide +kernel
theorem dX6_takeSeats_58 : decode cX6_takeSeats 58 = .ok (.getfield 9, 3) := by decide +kernel
theorem dX6_takeSeats_61 : decode cX6_takeSeats 61 = .ok (.iload 5, 2) := by decide +kernel
theorem dX6_takeSeats_63 : decode cX6_takeSeats 63 = .ok (.iconst 1, 1) := by decide +kernel
theorem dX6_takeSeats_64 : decode cX6_takeSeats 64 = .ok (.isub, 1) := by decide +kernel
theorem dX6_takeSeats_65 : decode cX6_takeSeats 65 = .ok (.iaload, 1) := by decide +kernel
theorem dX6_takeSeats_66 : decode cX6_takeSeats 66 = .ok (.iastore, 1) := by decide +kernel
theorem dX6_takeSeats_67 : decode cX6_takeSeats 67 = .ok (.iinc 5 (-1), 3) := by decide +kernel
theorem dX6_takeSeats_70 : decode cX6_takeSeats 70 = .ok (.goto (-38), 3) := by decide +kernel
theorem dX6_takeSeats_73 : decode cX6_takeSeats 73 = .ok (.iload 4, 2) := by decide +kernel
theorem dX6_takeSeats_75 : decode cX6_takeSeats 75 = .ok (.bipush 96, 2) := by decide +kernel
theorem dX6_takeSeats_77 : decode cX6_takeSeats 77 = .ok (.if_icmp .ge 22, 3) := by decide +kernel
theorem dX6_takeSeats_80 : decode cX6_takeSeats 80 = .ok (.iload 5, 2) := by decide +kernel
theorem dX6_takeSeats_82 : decode cX6_takeSeats 82 = .ok (.ifCond .le 19, 3) := by decide +kernel
theorem dX6_takeSeats_85 : decode cX6_takeSeats 85 = .ok (.aload_n 0, 1) := by decide +kernel
theorem dX6_takeSeats_86 : decode cX6_takeSeats 86 = .ok (.getfield 9, 3) := by decide +kernel
theorem dX6_takeSeats_89 : decode cX6_takeSeats 89 = .ok (.iload 5, 2) := by decide +kernel
theorem dX6_takeSeats_91 : decode cX6_takeSeats 91 = .ok (.iconst 1, 1) := by decide +kernel
theorem dX6_takeSeats_92 : decode cX6_takeSeats 92 = .ok (.isub, 1) := by decide +kernel
theorem dX6_takeSeats_93 : decode cX6_takeSeats 93 = .ok (.iaload, 1) := by decide +kernel
theorem dX6_takeSeats_94 : decode cX6_takeSeats 94 = .ok (.iload 4, 2) := by decide +kernel
theorem dX6_takeSeats_96 : decode cX6_takeSeats 96 = .ok (.if_icmp .ne 5, 3) := by decide +kernel
theorem dX6_takeSeats_99 : decode cX6_takeSeats 99 = .ok (.iconst 0, 1) := by decide +kernel
theorem dX6_takeSeats_100 : decode cX6_takeSeats 100 = .ok (.ireturn, 1) := by decide +kernel
theorem dX6_takeSeats_101 : decode cX6_takeSeats 101 = .ok (.aload_n 0, 1) := by decide +kernel
theorem dX6_takeSeats_102 : decode cX6_takeSeats 102 = .ok (.getfield 9, 3) := by decide +kernel
theorem dX6_takeSeats_105 : decode cX6_takeSeats 105 = .ok (.iload 5, 2) := by decide +kernel
theorem dX6_takeSeats_107 : decode cX6_takeSeats 107 = .ok (.iload 4, 2) := by decide +kernel
theorem dX6_takeSeats_109 : decode cX6_takeSeats 109 = .ok (.iastore, 1) := by decide +kernel
theorem dX6_takeSeats_110 : decode cX6_takeSeats 110 = .ok (.aload_n 0, 1) := by decide +kernel
theorem dX6_takeSeats_111 : decode cX6_takeSeats 111 = .ok (.dup, 1) := by decide +kernel
theorem dX6_takeSeats_112 : decode cX6_takeSeats 112 = .ok (.getfield 30, 3) := by decide +kernel
theorem dX6_takeSeats_115 : decode cX6_takeSeats 115 = .ok (.iconst 1, 1) := by decide +kernel
theorem dX6_takeSeats_116 : decode cX6_takeSeats 116 = .ok (.iadd, 1) := by decide +kernel
theorem dX6_takeSeats_117 : decode cX6_takeSeats 117 = .ok (.putfield 30, 3) := by decide +kernel
theorem dX6_takeSeats_120 : decode cX6_takeSeats 120 = .ok (.iinc 3 1, 3) := by decide +kernel
theorem dX6_takeSeats_123 : decode cX6_takeSeats 123 = .ok (.goto (-116), 3) := by decide +kernel
theorem dX6_takeSeats_126 : decode cX6_takeSeats 126 = .ok (.iconst 1, 1) := by decide +kernel
theorem dX6_takeSeats_127 : decode cX6_takeSeats 127 = .ok (.ireturn, 1) := by decide +kernel
def ok_X6_takeSeats_7 (K : ro_K) (v2 : Int32) : (ro_Mem ⊕ ro_Mem) → Prop := Sum.elim (fun e => ro_X K 99 [] [] e) (fun e => ro_X K 126 [] [] e)
def ok_X6_takeSeats_32 (K : ro_K) (v2 : Int32) (v3 : Int32) (v4 : Int32) : (Int32 × ro_Mem) → Prop := fun e => ro_X K 73 [(0, .ref (ro_ad (kG K) 69)), (1, .ref (ro_ad (kG K) 60)), (2, .int v2), (3, .int v3), (4, .int v4), (5, .int e.1)] [] e.2
def fb_X6_takeSeats_32 (v2 : Int32) (v3 : Int32) (v4 : Int32) (rec : (Int32 × ro_Mem) → Option (Int32 × ro_Mem)) (v5 : Int32) (μ : ro_Mem) : Option (Int32 × ro_Mem) :=
  if v5 ≤ 0 then
  (some (v5, μ))
  else
  (if ro_in (v5 - 1) 8 then
  (if (μ 70 (v5 - 1).toNatClampNeg) ≤ v4 then
  (some (v5, μ))
  else
  (if ro_in v5 8 then
  (ro_lt (ro_set μ 70 v5.toNatClampNeg (μ 70 (v5 - 1).toNatClampNeg)) fun m14 =>
  rec (v5 + (-1), m14)) else none)) else none)
theorem bb_X6_takeSeats_32 {K : ro_K} (hK : ro_C K RX6 cX6_takeSeats 6 0) (hR : ro_R K (some .boolean)) {v2 : Int32} {v3 : Int32} {v4 : Int32}  {μ : ro_Mem} {rec : (Int32 × ro_Mem) → Option (Int32 × ro_Mem)} {v5 : Int32} {q : (Int32 × ro_Mem)} (hrec : ∀ (s : Int32 × ro_Mem) (q : (Int32 × ro_Mem)), rec s = some q → ok_X6_takeSeats_32 K v2 v3 v4 q → ro_X K 32 [(0, .ref (ro_ad (kG K) 69)), (1, .ref (ro_ad (kG K) 60)), (2, .int v2), (3, .int v3), (4, .int v4), (5, .int s.1)] [] s.2) (hf : fb_X6_takeSeats_32 v2 v3 v4 rec v5 μ = some q) (hq : ok_X6_takeSeats_32 K v2 v3 v4 q) : ro_X K 32 [(0, .ref (ro_ad (kG K) 69)), (1, .ref (ro_ad (kG K) 60)), (2, .int v2), (3, .int v3), (4, .int v4), (5, .int v5)] [] μ := by
  unfold fb_X6_takeSeats_32 at hf
  refine ro_iload hK 5 rfl dX6_takeSeats_32 ?_
  refine ro_if_le hK 73 dX6_takeSeats_34 (by decide) (fun c10 => ?_) (fun c10 => ?_)
  · have hf := ro_it hf c10
    obtain rfl := Option.some.inj hf
    exact hq
  · have hf := ro_ie hf c10
    refine ro_aload_n hK 0 rfl dX6_takeSeats_37 rfl ?_
    refine ro_getr hK fl_X6_9 sh_69 dX6_takeSeats_38 ?_
    refine ro_iload hK 5 rfl dX6_takeSeats_41 ?_
    refine ro_iconst (v := 1) hK dX6_takeSeats_43 (by decide) ?_
    refine ro_isub hK dX6_takeSeats_44 ?_
    obtain ⟨g11, hf⟩ := ro_gd hf
    refine ro_iald hK sh_70 g11 dX6_takeSeats_45 ?_
    refine ro_iload hK 4 rfl dX6_takeSeats_46 ?_
    refine ro_icmp_le hK 73 dX6_takeSeats_48 (by decide) (fun c12 => ?_) (fun c12 => ?_)
    · have hf := ro_it hf c12
      obtain rfl := Option.some.inj hf
      exact hq
    · have hf := ro_ie hf c12
      refine ro_aload_n hK 0 rfl dX6_takeSeats_51 rfl ?_
      refine ro_getr hK fl_X6_9 sh_69 dX6_takeSeats_52 ?_
      refine ro_iload hK 5 rfl dX6_takeSeats_55 ?_
      refine ro_aload_n hK 0 rfl dX6_takeSeats_57 rfl ?_
      refine ro_getr hK fl_X6_9 sh_69 dX6_takeSeats_58 ?_
      refine ro_iload hK 5 rfl dX6_takeSeats_61 ?_
      refine ro_iconst (v := 1) hK dX6_takeSeats_63 (by decide) ?_
      refine ro_isub hK dX6_takeSeats_64 ?_
      refine ro_iald hK sh_70 g11 dX6_takeSeats_65 ?_
      obtain ⟨g13, hf⟩ := ro_gd hf
      obtain ⟨m14, e15, hf⟩ := ro_ld hf
      refine ro_iast hK sh_70 g13 dX6_takeSeats_66 ?_
      refine ro_mv e15 ?_
      refine ro_iinc (v := v5 + (-1)) (L' := [(5, .int (v5 + (-1))), (0, .ref (ro_ad (kG K) 69)), (1, .ref (ro_ad (kG K) 60)), (2, .int v2), (3, .int v3), (4, .int v4)]) hK 5 rfl dX6_takeSeats_67 rfl (by decide) rfl ?_
      refine ro_goto hK 32 dX6_takeSeats_70 (by decide) ?_
      refine ro_sub (L' := [(0, .ref (ro_ad (kG K) 69)), (1, .ref (ro_ad (kG K) 60)), (2, .int v2), (3, .int v3), (4, .int v4), (5, .int (v5 + (-1)))]) [1, 2, 3, 4, 5, 0] rfl ?_
      exact hrec (v5 + (-1), m14) _ hf hq
def fl_X6_takeSeats_32 (v2 : Int32) (v3 : Int32) (v4 : Int32) : (Int32 × ro_Mem) → Option (Int32 × ro_Mem) :=
  ro_loop (fun rec s => fb_X6_takeSeats_32 v2 v3 v4 rec s.1 s.2) ro_FU
theorem lp_X6_takeSeats_32 {K : ro_K} (hK : ro_C K RX6 cX6_takeSeats 6 0) (hR : ro_R K (some .boolean)) {v2 : Int32} {v3 : Int32} {v4 : Int32}  {s : Int32 × ro_Mem} {q : (Int32 × ro_Mem)} (hf : fl_X6_takeSeats_32 v2 v3 v4 s = some q) (hq : ok_X6_takeSeats_32 K v2 v3 v4 q) : ro_X K 32 [(0, .ref (ro_ad (kG K) 69)), (1, .ref (ro_ad (kG K) 60)), (2, .int v2), (3, .int v3), (4, .int v4), (5, .int s.1)] [] s.2 :=
  ro_loopX (b := fun rec s => fb_X6_takeSeats_32 v2 v3 v4 rec s.1 s.2) (X := fun s => ro_X K 32 [(0, .ref (ro_ad (kG K) 69)), (1, .ref (ro_ad (kG K) 60)), (2, .int v2), (3, .int v3), (4, .int v4), (5, .int s.1)] [] s.2) (OK := ok_X6_takeSeats_32 K v2 v3 v4) (fun rec s q hrec hb ho => bb_X6_takeSeats_32 hK hR  hrec hb ho) ro_FU s q hf hq
def fj_X6_takeSeats_101 (rec : (Int32 × ro_Mem) → Option (ro_Mem ⊕ ro_Mem)) (v2 : Int32) (v3 : Int32) (v4 : Int32) (v5 : Int32) (μ : ro_Mem) : Option (ro_Mem ⊕ ro_Mem) :=
  if ro_in v5 8 then
  (ro_lt (ro_set μ 70 v5.toNatClampNeg v4) fun m21 =>
  ro_lt (ro_set m21 69 1 ((m21 69 1) + 1)) fun m23 =>
  rec (v3 + 1, m23)) else none
theorem bj_X6_takeSeats_101 {K : ro_K} (hK : ro_C K RX6 cX6_takeSeats 6 0) (hR : ro_R K (some .boolean)) {v2 : Int32} {v3 : Int32} {v4 : Int32} {v5 : Int32}  {rec : (Int32 × ro_Mem) → Option (ro_Mem ⊕ ro_Mem)} {μ : ro_Mem} (hrec : ∀ (s : Int32 × ro_Mem) (q : (ro_Mem ⊕ ro_Mem)), rec s = some q → ok_X6_takeSeats_7 K v2 q → ro_X K 7 [(0, .ref (ro_ad (kG K) 69)), (1, .ref (ro_ad (kG K) 60)), (2, .int v2), (3, .int s.1)] [] s.2) {out : (ro_Mem ⊕ ro_Mem)} (hf : fj_X6_takeSeats_101 rec v2 v3 v4 v5 μ = some out) (hq : ok_X6_takeSeats_7 K v2 out) : ro_X K 101 [(0, .ref (ro_ad (kG K) 69)), (1, .ref (ro_ad (kG K) 60)), (2, .int v2), (3, .int v3), (4, .int v4), (5, .int v5)] [] μ := by
  unfold fj_X6_takeSeats_101 at hf
  refine ro_aload_n hK 0 rfl dX6_takeSeats_101 rfl ?_
  refine ro_getr hK fl_X6_9 sh_69 dX6_takeSeats_102 ?_
  refine ro_iload hK 5 rfl dX6_takeSeats_105 ?_
  refine ro_iload hK 4 rfl dX6_takeSeats_107 ?_
  obtain ⟨g20, hf⟩ := ro_gd hf
  obtain ⟨m21, e22, hf⟩ := ro_ld hf
  refine ro_iast hK sh_70 g20 dX6_takeSeats_109 ?_
  refine ro_mv e22 ?_
  refine ro_aload_n hK 0 rfl dX6_takeSeats_110 rfl ?_
  refine ro_dup hK dX6_takeSeats_111 rfl ?_
  refine ro_geti hK fl_X6_30 sh_69 dX6_takeSeats_112 ?_
  refine ro_iconst (v := 1) hK dX6_takeSeats_115 (by decide) ?_
  refine ro_iadd hK dX6_takeSeats_116 ?_
  obtain ⟨m23, e24, hf⟩ := ro_ld hf
  refine ro_puti hK fl_X6_30 sh_69 rfl rfl dX6_takeSeats_117 ?_
  refine ro_mv e24 ?_
  refine ro_iinc (v := v3 + 1) (L' := [(3, .int (v3 + 1)), (0, .ref (ro_ad (kG K) 69)), (1, .ref (ro_ad (kG K) 60)), (2, .int v2), (4, .int v4), (5, .int v5)]) hK 3 rfl dX6_takeSeats_120 rfl (by decide) rfl ?_
  refine ro_goto hK 7 dX6_takeSeats_123 (by decide) ?_
  refine ro_sub (L' := [(0, .ref (ro_ad (kG K) 69)), (1, .ref (ro_ad (kG K) 60)), (2, .int v2), (3, .int (v3 + 1))]) [1, 2, 3, 0] rfl ?_
  exact hrec (v3 + 1, m23) _ hf hq
def fj_X6_takeSeats_73 (rec : (Int32 × ro_Mem) → Option (ro_Mem ⊕ ro_Mem)) (v2 : Int32) (v3 : Int32) (v4 : Int32) (v5 : Int32) (μ : ro_Mem) : Option (ro_Mem ⊕ ro_Mem) :=
  if 96 ≤ v4 then
  (some (.inl μ))
  else
  (if v5 ≤ 0 then
  (fj_X6_takeSeats_101 rec v2 v3 v4 v5 μ)
  else
  (if ro_in (v5 - 1) 8 then
  (if (μ 70 (v5 - 1).toNatClampNeg) = v4 then
  (some (.inl μ))
  else
  (fj_X6_takeSeats_101 rec v2 v3 v4 v5 μ)) else none))
theorem bj_X6_takeSeats_73 {K : ro_K} (hK : ro_C K RX6 cX6_takeSeats 6 0) (hR : ro_R K (some .boolean)) {v2 : Int32} {v3 : Int32} {v4 : Int32} {v5 : Int32}  {rec : (Int32 × ro_Mem) → Option (ro_Mem ⊕ ro_Mem)} {μ : ro_Mem} (hrec : ∀ (s : Int32 × ro_Mem) (q : (ro_Mem ⊕ ro_Mem)), rec s = some q → ok_X6_takeSeats_7 K v2 q → ro_X K 7 [(0, .ref (ro_ad (kG K) 69)), (1, .ref (ro_ad (kG K) 60)), (2, .int v2), (3, .int s.1)] [] s.2) {out : (ro_Mem ⊕ ro_Mem)} (hf : fj_X6_takeSeats_73 rec v2 v3 v4 v5 μ = some out) (hq : ok_X6_takeSeats_7 K v2 out) : ro_X K 73 [(0, .ref (ro_ad (kG K) 69)), (1, .ref (ro_ad (kG K) 60)), (2, .int v2), (3, .int v3), (4, .int v4), (5, .int v5)] [] μ := by
  unfold fj_X6_takeSeats_73 at hf
  refine ro_iload hK 4 rfl dX6_takeSeats_73 ?_
  refine ro_bipush (v := 96) hK dX6_takeSeats_75 (by decide) ?_
  refine ro_icmp_ge hK 99 dX6_takeSeats_77 (by decide) (fun c18 => ?_) (fun c18 => ?_)
  · have hf := ro_it hf c18
    refine ro_sub (L' := []) [] rfl ?_
    obtain rfl := Option.some.inj hf
    exact hq
  · have hf := ro_ie hf c18
    refine ro_iload hK 5 rfl dX6_takeSeats_80 ?_
    refine ro_if_le hK 101 dX6_takeSeats_82 (by decide) (fun c19 => ?_) (fun c19 => ?_)
    · have hf := ro_it hf c19
      exact bj_X6_takeSeats_101 hK hR  hrec hf hq
    · have hf := ro_ie hf c19
      refine ro_aload_n hK 0 rfl dX6_takeSeats_85 rfl ?_
      refine ro_getr hK fl_X6_9 sh_69 dX6_takeSeats_86 ?_
      refine ro_iload hK 5 rfl dX6_takeSeats_89 ?_
      refine ro_iconst (v := 1) hK dX6_takeSeats_91 (by decide) ?_
      refine ro_isub hK dX6_takeSeats_92 ?_
      obtain ⟨g25, hf⟩ := ro_gd hf
      refine ro_iald hK sh_70 g25 dX6_takeSeats_93 ?_
      refine ro_iload hK 4 rfl dX6_takeSeats_94 ?_
      refine ro_icmp_ne hK 101 dX6_takeSeats_96 (by decide) (fun c26 => ?_) (fun c26 => ?_)
      · have hf := ro_ie hf c26
        exact bj_X6_takeSeats_101 hK hR  hrec hf hq
      · have hf := ro_it hf c26
        refine ro_sub (L' := []) [] rfl ?_
        obtain rfl := Option.some.inj hf
        exact hq
def fb_X6_takeSeats_7 (v2 : Int32) (rec : (Int32 × ro_Mem) → Option (ro_Mem ⊕ ro_Mem)) (v3 : Int32) (μ : ro_Mem) : Option (ro_Mem ⊕ ro_Mem) :=
  if v2 ≤ v3 then
  (some (.inr μ))
  else
  (if 8 ≤ v3 then
  (some (.inr μ))
  else
  (if ro_in v3 220 then
  (ro_lt (μ 61 v3.toNatClampNeg) fun z6 =>
  ro_lt (μ 69 1) fun z8 =>
  (fl_X6_takeSeats_32 v2 v3 z6 (z8, μ)).bind fun q16 =>
  fj_X6_takeSeats_73 rec v2 v3 z6 q16.1 q16.2) else none))
theorem bb_X6_takeSeats_7 {K : ro_K} (hK : ro_C K RX6 cX6_takeSeats 6 0) (hR : ro_R K (some .boolean)) {v2 : Int32}  {μ : ro_Mem} {rec : (Int32 × ro_Mem) → Option (ro_Mem ⊕ ro_Mem)} {v3 : Int32} {q : (ro_Mem ⊕ ro_Mem)} (hrec : ∀ (s : Int32 × ro_Mem) (q : (ro_Mem ⊕ ro_Mem)), rec s = some q → ok_X6_takeSeats_7 K v2 q → ro_X K 7 [(0, .ref (ro_ad (kG K) 69)), (1, .ref (ro_ad (kG K) 60)), (2, .int v2), (3, .int s.1)] [] s.2) (hf : fb_X6_takeSeats_7 v2 rec v3 μ = some q) (hq : ok_X6_takeSeats_7 K v2 q) : ro_X K 7 [(0, .ref (ro_ad (kG K) 69)), (1, .ref (ro_ad (kG K) 60)), (2, .int v2), (3, .int v3)] [] μ := by
  unfold fb_X6_takeSeats_7 at hf
  refine ro_iload_n hK 3 rfl dX6_takeSeats_7 rfl ?_
  refine ro_iload_n hK 2 rfl dX6_takeSeats_8 rfl ?_
  refine ro_icmp_ge hK 126 dX6_takeSeats_9 (by decide) (fun c3 => ?_) (fun c3 => ?_)
  · have hf := ro_it hf c3
    refine ro_sub (L' := []) [] rfl ?_
    obtain rfl := Option.some.inj hf
    exact hq
  · have hf := ro_ie hf c3
    refine ro_iload_n hK 3 rfl dX6_takeSeats_12 rfl ?_
    refine ro_bipush (v := 8) hK dX6_takeSeats_13 (by decide) ?_
    refine ro_icmp_ge hK 126 dX6_takeSeats_15 (by decide) (fun c4 => ?_) (fun c4 => ?_)
    · have hf := ro_it hf c4
      refine ro_sub (L' := []) [] rfl ?_
      obtain rfl := Option.some.inj hf
      exact hq
    · have hf := ro_ie hf c4
      refine ro_aload_n hK 1 rfl dX6_takeSeats_18 rfl ?_
      refine ro_getr hK fl_X6_34 sh_60 dX6_takeSeats_19 ?_
      refine ro_iload_n hK 3 rfl dX6_takeSeats_22 rfl ?_
      obtain ⟨g5, hf⟩ := ro_gd hf
      refine ro_iald hK sh_61 g5 dX6_takeSeats_23 ?_
      obtain ⟨z6, e7, hf⟩ := ro_ld hf
      refine ro_iv e7 ?_
      refine ro_istore (L' := [(4, .int z6), (0, .ref (ro_ad (kG K) 69)), (1, .ref (ro_ad (kG K) 60)), (2, .int v2), (3, .int v3)]) hK dX6_takeSeats_24 (by decide) rfl ?_
      refine ro_aload_n hK 1 rfl dX6_takeSeats_26 rfl ?_
      refine ro_geti hK fl_X6_30 sh_69 dX6_takeSeats_27 ?_
      obtain ⟨z8, e9, hf⟩ := ro_ld hf
      refine ro_iv e9 ?_
      refine ro_istore (L' := [(5, .int z8), (4, .int z6), (0, .ref (ro_ad (kG K) 69)), (1, .ref (ro_ad (kG K) 60)), (2, .int v2), (3, .int v3)]) hK dX6_takeSeats_30 (by decide) rfl ?_
      obtain ⟨q16, e17, hf⟩ := ro_bd hf
      refine ro_sub (L' := [(0, .ref (ro_ad (kG K) 69)), (1, .ref (ro_ad (kG K) 60)), (2, .int v2), (3, .int v3), (4, .int z6), (5, .int z8)]) [2, 3, 4, 5, 1, 0] rfl ?_
      refine lp_X6_takeSeats_32 hK hR  e17 ?_
      show ro_X K 73 [(0, .ref (ro_ad (kG K) 69)), (1, .ref (ro_ad (kG K) 60)), (2, .int v2), (3, .int v3), (4, .int z6), (5, .int q16.1)] [] q16.2
      exact bj_X6_takeSeats_73 hK hR  hrec hf hq
def fl_X6_takeSeats_7 (v2 : Int32) : (Int32 × ro_Mem) → Option (ro_Mem ⊕ ro_Mem) :=
  ro_loop (fun rec s => fb_X6_takeSeats_7 v2 rec s.1 s.2) ro_FU
theorem lp_X6_takeSeats_7 {K : ro_K} (hK : ro_C K RX6 cX6_takeSeats 6 0) (hR : ro_R K (some .boolean)) {v2 : Int32}  {s : Int32 × ro_Mem} {q : (ro_Mem ⊕ ro_Mem)} (hf : fl_X6_takeSeats_7 v2 s = some q) (hq : ok_X6_takeSeats_7 K v2 q) : ro_X K 7 [(0, .ref (ro_ad (kG K) 69)), (1, .ref (ro_ad (kG K) 60)), (2, .int v2), (3, .int s.1)] [] s.2 :=
  ro_loopX (b := fun rec s => fb_X6_takeSeats_7 v2 rec s.1 s.2) (X := fun s => ro_X K 7 [(0, .ref (ro_ad (kG K) 69)), (1, .ref (ro_ad (kG K) 60)), (2, .int v2), (3, .int s.1)] [] s.2) (OK := ok_X6_takeSeats_7 K v2) (fun rec s q hrec hb ho => bb_X6_takeSeats_7 hK hR  hrec hb ho) ro_FU s q hf hq
def fn_X6_takeSeats (v2 : Int32) (μ : ro_Mem) : Option (Int32 × ro_Mem) :=
  ro_lt (ro_set μ 69 1 0) fun m1 =>
  (fl_X6_takeSeats_7 v2 (0, m1)).bind fun q27 =>
  q27.elim (fun e29 => some (0, e29)) (fun e30 => some (1, e30))
theorem be_X6_takeSeats {K : ro_K} (hK : ro_C K RX6 cX6_takeSeats 6 0) (hR : ro_R K (some .boolean)) {v2 : Int32}  {μ : ro_Mem} {out : Int32 × ro_Mem} (hf : fn_X6_takeSeats v2 μ = some out) (hq : kQ K (some (.int out.1)) out.2) : ro_X K 0 [(0, .ref (ro_ad (kG K) 69)), (1, .ref (ro_ad (kG K) 60)), (2, .int v2)] [] μ := by
  unfold fn_X6_takeSeats at hf
  refine ro_aload_n hK 0 rfl dX6_takeSeats_0 rfl ?_
  refine ro_iconst (v := 0) hK dX6_takeSeats_1 (by decide) ?_
  obtain ⟨m1, e2, hf⟩ := ro_ld hf
  refine ro_puti hK fl_X6_30 sh_69 rfl rfl dX6_takeSeats_2 ?_
  refine ro_mv e2 ?_
  refine ro_iconst (v := 0) hK dX6_takeSeats_5 (by decide) ?_
  refine ro_istore_n (L' := [(3, .int 0), (0, .ref (ro_ad (kG K) 69)), (1, .ref (ro_ad (kG K) 60)), (2, .int v2)]) hK dX6_takeSeats_6 rfl (by decide) rfl ?_
  obtain ⟨q27, e28, hf⟩ := ro_bd hf
  refine ro_sub (L' := [(0, .ref (ro_ad (kG K) 69)), (1, .ref (ro_ad (kG K) 60)), (2, .int v2), (3, .int 0)]) [1, 2, 3, 0] rfl ?_
  refine lp_X6_takeSeats_7 hK hR  e28 ?_
  rcases q27 with e29 | e30
  · have hf := ro_el hf
    show ro_X K 99 [] [] e29
    refine ro_iconst (v := 0) hK dX6_takeSeats_99 (by decide) ?_
    obtain rfl := Option.some.inj hf
    exact ro_zret hK hR dX6_takeSeats_100 (by decide) hq
  · have hf := ro_er hf
    show ro_X K 126 [] [] e30
    refine ro_iconst (v := 1) hK dX6_takeSeats_126 (by decide) ?_
    obtain rfl := Option.some.inj hf
    exact ro_zret hK hR dX6_takeSeats_127 (by decide) hq
theorem mt_X6_takeSeats (l : Launch) (G : ro_G) {v2 : Int32}  {μ : ro_Mem} {out : Int32 × ro_Mem} (hf : fn_X6_takeSeats v2 μ = some out) : ro_MX l G yX6_takeSeats cX6_takeSeats 6 (some .boolean) 0 [.ref (ro_ad G 69), .ref (ro_ad G 60), .int v2] μ (some (.int out.1)) out.2 := by
  refine ro_MX.of (by decide +kernel) (Nat.le_of_ble_eq_true rfl) (fun K hG hl hq hK hR => ?_)
  subst hG
  exact be_X6_takeSeats hK hR  hf hq
-- ===== X6_costWith =====
theorem dX6_costWith_0 : decode cX6_costWith 0 = .ok (.iload_n 1, 1) := by decide +kernel
theorem dX6_costWith_1 : decode cX6_costWith 1 = .ok (.invokestatic 58, 3) := by decide +kernel
theorem dX6_costWith_4 : decode cX6_costWith 4 = .ok (.bipush 7, 2) := by decide +kernel
theorem dX6_costWith_6 : decode cX6_costWith 6 = .ok (.invokestatic 63, 3) := by decide +kernel
theorem dX6_costWith_9 : decode cX6_costWith 9 = .ok (.istore_n 3, 1) := by decide +kernel
theorem dX6_costWith_10 : decode cX6_costWith 10 = .ok (.aload_n 0, 1) := by decide +kernel
theorem dX6_costWith_11 : decode cX6_costWith 11 = .ok (.getfield 24, 3) := by decide +kernel
theorem dX6_costWith_14 : decode cX6_costWith 14 = .ok (.iload_n 3, 1) := by decide +kernel
theorem dX6_costWith_15 : decode cX6_costWith 15 = .ok (.iaload, 1) := by decide +kernel
theorem dX6_costWith_16 : decode cX6_costWith 16 = .ok (.aload_n 0, 1) := by decide +kernel
theorem dX6_costWith_17 : decode cX6_costWith 17 = .ok (.getfield 27, 3) := by decide +kernel
theorem dX6_costWith_20 : decode cX6_costWith 20 = .ok (.iload_n 2, 1) := by decide +kernel
theorem dX6_costWith_21 : decode cX6_costWith 21 = .ok (.iaload, 1) := by decide +kernel
theorem dX6_costWith_22 : decode cX6_costWith 22 = .ok (.imul, 1) := by decide +kernel
theorem dX6_costWith_23 : decode cX6_costWith 23 = .ok (.aload_n 0, 1) := by decide +kernel
theorem dX6_costWith_24 : decode cX6_costWith 24 = .ok (.getfield 15, 3) := by decide +kernel
theorem dX6_costWith_27 : decode cX6_costWith 27 = .ok (.iload_n 1, 1) := by decide +kernel
theorem dX6_costWith_28 : decode cX6_costWith 28 = .ok (.iconst 1, 1) := by decide +kernel
theorem dX6_costWith_29 : decode cX6_costWith 29 = .ok (.iload_n 2, 1) := by decide +kernel
theorem dX6_costWith_30 : decode cX6_costWith 30 = .ok (.ishl, 1) := by decide +kernel
theorem dX6_costWith_31 : decode cX6_costWith 31 = .ok (.ior, 1) := by decide +kernel
theorem dX6_costWith_32 : decode cX6_costWith 32 = .ok (.iaload, 1) := by decide +kernel
theorem dX6_costWith_33 : decode cX6_costWith 33 = .ok (.iadd, 1) := by decide +kernel
theorem dX6_costWith_34 : decode cX6_costWith 34 = .ok (.ireturn, 1) := by decide +kernel
def fn_X6_costWith (v1 : Int32) (v2 : Int32) (μ : ro_Mem) : Option Int32 :=
  (fn_J6_bitCount_0f7a4 v1).bind fun q1 =>
  ro_lt (ro_mn q1 7) fun z3 =>
  if ro_in z3 8 then
  (if ro_in v2 8 then
  (if ro_in (v1 ||| ((1 : Int32) <<< (v2 &&& 31))) 256 then
  (some (((μ 74 z3.toNatClampNeg) * (μ 75 v2.toNatClampNeg)) + (μ 71 (v1 ||| ((1 : Int32) <<< (v2 &&& 31))).toNatClampNeg))) else none) else none) else none
theorem be_X6_costWith {K : ro_K} (hK : ro_C K RX6 cX6_costWith 4 1) (hR : ro_R K (some .int)) {v1 : Int32} {v2 : Int32}  {μ : ro_Mem} {out : Int32} (hf : fn_X6_costWith v1 v2 μ = some out) (hq : kQ K (some (.int out)) μ) : ro_X K 0 [(0, .ref (ro_ad (kG K) 69)), (1, .int v1), (2, .int v2)] [] μ := by
  unfold fn_X6_costWith at hf
  refine ro_iload_n hK 1 rfl dX6_costWith_0 rfl ?_
  obtain ⟨q1, e2, hf⟩ := ro_bd hf
  refine ro_callsi hK [.int v1] ml_X6_58 ms_J6_bitCount_0f7a4 (mt_J6_bitCount_0f7a4 (kl K) (kG K)  e2) (by decide) rfl rfl (Nat.le_of_ble_eq_true rfl) dX6_costWith_1 ?_
  refine ro_bipush (v := 7) hK dX6_costWith_4 (by decide) ?_
  refine ro_mmin hK ml_X6_63 (by decide) (Nat.le_of_ble_eq_true rfl) dX6_costWith_6 ?_
  obtain ⟨z3, e4, hf⟩ := ro_ld hf
  refine ro_iv e4 ?_
  refine ro_istore_n (L' := [(3, .int z3), (0, .ref (ro_ad (kG K) 69)), (1, .int v1), (2, .int v2)]) hK dX6_costWith_9 rfl (by decide) rfl ?_
  refine ro_aload_n hK 1 rfl dX6_costWith_10 rfl ?_
  refine ro_getr hK fl_X6_24 sh_69 dX6_costWith_11 ?_
  refine ro_iload_n hK 0 rfl dX6_costWith_14 rfl ?_
  obtain ⟨g5, hf⟩ := ro_gd hf
  refine ro_iald hK sh_74 g5 dX6_costWith_15 ?_
  refine ro_aload_n hK 1 rfl dX6_costWith_16 rfl ?_
  refine ro_getr hK fl_X6_27 sh_69 dX6_costWith_17 ?_
  refine ro_iload_n hK 3 rfl dX6_costWith_20 rfl ?_
  obtain ⟨g6, hf⟩ := ro_gd hf
  refine ro_iald hK sh_75 g6 dX6_costWith_21 ?_
  refine ro_imul hK dX6_costWith_22 ?_
  refine ro_aload_n hK 1 rfl dX6_costWith_23 rfl ?_
  refine ro_getr hK fl_X6_15 sh_69 dX6_costWith_24 ?_
  refine ro_iload_n hK 2 rfl dX6_costWith_27 rfl ?_
  refine ro_iconst (v := 1) hK dX6_costWith_28 (by decide) ?_
  refine ro_iload_n hK 3 rfl dX6_costWith_29 rfl ?_
  refine ro_ishl hK dX6_costWith_30 ?_
  refine ro_ior hK dX6_costWith_31 ?_
  obtain ⟨g7, hf⟩ := ro_gd hf
  refine ro_iald hK sh_71 g7 dX6_costWith_32 ?_
  refine ro_iadd hK dX6_costWith_33 ?_
  obtain rfl := Option.some.inj hf
  exact ro_iret hK hR dX6_costWith_34 hq
theorem mt_X6_costWith (l : Launch) (G : ro_G) {v1 : Int32} {v2 : Int32}  {μ : ro_Mem} {out : Int32} (hf : fn_X6_costWith v1 v2 μ = some out) : ro_MX l G yX6_costWith cX6_costWith 4 (some .int) 1 [.ref (ro_ad G 69), .int v1, .int v2] μ (some (.int out)) μ := by
  refine ro_MX.of (by decide +kernel) (Nat.le_of_ble_eq_true rfl) (fun K hG hl hq hK hR => ?_)
  subst hG
  exact be_X6_costWith hK hR  hf hq
-- ===== X6_firstBest =====
theorem dX6_firstBest_0 : decode cX6_firstBest 0 = .ok (.iconst (-1), 1) := by decide +kernel
theorem dX6_firstBest_1 : decode cX6_firstBest 1 = .ok (.istore_n 2, 1) := by decide +kernel
theorem dX6_firstBest_2 : decode cX6_firstBest 2 = .ok (.iconst 0, 1) := by decide +kernel
theorem dX6_firstBest_3 : decode cX6_firstBest 3 = .ok (.istore_n 3, 1) := by decide +kernel
theorem dX6_firstBest_4 : decode cX6_firstBest 4 = .ok (.iconst 0, 1) := by decide +kernel
theorem dX6_firstBest_5 : decode cX6_firstBest 5 = .ok (.istore 4, 2) := by decide +kernel
theorem dX6_firstBest_7 : decode cX6_firstBest 7 = .ok (.iload 4, 2) := by decide +kernel
theorem dX6_firstBest_9 : decode cX6_firstBest 9 = .ok (.aload_n 0, 1) := by decide +kernel
theorem dX6_firstBest_10 : decode cX6_firstBest 10 = .ok (.getfield 30, 3) := by decide +kernel
theorem dX6_firstBest_13 : decode cX6_firstBest 13 = .ok (.if_icmp .ge 44, 3) := by decide +kernel
theorem dX6_firstBest_16 : decode cX6_firstBest 16 = .ok (.aload_n 0, 1) := by decide +kernel
theorem dX6_firstBest_17 : decode cX6_firstBest 17 = .ok (.iload_n 1, 1) := by decide +kernel
theorem dX6_firstBest_18 : decode cX6_firstBest 18 = .ok (.iload 4, 2) := by decide +kernel
theorem dX6_firstBest_20 : decode cX6_firstBest 20 = .ok (.invokevirtual 49, 3) := by decide +kernel
theorem dX6_firstBest_23 : decode cX6_firstBest 23 = .ok (.istore 5, 2) := by decide +kernel
theorem dX6_firstBest_25 : decode cX6_firstBest 25 = .ok (.iload_n 1, 1) := by decide +kernel
theorem dX6_firstBest_26 : decode cX6_firstBest 26 = .ok (.iload 4, 2) := by decide +kernel
theorem dX6_firstBest_28 : decode cX6_firstBest 28 = .ok (.ishr, 1) := by decide +kernel
theorem dX6_firstBest_29 : decode cX6_firstBest 29 = .ok (.iconst 1, 1) := by decide +kernel
theorem dX6_firstBest_30 : decode cX6_firstBest 30 = .ok (.iand, 1) := by decide +kernel
theorem dX6_firstBest_31 : decode cX6_firstBest 31 = .ok (.ifCond .ne 20, 3) := by decide +kernel
theorem dX6_firstBest_34 : decode cX6_firstBest 34 = .ok (.iload_n 2, 1) := by decide +kernel
theorem dX6_firstBest_35 : decode cX6_firstBest 35 = .ok (.iconst (-1), 1) := by decide +kernel
theorem dX6_firstBest_36 : decode cX6_firstBest 36 = .ok (.if_icmp .eq 9, 3) := by decide +kernel
theorem dX6_firstBest_39 : decode cX6_firstBest 39 = .ok (.iload 5, 2) := by decide +kernel
theorem dX6_firstBest_41 : decode cX6_firstBest 41 = .ok (.iload_n 3, 1) := by decide +kernel
theorem dX6_firstBest_42 : decode cX6_firstBest 42 = .ok (.if_icmp .ge 9, 3) := by decide +kernel
theorem dX6_firstBest_45 : decode cX6_firstBest 45 = .ok (.iload 4, 2) := by decide +kernel
theorem dX6_firstBest_47 : decode cX6_firstBest 47 = .ok (.istore_n 2, 1) := by decide +kernel
theorem dX6_firstBest_48 : decode cX6_firstBest 48 = .ok (.iload 5, 2) := by decide +kernel
theorem dX6_firstBest_50 : decode cX6_firstBest 50 = .ok (.istore_n 3, 1) := by decide +kernel
theorem dX6_firstBest_51 : decode cX6_firstBest 51 = .ok (.iinc 4 1, 3) := by decide +kernel
theorem dX6_firstBest_54 : decode cX6_firstBest 54 = .ok (.goto (-47), 3) := by decide +kernel
theorem dX6_firstBest_57 : decode cX6_firstBest 57 = .ok (.iconst 0, 1) := by decide +kernel
theorem dX6_firstBest_58 : decode cX6_firstBest 58 = .ok (.iload_n 2, 1) := by decide +kernel
theorem dX6_firstBest_59 : decode cX6_firstBest 59 = .ok (.invokestatic 53, 3) := by decide +kernel
theorem dX6_firstBest_62 : decode cX6_firstBest 62 = .ok (.ireturn, 1) := by decide +kernel
def ok_X6_firstBest_7 (K : ro_K) (v1 : Int32) (μ : ro_Mem) : Int32 → Prop := fun e => ro_X K 57 [(2, .int e)] [] μ
def fb_X6_firstBest_7 (v1 : Int32) (μ : ro_Mem) (rec : (Int32 × Int32 × Int32) → Option Int32) (v2 : Int32) (v3 : Int32) (v4 : Int32) : Option Int32 :=
  if (μ 69 1) ≤ v4 then
  (some v2)
  else
  ((fn_X6_costWith v1 v4 μ).bind fun q2 =>
  if ((v1 >>> (v4 &&& 31)) &&& 1) = 0 then
  (if v2 = (-1) then
  (rec (v4, q2, v4 + 1))
  else
  (if v3 ≤ q2 then
  (rec (v2, v3, v4 + 1))
  else
  (rec (v4, q2, v4 + 1))))
  else
  (rec (v2, v3, v4 + 1)))
theorem bb_X6_firstBest_7 {K : ro_K} (hK : ro_C K RX6 cX6_firstBest 6 2) (hR : ro_R K (some .int)) {v1 : Int32}  {μ : ro_Mem} {rec : (Int32 × Int32 × Int32) → Option Int32} {v2 : Int32} {v3 : Int32} {v4 : Int32} {q : Int32} (hrec : ∀ (s : Int32 × Int32 × Int32) (q : Int32), rec s = some q → ok_X6_firstBest_7 K v1 μ q → ro_X K 7 [(0, .ref (ro_ad (kG K) 69)), (1, .int v1), (2, .int s.1), (3, .int s.2.1), (4, .int s.2.2)] [] μ) (hf : fb_X6_firstBest_7 v1 μ rec v2 v3 v4 = some q) (hq : ok_X6_firstBest_7 K v1 μ q) : ro_X K 7 [(0, .ref (ro_ad (kG K) 69)), (1, .int v1), (2, .int v2), (3, .int v3), (4, .int v4)] [] μ := by
  unfold fb_X6_firstBest_7 at hf
  refine ro_iload hK 4 rfl dX6_firstBest_7 ?_
  refine ro_aload_n hK 0 rfl dX6_firstBest_9 rfl ?_
  refine ro_geti hK fl_X6_30 sh_69 dX6_firstBest_10 ?_
  refine ro_icmp_ge hK 57 dX6_firstBest_13 (by decide) (fun c1 => ?_) (fun c1 => ?_)
  · have hf := ro_it hf c1
    refine ro_sub (L' := [(2, .int v2)]) [2] rfl ?_
    obtain rfl := Option.some.inj hf
    exact hq
  · have hf := ro_ie hf c1
    refine ro_aload_n hK 0 rfl dX6_firstBest_16 rfl ?_
    refine ro_iload_n hK 1 rfl dX6_firstBest_17 rfl ?_
    refine ro_iload hK 4 rfl dX6_firstBest_18 ?_
    obtain ⟨q2, e3, hf⟩ := ro_bd hf
    refine ro_callvi hK [.int v1, .int v4] ml_X6_49 mv_X6_costWith (mt_X6_costWith (kl K) (kG K)  e3) sh_69 ⟨_, rfl, rfl⟩ (by decide) rfl rfl (Nat.le_of_ble_eq_true rfl) dX6_firstBest_20 ?_
    refine ro_istore (L' := [(5, .int q2), (0, .ref (ro_ad (kG K) 69)), (1, .int v1), (2, .int v2), (3, .int v3), (4, .int v4)]) hK dX6_firstBest_23 (by decide) rfl ?_
    refine ro_iload_n hK 2 rfl dX6_firstBest_25 rfl ?_
    refine ro_iload hK 5 rfl dX6_firstBest_26 ?_
    refine ro_ishr hK dX6_firstBest_28 ?_
    refine ro_iconst (v := 1) hK dX6_firstBest_29 (by decide) ?_
    refine ro_iand hK dX6_firstBest_30 ?_
    refine ro_if_ne hK 51 dX6_firstBest_31 (by decide) (fun c4 => ?_) (fun c4 => ?_)
    · have hf := ro_ie hf c4
      refine ro_iinc (v := v4 + 1) (L' := [(4, .int (v4 + 1)), (5, .int q2), (0, .ref (ro_ad (kG K) 69)), (1, .int v1), (2, .int v2), (3, .int v3)]) hK 5 rfl dX6_firstBest_51 rfl (by decide) rfl ?_
      refine ro_goto hK 7 dX6_firstBest_54 (by decide) ?_
      refine ro_sub (L' := [(0, .ref (ro_ad (kG K) 69)), (1, .int v1), (2, .int v2), (3, .int v3), (4, .int (v4 + 1))]) [2, 3, 4, 5, 0] rfl ?_
      exact hrec (v2, v3, v4 + 1) _ hf hq
    · have hf := ro_it hf c4
      refine ro_iload_n hK 3 rfl dX6_firstBest_34 rfl ?_
      refine ro_iconst (v := (-1)) hK dX6_firstBest_35 (by decide) ?_
      refine ro_icmp_eq hK 45 dX6_firstBest_36 (by decide) (fun c5 => ?_) (fun c5 => ?_)
      · have hf := ro_it hf c5
        refine ro_iload hK 5 rfl dX6_firstBest_45 ?_
        refine ro_istore_n (L' := [(2, .int v4), (5, .int q2), (0, .ref (ro_ad (kG K) 69)), (1, .int v1), (3, .int v3), (4, .int v4)]) hK dX6_firstBest_47 rfl (by decide) rfl ?_
        refine ro_iload hK 1 rfl dX6_firstBest_48 ?_
        refine ro_istore_n (L' := [(3, .int q2), (2, .int v4), (5, .int q2), (0, .ref (ro_ad (kG K) 69)), (1, .int v1), (4, .int v4)]) hK dX6_firstBest_50 rfl (by decide) rfl ?_
        refine ro_iinc (v := v4 + 1) (L' := [(4, .int (v4 + 1)), (3, .int q2), (2, .int v4), (5, .int q2), (0, .ref (ro_ad (kG K) 69)), (1, .int v1)]) hK 5 rfl dX6_firstBest_51 rfl (by decide) rfl ?_
        refine ro_goto hK 7 dX6_firstBest_54 (by decide) ?_
        refine ro_sub (L' := [(0, .ref (ro_ad (kG K) 69)), (1, .int v1), (2, .int v4), (3, .int q2), (4, .int (v4 + 1))]) [4, 5, 2, 1, 0] rfl ?_
        exact hrec (v4, q2, v4 + 1) _ hf hq
      · have hf := ro_ie hf c5
        refine ro_iload hK 0 rfl dX6_firstBest_39 ?_
        refine ro_iload_n hK 4 rfl dX6_firstBest_41 rfl ?_
        refine ro_icmp_ge hK 51 dX6_firstBest_42 (by decide) (fun c6 => ?_) (fun c6 => ?_)
        · have hf := ro_it hf c6
          refine ro_iinc (v := v4 + 1) (L' := [(4, .int (v4 + 1)), (5, .int q2), (0, .ref (ro_ad (kG K) 69)), (1, .int v1), (2, .int v2), (3, .int v3)]) hK 5 rfl dX6_firstBest_51 rfl (by decide) rfl ?_
          refine ro_goto hK 7 dX6_firstBest_54 (by decide) ?_
          refine ro_sub (L' := [(0, .ref (ro_ad (kG K) 69)), (1, .int v1), (2, .int v2), (3, .int v3), (4, .int (v4 + 1))]) [2, 3, 4, 5, 0] rfl ?_
          exact hrec (v2, v3, v4 + 1) _ hf hq
        · have hf := ro_ie hf c6
          refine ro_iload hK 5 rfl dX6_firstBest_45 ?_
          refine ro_istore_n (L' := [(2, .int v4), (5, .int q2), (0, .ref (ro_ad (kG K) 69)), (1, .int v1), (3, .int v3), (4, .int v4)]) hK dX6_firstBest_47 rfl (by decide) rfl ?_
          refine ro_iload hK 1 rfl dX6_firstBest_48 ?_
          refine ro_istore_n (L' := [(3, .int q2), (2, .int v4), (5, .int q2), (0, .ref (ro_ad (kG K) 69)), (1, .int v1), (4, .int v4)]) hK dX6_firstBest_50 rfl (by decide) rfl ?_
          refine ro_iinc (v := v4 + 1) (L' := [(4, .int (v4 + 1)), (3, .int q2), (2, .int v4), (5, .int q2), (0, .ref (ro_ad (kG K) 69)), (1, .int v1)]) hK 5 rfl dX6_firstBest_51 rfl (by decide) rfl ?_
          refine ro_goto hK 7 dX6_firstBest_54 (by decide) ?_
          refine ro_sub (L' := [(0, .ref (ro_ad (kG K) 69)), (1, .int v1), (2, .int v4), (3, .int q2), (4, .int (v4 + 1))]) [4, 5, 2, 1, 0] rfl ?_
          exact hrec (v4, q2, v4 + 1) _ hf hq
def fl_X6_firstBest_7 (v1 : Int32) (μ : ro_Mem) : (Int32 × Int32 × Int32) → Option Int32 :=
  ro_loop (fun rec s => fb_X6_firstBest_7 v1 μ rec s.1 s.2.1 s.2.2) ro_FU
theorem lp_X6_firstBest_7 {K : ro_K} (hK : ro_C K RX6 cX6_firstBest 6 2) (hR : ro_R K (some .int)) {v1 : Int32}  {μ : ro_Mem} {s : Int32 × Int32 × Int32} {q : Int32} (hf : fl_X6_firstBest_7 v1 μ s = some q) (hq : ok_X6_firstBest_7 K v1 μ q) : ro_X K 7 [(0, .ref (ro_ad (kG K) 69)), (1, .int v1), (2, .int s.1), (3, .int s.2.1), (4, .int s.2.2)] [] μ :=
  ro_loopX (b := fun rec s => fb_X6_firstBest_7 v1 μ rec s.1 s.2.1 s.2.2) (X := fun s => ro_X K 7 [(0, .ref (ro_ad (kG K) 69)), (1, .int v1), (2, .int s.1), (3, .int s.2.1), (4, .int s.2.2)] [] μ) (OK := ok_X6_firstBest_7 K v1 μ) (fun rec s q hrec hb ho => bb_X6_firstBest_7 hK hR  hrec hb ho) ro_FU s q hf hq
def fn_X6_firstBest (v1 : Int32) (μ : ro_Mem) : Option Int32 :=
  (fl_X6_firstBest_7 v1 μ ((-1), 0, 0)).bind fun q7 =>
  some (ro_mx 0 q7)
theorem be_X6_firstBest {K : ro_K} (hK : ro_C K RX6 cX6_firstBest 6 2) (hR : ro_R K (some .int)) {v1 : Int32}  {μ : ro_Mem} {out : Int32} (hf : fn_X6_firstBest v1 μ = some out) (hq : kQ K (some (.int out)) μ) : ro_X K 0 [(0, .ref (ro_ad (kG K) 69)), (1, .int v1)] [] μ := by
  unfold fn_X6_firstBest at hf
  refine ro_iconst (v := (-1)) hK dX6_firstBest_0 (by decide) ?_
  refine ro_istore_n (L' := [(2, .int (-1)), (0, .ref (ro_ad (kG K) 69)), (1, .int v1)]) hK dX6_firstBest_1 rfl (by decide) rfl ?_
  refine ro_iconst (v := 0) hK dX6_firstBest_2 (by decide) ?_
  refine ro_istore_n (L' := [(3, .int 0), (2, .int (-1)), (0, .ref (ro_ad (kG K) 69)), (1, .int v1)]) hK dX6_firstBest_3 rfl (by decide) rfl ?_
  refine ro_iconst (v := 0) hK dX6_firstBest_4 (by decide) ?_
  refine ro_istore (L' := [(4, .int 0), (3, .int 0), (2, .int (-1)), (0, .ref (ro_ad (kG K) 69)), (1, .int v1)]) hK dX6_firstBest_5 (by decide) rfl ?_
  obtain ⟨q7, e8, hf⟩ := ro_bd hf
  refine ro_sub (L' := [(0, .ref (ro_ad (kG K) 69)), (1, .int v1), (2, .int (-1)), (3, .int 0), (4, .int 0)]) [3, 4, 2, 1, 0] rfl ?_
  refine lp_X6_firstBest_7 hK hR  e8 ?_
  show ro_X K 57 [(2, .int q7)] [] μ
  refine ro_iconst (v := 0) hK dX6_firstBest_57 (by decide) ?_
  refine ro_iload_n hK 0 rfl dX6_firstBest_58 rfl ?_
  refine ro_mmax hK ml_X6_53 (by decide) (Nat.le_of_ble_eq_true rfl) dX6_firstBest_59 ?_
  obtain rfl := Option.some.inj hf
  exact ro_iret hK hR dX6_firstBest_62 hq
theorem mt_X6_firstBest (l : Launch) (G : ro_G) {v1 : Int32}  {μ : ro_Mem} {out : Int32} (hf : fn_X6_firstBest v1 μ = some out) : ro_MX l G yX6_firstBest cX6_firstBest 6 (some .int) 2 [.ref (ro_ad G 69), .int v1] μ (some (.int out)) μ := by
  refine ro_MX.of (by decide +kernel) (Nat.le_of_ble_eq_true rfl) (fun K hG hl hq hK hR => ?_)
  subst hG
  exact be_X6_firstBest hK hR  hf hq
