-- ===== X11_guest =====
theorem dX11_guest_0 : decode cX11_guest 0 = .ok (.iload_n 1, 1) := by decide +kernel
theorem dX11_guest_1 : decode cX11_guest 1 = .ok (.ifCond .lt 20, 3) := by decide +kernel
theorem dX11_guest_4 : decode cX11_guest 4 = .ok (.iload_n 1, 1) := by decide +kernel
theorem dX11_guest_5 : decode cX11_guest 5 = .ok (.bipush 10, 2) := by decide +kernel
theorem dX11_guest_7 : decode cX11_guest 7 = .ok (.if_icmp .ge 14, 3) := by decide +kernel
theorem dX11_guest_10 : decode cX11_guest 10 = .ok (.iload_n 2, 1) := by decide +kernel
theorem dX11_guest_11 : decode cX11_guest 11 = .ok (.iconst 1, 1) := by decide +kernel
theorem dX11_guest_12 : decode cX11_guest 12 = .ok (.if_icmp .lt 9, 3) := by decide +kernel
theorem dX11_guest_15 : decode cX11_guest 15 = .ok (.iload_n 2, 1) := by decide +kernel
theorem dX11_guest_16 : decode cX11_guest 16 = .ok (.bipush 99, 2) := by decide +kernel
theorem dX11_guest_18 : decode cX11_guest 18 = .ok (.if_icmp .le 5, 3) := by decide +kernel
theorem dX11_guest_21 : decode cX11_guest 21 = .ok (.iconst 0, 1) := by decide +kernel
theorem dX11_guest_22 : decode cX11_guest 22 = .ok (.ireturn, 1) := by decide +kernel
theorem dX11_guest_23 : decode cX11_guest 23 = .ok (.aload_n 0, 1) := by decide +kernel
theorem dX11_guest_24 : decode cX11_guest 24 = .ok (.getfield 10, 3) := by decide +kernel
theorem dX11_guest_27 : decode cX11_guest 27 = .ok (.getfield 89, 3) := by decide +kernel
theorem dX11_guest_30 : decode cX11_guest 30 = .ok (.iload_n 1, 1) := by decide +kernel
theorem dX11_guest_31 : decode cX11_guest 31 = .ok (.iload_n 2, 1) := by decide +kernel
theorem dX11_guest_32 : decode cX11_guest 32 = .ok (.invokevirtual 121, 3) := by decide +kernel
theorem dX11_guest_35 : decode cX11_guest 35 = .ok (.iconst 1, 1) := by decide +kernel
theorem dX11_guest_36 : decode cX11_guest 36 = .ok (.ireturn, 1) := by decide +kernel
def fn_X11_guest (v1 : Int32) (v2 : Int32) (μ : ro_Mem) : Option (Int32 × ro_Mem) :=
  if v1 < 0 then
  (some (0, μ))
  else
  (if 10 ≤ v1 then
  (some (0, μ))
  else
  (if v2 < 1 then
  (some (0, μ))
  else
  (if v2 ≤ 99 then
  ((fn_X1_putGuest 2 v1 v2 μ).bind fun q5 =>
  some (1, q5))
  else
  (some (0, μ)))))
theorem be_X11_guest {K : ro_K} (hK : ro_C K RX11 cX11_guest 3 1) (hR : ro_R K (some .boolean)) {v1 : Int32} {v2 : Int32}  {μ : ro_Mem} {out : Int32 × ro_Mem} (hf : fn_X11_guest v1 v2 μ = some out) (hq : kQ K (some (.int out.1)) out.2) : ro_X K 0 [(0, .ref (ro_ad (kG K) 0)), (1, .int v1), (2, .int v2)] [] μ := by
  unfold fn_X11_guest at hf
  refine ro_iload_n hK 1 rfl dX11_guest_0 rfl ?_
  refine ro_if_lt hK 21 dX11_guest_1 (by decide) (fun c1 => ?_) (fun c1 => ?_)
  · have hf := ro_it hf c1
    refine ro_iconst (v := 0) hK dX11_guest_21 (by decide) ?_
    obtain rfl := Option.some.inj hf
    exact ro_zret hK hR dX11_guest_22 (by decide) hq
  · have hf := ro_ie hf c1
    refine ro_iload_n hK 1 rfl dX11_guest_4 rfl ?_
    refine ro_bipush (v := 10) hK dX11_guest_5 (by decide) ?_
    refine ro_icmp_ge hK 21 dX11_guest_7 (by decide) (fun c2 => ?_) (fun c2 => ?_)
    · have hf := ro_it hf c2
      refine ro_iconst (v := 0) hK dX11_guest_21 (by decide) ?_
      obtain rfl := Option.some.inj hf
      exact ro_zret hK hR dX11_guest_22 (by decide) hq
    · have hf := ro_ie hf c2
      refine ro_iload_n hK 2 rfl dX11_guest_10 rfl ?_
      refine ro_iconst (v := 1) hK dX11_guest_11 (by decide) ?_
      refine ro_icmp_lt hK 21 dX11_guest_12 (by decide) (fun c3 => ?_) (fun c3 => ?_)
      · have hf := ro_it hf c3
        refine ro_iconst (v := 0) hK dX11_guest_21 (by decide) ?_
        obtain rfl := Option.some.inj hf
        exact ro_zret hK hR dX11_guest_22 (by decide) hq
      · have hf := ro_ie hf c3
        refine ro_iload_n hK 2 rfl dX11_guest_15 rfl ?_
        refine ro_bipush (v := 99) hK dX11_guest_16 (by decide) ?_
        refine ro_icmp_le hK 23 dX11_guest_18 (by decide) (fun c4 => ?_) (fun c4 => ?_)
        · have hf := ro_it hf c4
          refine ro_aload_n hK 0 rfl dX11_guest_23 rfl ?_
          refine ro_getr hK fl_X11_10 sh_0 dX11_guest_24 ?_
          refine ro_getr hK fl_X11_89 sh_1 dX11_guest_27 ?_
          refine ro_iload_n hK 1 rfl dX11_guest_30 rfl ?_
          refine ro_iload_n hK 2 rfl dX11_guest_31 rfl ?_
          obtain ⟨q5, e6, hf⟩ := ro_bd hf
          refine ro_callvv hK [.int v1, .int v2] ml_X11_121 mv_X1_putGuest (mt_X1_putGuest (kl K) (kG K) sh_2 e6) sh_2 ⟨_, rfl, rfl⟩ (by decide) rfl rfl (Nat.le_of_ble_eq_true rfl) dX11_guest_32 ?_
          refine ro_iconst (v := 1) hK dX11_guest_35 (by decide) ?_
          obtain rfl := Option.some.inj hf
          exact ro_zret hK hR dX11_guest_36 (by decide) hq
        · have hf := ro_ie hf c4
          refine ro_iconst (v := 0) hK dX11_guest_21 (by decide) ?_
          obtain rfl := Option.some.inj hf
          exact ro_zret hK hR dX11_guest_22 (by decide) hq
theorem mt_X11_guest (l : Launch) (G : ro_G) {v1 : Int32} {v2 : Int32}  {μ : ro_Mem} {out : Int32 × ro_Mem} (hf : fn_X11_guest v1 v2 μ = some out) : ro_MX l G yX11_guest cX11_guest 3 (some .boolean) 1 [.ref (ro_ad G 0), .int v1, .int v2] μ (some (.int out.1)) out.2 := by
  refine ro_MX.of (by decide +kernel) (Nat.le_of_ble_eq_true rfl) (fun K hG hl hq hK hR => ?_)
  subst hG
  exact be_X11_guest hK hR  hf hq
-- ===== X11_sits =====
theorem dX11_sits_0 : decode cX11_sits 0 = .ok (.aload_n 0, 1) := by decide +kernel
theorem dX11_sits_1 : decode cX11_sits 1 = .ok (.getfield 10, 3) := by decide +kernel
theorem dX11_sits_4 : decode cX11_sits 4 = .ok (.getfield 89, 3) := by decide +kernel
theorem dX11_sits_7 : decode cX11_sits 7 = .ok (.astore 5, 2) := by decide +kernel
theorem dX11_sits_9 : decode cX11_sits 9 = .ok (.iload_n 3, 1) := by decide +kernel
theorem dX11_sits_10 : decode cX11_sits 10 = .ok (.iconst (-1), 1) := by decide +kernel
theorem dX11_sits_11 : decode cX11_sits 11 = .ok (.if_icmp .ne 9, 3) := by decide +kernel
theorem dX11_sits_14 : decode cX11_sits 14 = .ok (.sipush 255, 3) := by decide +kernel
theorem dX11_sits_17 : decode cX11_sits 17 = .ok (.goto 9, 3) := by decide +kernel
theorem dX11_sits_20 : decode cX11_sits 20 = .ok (.iload_n 3, 1) := by decide +kernel
theorem dX11_sits_21 : decode cX11_sits 21 = .ok (.iload 4, 2) := by decide +kernel
theorem dX11_sits_23 : decode cX11_sits 23 = .ok (.invokestatic 85, 3) := by decide +kernel
theorem dX11_sits_26 : decode cX11_sits 26 = .ok (.istore 6, 2) := by decide +kernel
theorem dX11_sits_28 : decode cX11_sits 28 = .ok (.aload 5, 2) := by decide +kernel
theorem dX11_sits_30 : decode cX11_sits 30 = .ok (.iload_n 1, 1) := by decide +kernel
theorem dX11_sits_31 : decode cX11_sits 31 = .ok (.invokevirtual 125, 3) := by decide +kernel
theorem dX11_sits_34 : decode cX11_sits 34 = .ok (.ifCond .eq 16, 3) := by decide +kernel
theorem dX11_sits_37 : decode cX11_sits 37 = .ok (.iload_n 2, 1) := by decide +kernel
theorem dX11_sits_38 : decode cX11_sits 38 = .ok (.invokestatic 115, 3) := by decide +kernel
theorem dX11_sits_41 : decode cX11_sits 41 = .ok (.ifCond .eq 9, 3) := by decide +kernel
theorem dX11_sits_44 : decode cX11_sits 44 = .ok (.iload 6, 2) := by decide +kernel
theorem dX11_sits_46 : decode cX11_sits 46 = .ok (.iconst (-1), 1) := by decide +kernel
theorem dX11_sits_47 : decode cX11_sits 47 = .ok (.if_icmp .ne 5, 3) := by decide +kernel
theorem dX11_sits_50 : decode cX11_sits 50 = .ok (.iconst 0, 1) := by decide +kernel
theorem dX11_sits_51 : decode cX11_sits 51 = .ok (.ireturn, 1) := by decide +kernel
theorem dX11_sits_52 : decode cX11_sits 52 = .ok (.aload 5, 2) := by decide +kernel
theorem dX11_sits_54 : decode cX11_sits 54 = .ok (.iload_n 2, 1) := by decide +kernel
theorem dX11_sits_55 : decode cX11_sits 55 = .ok (.iload 6, 2) := by decide +kernel
theorem dX11_sits_57 : decode cX11_sits 57 = .ok (.invokevirtual 128, 3) := by decide +kernel
theorem dX11_sits_60 : decode cX11_sits 60 = .ok (.istore 7, 2) := by decide +kernel
theorem dX11_sits_62 : decode cX11_sits 62 = .ok (.iload 7, 2) := by decide +kernel
theorem dX11_sits_64 : decode cX11_sits 64 = .ok (.iconst (-1), 1) := by decide +kernel
theorem dX11_sits_65 : decode cX11_sits 65 = .ok (.if_icmp .eq 11, 3) := by decide +kernel
theorem dX11_sits_68 : decode cX11_sits 68 = .ok (.iload 7, 2) := by decide +kernel
theorem dX11_sits_70 : decode cX11_sits 70 = .ok (.iload_n 1, 1) := by decide +kernel
theorem dX11_sits_71 : decode cX11_sits 71 = .ok (.if_icmp .eq 5, 3) := by decide +kernel
theorem dX11_sits_74 : decode cX11_sits 74 = .ok (.iconst 0, 1) := by decide +kernel
theorem dX11_sits_75 : decode cX11_sits 75 = .ok (.ireturn, 1) := by decide +kernel
theorem dX11_sits_76 : decode cX11_sits 76 = .ok (.aload 5, 2) := by decide +kernel
theorem dX11_sits_78 : decode cX11_sits 78 = .ok (.getfield 131, 3) := by decide +kernel
theorem dX11_sits_81 : decode cX11_sits 81 = .ok (.iload_n 2, 1) := by decide +kernel
theorem dX11_sits_82 : decode cX11_sits 82 = .ok (.bipush 10, 2) := by decide +kernel
theorem dX11_sits_84 : decode cX11_sits 84 = .ok (.imul, 1) := by decide +kernel
theorem dX11_sits_85 : decode cX11_sits 85 = .ok (.iload_n 1, 1) := by decide +kernel
theorem dX11_sits_86 : decode cX11_sits 86 = .ok (.iadd, 1) := by decide +kernel
theorem dX11_sits_87 : decode cX11_sits 87 = .ok (.iload 6, 2) := by decide +kernel
theorem dX11_sits_89 : decode cX11_sits 89 = .ok (.iastore, 1) := by decide +kernel
theorem dX11_sits_90 : decode cX11_sits 90 = .ok (.iconst 1, 1) := by decide +kernel
theorem dX11_sits_91 : decode cX11_sits 91 = .ok (.ireturn, 1) := by decide +kernel
def fj_X11_sits_76 (v1 : Int32) (v2 : Int32) (v6 : Int32) (μ : ro_Mem) : Option (Int32 × ro_Mem) :=
  if ro_in ((v2 * 10) + v1) 40 then
  (ro_lt (ro_set μ 11 ((v2 * 10) + v1).toNatClampNeg v6) fun m15 =>
  some (1, m15)) else none
theorem bj_X11_sits_76 {K : ro_K} (hK : ro_C K RX11 cX11_sits 8 1) (hR : ro_R K (some .boolean)) {v1 : Int32} {v2 : Int32} {v6 : Int32}   {μ : ro_Mem}  {out : Int32 × ro_Mem} (hf : fj_X11_sits_76 v1 v2 v6 μ = some out) (hq : kQ K (some (.int out.1)) out.2) : ro_X K 76 [(1, .int v1), (2, .int v2), (5, .ref (ro_ad (kG K) 2)), (6, .int v6)] [] μ := by
  unfold fj_X11_sits_76 at hf
  refine ro_aload hK 2 rfl dX11_sits_76 ?_
  refine ro_getr hK fl_X11_131 sh_2 dX11_sits_78 ?_
  refine ro_iload_n hK 1 rfl dX11_sits_81 rfl ?_
  refine ro_bipush (v := 10) hK dX11_sits_82 (by decide) ?_
  refine ro_imul hK dX11_sits_84 ?_
  refine ro_iload_n hK 0 rfl dX11_sits_85 rfl ?_
  refine ro_iadd hK dX11_sits_86 ?_
  refine ro_iload hK 3 rfl dX11_sits_87 ?_
  obtain ⟨g14, hf⟩ := ro_gd hf
  obtain ⟨m15, e16, hf⟩ := ro_ld hf
  refine ro_iast hK sh_11 g14 dX11_sits_89 ?_
  refine ro_mv e16 ?_
  refine ro_iconst (v := 1) hK dX11_sits_90 (by decide) ?_
  obtain rfl := Option.some.inj hf
  exact ro_zret hK hR dX11_sits_91 (by decide) hq
def fj_X11_sits_26 (v1 : Int32) (v2 : Int32) (t0 : Int32) (μ : ro_Mem) : Option (Int32 × ro_Mem) :=
  (fn_X1_isGuest 2 v1 μ).bind fun q4 =>
  if q4 = 0 then
  (some (0, μ))
  else
  ((fn_X11_isAct v2).bind fun q7 =>
  if q7 = 0 then
  (some (0, μ))
  else
  (if t0 = (-1) then
  (some (0, μ))
  else
  ((fn_X1_guestOn 2 v2 t0 μ).bind fun q11 =>
  if q11 = (-1) then
  (fj_X11_sits_76 v1 v2 t0 μ)
  else
  (if q11 = v1 then
  (fj_X11_sits_76 v1 v2 t0 μ)
  else
  (some (0, μ))))))
theorem bj_X11_sits_26 {K : ro_K} (hK : ro_C K RX11 cX11_sits 8 1) (hR : ro_R K (some .boolean)) {v1 : Int32} {v2 : Int32} {t0 : Int32}   {μ : ro_Mem}  {out : Int32 × ro_Mem} (hf : fj_X11_sits_26 v1 v2 t0 μ = some out) (hq : kQ K (some (.int out.1)) out.2) : ro_X K 26 [(1, .int v1), (2, .int v2), (5, .ref (ro_ad (kG K) 2))] [.int t0] μ := by
  unfold fj_X11_sits_26 at hf
  refine ro_istore (L' := [(6, .int t0), (1, .int v1), (2, .int v2), (5, .ref (ro_ad (kG K) 2))]) hK dX11_sits_26 (by decide) rfl ?_
  refine ro_aload hK 3 rfl dX11_sits_28 ?_
  refine ro_iload_n hK 1 rfl dX11_sits_30 rfl ?_
  obtain ⟨q4, e5, hf⟩ := ro_bd hf
  refine ro_callvi hK [.int v1] ml_X11_125 mv_X1_isGuest (mt_X1_isGuest (kl K) (kG K) sh_2 e5) sh_2 ⟨_, rfl, rfl⟩ (by decide) rfl rfl (Nat.le_of_ble_eq_true rfl) dX11_sits_31 ?_
  refine ro_if_eq hK 50 dX11_sits_34 (by decide) (fun c6 => ?_) (fun c6 => ?_)
  · have hf := ro_it hf c6
    refine ro_iconst (v := 0) hK dX11_sits_50 (by decide) ?_
    obtain rfl := Option.some.inj hf
    exact ro_zret hK hR dX11_sits_51 (by decide) hq
  · have hf := ro_ie hf c6
    refine ro_iload_n hK 2 rfl dX11_sits_37 rfl ?_
    obtain ⟨q7, e8, hf⟩ := ro_bd hf
    refine ro_callsi hK [.int v2] ml_X11_115 ms_X11_isAct (mt_X11_isAct (kl K) (kG K)  e8) (by decide) rfl rfl (Nat.le_of_ble_eq_true rfl) dX11_sits_38 ?_
    refine ro_if_eq hK 50 dX11_sits_41 (by decide) (fun c9 => ?_) (fun c9 => ?_)
    · have hf := ro_it hf c9
      refine ro_iconst (v := 0) hK dX11_sits_50 (by decide) ?_
      obtain rfl := Option.some.inj hf
      exact ro_zret hK hR dX11_sits_51 (by decide) hq
    · have hf := ro_ie hf c9
      refine ro_iload hK 0 rfl dX11_sits_44 ?_
      refine ro_iconst (v := (-1)) hK dX11_sits_46 (by decide) ?_
      refine ro_icmp_ne hK 52 dX11_sits_47 (by decide) (fun c10 => ?_) (fun c10 => ?_)
      · have hf := ro_ie hf c10
        refine ro_aload hK 3 rfl dX11_sits_52 ?_
        refine ro_iload_n hK 2 rfl dX11_sits_54 rfl ?_
        refine ro_iload hK 0 rfl dX11_sits_55 ?_
        obtain ⟨q11, e12, hf⟩ := ro_bd hf
        refine ro_callvi hK [.int v2, .int t0] ml_X11_128 mv_X1_guestOn (mt_X1_guestOn (kl K) (kG K) sh_2 e12) sh_2 ⟨_, rfl, rfl⟩ (by decide) rfl rfl (Nat.le_of_ble_eq_true rfl) dX11_sits_57 ?_
        refine ro_istore (L' := [(7, .int q11), (6, .int t0), (1, .int v1), (2, .int v2), (5, .ref (ro_ad (kG K) 2))]) hK dX11_sits_60 (by decide) rfl ?_
        refine ro_iload hK 0 rfl dX11_sits_62 ?_
        refine ro_iconst (v := (-1)) hK dX11_sits_64 (by decide) ?_
        refine ro_icmp_eq hK 76 dX11_sits_65 (by decide) (fun c13 => ?_) (fun c13 => ?_)
        · have hf := ro_it hf c13
          refine ro_sub (L' := [(1, .int v1), (2, .int v2), (5, .ref (ro_ad (kG K) 2)), (6, .int t0)]) [2, 3, 4, 1] rfl ?_
          exact bj_X11_sits_76 hK hR  hf hq
        · have hf := ro_ie hf c13
          refine ro_iload hK 0 rfl dX11_sits_68 ?_
          refine ro_iload_n hK 2 rfl dX11_sits_70 rfl ?_
          refine ro_icmp_eq hK 76 dX11_sits_71 (by decide) (fun c17 => ?_) (fun c17 => ?_)
          · have hf := ro_it hf c17
            refine ro_sub (L' := [(1, .int v1), (2, .int v2), (5, .ref (ro_ad (kG K) 2)), (6, .int t0)]) [2, 3, 4, 1] rfl ?_
            exact bj_X11_sits_76 hK hR  hf hq
          · have hf := ro_ie hf c17
            refine ro_iconst (v := 0) hK dX11_sits_74 (by decide) ?_
            obtain rfl := Option.some.inj hf
            exact ro_zret hK hR dX11_sits_75 (by decide) hq
      · have hf := ro_it hf c10
        refine ro_iconst (v := 0) hK dX11_sits_50 (by decide) ?_
        obtain rfl := Option.some.inj hf
        exact ro_zret hK hR dX11_sits_51 (by decide) hq
def fn_X11_sits (v1 : Int32) (v2 : Int32) (v3 : Int32) (v4 : Int32) (μ : ro_Mem) : Option (Int32 × ro_Mem) :=
  if v3 = (-1) then
  (fj_X11_sits_26 v1 v2 255 μ)
  else
  ((fn_X11_seatNumber v3 v4).bind fun q2 =>
  fj_X11_sits_26 v1 v2 q2 μ)
theorem be_X11_sits {K : ro_K} (hK : ro_C K RX11 cX11_sits 8 1) (hR : ro_R K (some .boolean)) {v1 : Int32} {v2 : Int32} {v3 : Int32} {v4 : Int32}  {μ : ro_Mem} {out : Int32 × ro_Mem} (hf : fn_X11_sits v1 v2 v3 v4 μ = some out) (hq : kQ K (some (.int out.1)) out.2) : ro_X K 0 [(0, .ref (ro_ad (kG K) 0)), (1, .int v1), (2, .int v2), (3, .int v3), (4, .int v4)] [] μ := by
  unfold fn_X11_sits at hf
  refine ro_aload_n hK 0 rfl dX11_sits_0 rfl ?_
  refine ro_getr hK fl_X11_10 sh_0 dX11_sits_1 ?_
  refine ro_getr hK fl_X11_89 sh_1 dX11_sits_4 ?_
  refine ro_astore (L' := [(5, .ref (ro_ad (kG K) 2)), (0, .ref (ro_ad (kG K) 0)), (1, .int v1), (2, .int v2), (3, .int v3), (4, .int v4)]) hK dX11_sits_7 (by decide) rfl ?_
  refine ro_iload_n hK 4 rfl dX11_sits_9 rfl ?_
  refine ro_iconst (v := (-1)) hK dX11_sits_10 (by decide) ?_
  refine ro_icmp_ne hK 20 dX11_sits_11 (by decide) (fun c1 => ?_) (fun c1 => ?_)
  · have hf := ro_ie hf c1
    refine ro_iload_n hK 4 rfl dX11_sits_20 rfl ?_
    refine ro_iload hK 5 rfl dX11_sits_21 ?_
    obtain ⟨q2, e3, hf⟩ := ro_bd hf
    refine ro_callsi hK [.int v3, .int v4] ml_X11_85 ms_X11_seatNumber (mt_X11_seatNumber (kl K) (kG K)  e3) (by decide) rfl rfl (Nat.le_of_ble_eq_true rfl) dX11_sits_23 ?_
    refine ro_sub (L' := [(1, .int v1), (2, .int v2), (5, .ref (ro_ad (kG K) 2))]) [2, 3, 0] rfl ?_
    exact bj_X11_sits_26 hK hR  hf hq
  · have hf := ro_it hf c1
    refine ro_sipush (v := 255) hK dX11_sits_14 (by decide) ?_
    refine ro_goto hK 26 dX11_sits_17 (by decide) ?_
    refine ro_sub (L' := [(1, .int v1), (2, .int v2), (5, .ref (ro_ad (kG K) 2))]) [2, 3, 0] rfl ?_
    exact bj_X11_sits_26 hK hR  hf hq
theorem mt_X11_sits (l : Launch) (G : ro_G) {v1 : Int32} {v2 : Int32} {v3 : Int32} {v4 : Int32}  {μ : ro_Mem} {out : Int32 × ro_Mem} (hf : fn_X11_sits v1 v2 v3 v4 μ = some out) : ro_MX l G yX11_sits cX11_sits 8 (some .boolean) 1 [.ref (ro_ad G 0), .int v1, .int v2, .int v3, .int v4] μ (some (.int out.1)) out.2 := by
  refine ro_MX.of (by decide +kernel) (Nat.le_of_ble_eq_true rfl) (fun K hG hl hq hK hR => ?_)
  subst hG
  exact be_X11_sits hK hR  hf hq
-- ===== X11_feed =====
theorem dX11_feed_0 : decode cX11_feed 0 = .ok (.aload_n 0, 1) := by decide +kernel
theorem dX11_feed_1 : decode cX11_feed 1 = .ok (.getfield 40, 3) := by decide +kernel
theorem dX11_feed_4 : decode cX11_feed 4 = .ok (.getfield 134, 3) := by decide +kernel
theorem dX11_feed_7 : decode cX11_feed 7 = .ok (.bipush 20, 2) := by decide +kernel
theorem dX11_feed_9 : decode cX11_feed 9 = .ok (.iadd, 1) := by decide +kernel
theorem dX11_feed_10 : decode cX11_feed 10 = .ok (.sipush 220, 3) := by decide +kernel
theorem dX11_feed_13 : decode cX11_feed 13 = .ok (.if_icmp .le 5, 3) := by decide +kernel
theorem dX11_feed_16 : decode cX11_feed 16 = .ok (.iconst (-1), 1) := by decide +kernel
theorem dX11_feed_17 : decode cX11_feed 17 = .ok (.ireturn, 1) := by decide +kernel
theorem dX11_feed_18 : decode cX11_feed 18 = .ok (.aload_n 0, 1) := by decide +kernel
theorem dX11_feed_19 : decode cX11_feed 19 = .ok (.getfield 40, 3) := by decide +kernel
theorem dX11_feed_22 : decode cX11_feed 22 = .ok (.iload_n 1, 1) := by decide +kernel
theorem dX11_feed_23 : decode cX11_feed 23 = .ok (.invokevirtual 137, 3) := by decide +kernel
theorem dX11_feed_26 : decode cX11_feed 26 = .ok (.aload_n 0, 1) := by decide +kernel
theorem dX11_feed_27 : decode cX11_feed 27 = .ok (.getfield 40, 3) := by decide +kernel
theorem dX11_feed_30 : decode cX11_feed 30 = .ok (.iload_n 2, 1) := by decide +kernel
theorem dX11_feed_31 : decode cX11_feed 31 = .ok (.invokevirtual 137, 3) := by decide +kernel
theorem dX11_feed_34 : decode cX11_feed 34 = .ok (.aload_n 0, 1) := by decide +kernel
theorem dX11_feed_35 : decode cX11_feed 35 = .ok (.getfield 40, 3) := by decide +kernel
theorem dX11_feed_38 : decode cX11_feed 38 = .ok (.iload_n 3, 1) := by decide +kernel
theorem dX11_feed_39 : decode cX11_feed 39 = .ok (.invokevirtual 137, 3) := by decide +kernel
theorem dX11_feed_42 : decode cX11_feed 42 = .ok (.aload_n 0, 1) := by decide +kernel
theorem dX11_feed_43 : decode cX11_feed 43 = .ok (.getfield 40, 3) := by decide +kernel
theorem dX11_feed_46 : decode cX11_feed 46 = .ok (.iload 4, 2) := by decide +kernel
theorem dX11_feed_48 : decode cX11_feed 48 = .ok (.invokevirtual 137, 3) := by decide +kernel
theorem dX11_feed_51 : decode cX11_feed 51 = .ok (.aload_n 0, 1) := by decide +kernel
theorem dX11_feed_52 : decode cX11_feed 52 = .ok (.getfield 40, 3) := by decide +kernel
theorem dX11_feed_55 : decode cX11_feed 55 = .ok (.iload 5, 2) := by decide +kernel
theorem dX11_feed_57 : decode cX11_feed 57 = .ok (.invokevirtual 137, 3) := by decide +kernel
theorem dX11_feed_60 : decode cX11_feed 60 = .ok (.aload_n 0, 1) := by decide +kernel
theorem dX11_feed_61 : decode cX11_feed 61 = .ok (.getfield 40, 3) := by decide +kernel
theorem dX11_feed_64 : decode cX11_feed 64 = .ok (.getfield 134, 3) := by decide +kernel
theorem dX11_feed_67 : decode cX11_feed 67 = .ok (.ireturn, 1) := by decide +kernel
def fn_X11_feed (v1 : Int32) (v2 : Int32) (v3 : Int32) (v4 : Int32) (v5 : Int32) (μ : ro_Mem) : Option (Int32 × ro_Mem) :=
  if ((μ 60 1) + 20) ≤ 220 then
  ((fn_X8_append v1 μ).bind fun q2 =>
  (fn_X8_append v2 q2).bind fun q4 =>
  (fn_X8_append v3 q4).bind fun q6 =>
  (fn_X8_append v4 q6).bind fun q8 =>
  (fn_X8_append v5 q8).bind fun q10 =>
  some (q10 60 1, q10))
  else
  (some ((-1), μ))
theorem be_X11_feed {K : ro_K} (hK : ro_C K RX11 cX11_feed 6 1) (hR : ro_R K (some .int)) {v1 : Int32} {v2 : Int32} {v3 : Int32} {v4 : Int32} {v5 : Int32}  {μ : ro_Mem} {out : Int32 × ro_Mem} (hf : fn_X11_feed v1 v2 v3 v4 v5 μ = some out) (hq : kQ K (some (.int out.1)) out.2) : ro_X K 0 [(0, .ref (ro_ad (kG K) 0)), (1, .int v1), (2, .int v2), (3, .int v3), (4, .int v4), (5, .int v5)] [] μ := by
  unfold fn_X11_feed at hf
  refine ro_aload_n hK 0 rfl dX11_feed_0 rfl ?_
  refine ro_getr hK fl_X11_40 sh_0 dX11_feed_1 ?_
  refine ro_geti hK fl_X11_134 sh_60 dX11_feed_4 ?_
  refine ro_bipush (v := 20) hK dX11_feed_7 (by decide) ?_
  refine ro_iadd hK dX11_feed_9 ?_
  refine ro_sipush (v := 220) hK dX11_feed_10 (by decide) ?_
  refine ro_icmp_le hK 18 dX11_feed_13 (by decide) (fun c1 => ?_) (fun c1 => ?_)
  · have hf := ro_it hf c1
    refine ro_aload_n hK 0 rfl dX11_feed_18 rfl ?_
    refine ro_getr hK fl_X11_40 sh_0 dX11_feed_19 ?_
    refine ro_iload_n hK 1 rfl dX11_feed_22 rfl ?_
    obtain ⟨q2, e3, hf⟩ := ro_bd hf
    refine ro_callvv hK [.int v1] ml_X11_137 mv_X8_append (mt_X8_append (kl K) (kG K)  e3) sh_60 ⟨_, rfl, rfl⟩ (by decide) rfl rfl (Nat.le_of_ble_eq_true rfl) dX11_feed_23 ?_
    refine ro_aload_n hK 0 rfl dX11_feed_26 rfl ?_
    refine ro_getr hK fl_X11_40 sh_0 dX11_feed_27 ?_
    refine ro_iload_n hK 2 rfl dX11_feed_30 rfl ?_
    obtain ⟨q4, e5, hf⟩ := ro_bd hf
    refine ro_callvv hK [.int v2] ml_X11_137 mv_X8_append (mt_X8_append (kl K) (kG K)  e5) sh_60 ⟨_, rfl, rfl⟩ (by decide) rfl rfl (Nat.le_of_ble_eq_true rfl) dX11_feed_31 ?_
    refine ro_aload_n hK 0 rfl dX11_feed_34 rfl ?_
    refine ro_getr hK fl_X11_40 sh_0 dX11_feed_35 ?_
    refine ro_iload_n hK 3 rfl dX11_feed_38 rfl ?_
    obtain ⟨q6, e7, hf⟩ := ro_bd hf
    refine ro_callvv hK [.int v3] ml_X11_137 mv_X8_append (mt_X8_append (kl K) (kG K)  e7) sh_60 ⟨_, rfl, rfl⟩ (by decide) rfl rfl (Nat.le_of_ble_eq_true rfl) dX11_feed_39 ?_
    refine ro_aload_n hK 0 rfl dX11_feed_42 rfl ?_
    refine ro_getr hK fl_X11_40 sh_0 dX11_feed_43 ?_
    refine ro_iload hK 4 rfl dX11_feed_46 ?_
    obtain ⟨q8, e9, hf⟩ := ro_bd hf
    refine ro_callvv hK [.int v4] ml_X11_137 mv_X8_append (mt_X8_append (kl K) (kG K)  e9) sh_60 ⟨_, rfl, rfl⟩ (by decide) rfl rfl (Nat.le_of_ble_eq_true rfl) dX11_feed_48 ?_
    refine ro_aload_n hK 0 rfl dX11_feed_51 rfl ?_
    refine ro_getr hK fl_X11_40 sh_0 dX11_feed_52 ?_
    refine ro_iload hK 5 rfl dX11_feed_55 ?_
    obtain ⟨q10, e11, hf⟩ := ro_bd hf
    refine ro_callvv hK [.int v5] ml_X11_137 mv_X8_append (mt_X8_append (kl K) (kG K)  e11) sh_60 ⟨_, rfl, rfl⟩ (by decide) rfl rfl (Nat.le_of_ble_eq_true rfl) dX11_feed_57 ?_
    refine ro_aload_n hK 0 rfl dX11_feed_60 rfl ?_
    refine ro_getr hK fl_X11_40 sh_0 dX11_feed_61 ?_
    refine ro_geti hK fl_X11_134 sh_60 dX11_feed_64 ?_
    obtain rfl := Option.some.inj hf
    exact ro_iret hK hR dX11_feed_67 hq
  · have hf := ro_ie hf c1
    refine ro_iconst (v := (-1)) hK dX11_feed_16 (by decide) ?_
    obtain rfl := Option.some.inj hf
    exact ro_iret hK hR dX11_feed_17 hq
theorem mt_X11_feed (l : Launch) (G : ro_G) {v1 : Int32} {v2 : Int32} {v3 : Int32} {v4 : Int32} {v5 : Int32}  {μ : ro_Mem} {out : Int32 × ro_Mem} (hf : fn_X11_feed v1 v2 v3 v4 v5 μ = some out) : ro_MX l G yX11_feed cX11_feed 6 (some .int) 1 [.ref (ro_ad G 0), .int v1, .int v2, .int v3, .int v4, .int v5] μ (some (.int out.1)) out.2 := by
  refine ro_MX.of (by decide +kernel) (Nat.le_of_ble_eq_true rfl) (fun K hG hl hq hK hR => ?_)
  subst hG
  exact be_X11_feed hK hR  hf hq
-- ===== X11_score =====
theorem dX11_score_0 : decode cX11_score 0 = .ok (.iload_n 1, 1) := by decide +kernel
theorem dX11_score_1 : decode cX11_score 1 = .ok (.iconst 1, 1) := by decide +kernel
theorem dX11_score_2 : decode cX11_score 2 = .ok (.if_icmp .lt 21, 3) := by decide +kernel
theorem dX11_score_5 : decode cX11_score 5 = .ok (.iload_n 1, 1) := by decide +kernel
theorem dX11_score_6 : decode cX11_score 6 = .ok (.sipush 200, 3) := by decide +kernel
theorem dX11_score_9 : decode cX11_score 9 = .ok (.if_icmp .gt 14, 3) := by decide +kernel
theorem dX11_score_12 : decode cX11_score 12 = .ok (.iload_n 1, 1) := by decide +kernel
theorem dX11_score_13 : decode cX11_score 13 = .ok (.aload_n 0, 1) := by decide +kernel
theorem dX11_score_14 : decode cX11_score 14 = .ok (.getfield 40, 3) := by decide +kernel
theorem dX11_score_17 : decode cX11_score 17 = .ok (.getfield 134, 3) := by decide +kernel
theorem dX11_score_20 : decode cX11_score 20 = .ok (.if_icmp .le 5, 3) := by decide +kernel
theorem dX11_score_23 : decode cX11_score 23 = .ok (.iconst (-1), 1) := by decide +kernel
theorem dX11_score_24 : decode cX11_score 24 = .ok (.ireturn, 1) := by decide +kernel
theorem dX11_score_25 : decode cX11_score 25 = .ok (.aload_n 0, 1) := by decide +kernel
theorem dX11_score_26 : decode cX11_score 26 = .ok (.getfield 40, 3) := by decide +kernel
theorem dX11_score_29 : decode cX11_score 29 = .ok (.iload_n 1, 1) := by decide +kernel
theorem dX11_score_30 : decode cX11_score 30 = .ok (.invokevirtual 140, 3) := by decide +kernel
theorem dX11_score_33 : decode cX11_score 33 = .ok (.aload_n 0, 1) := by decide +kernel
theorem dX11_score_34 : decode cX11_score 34 = .ok (.getfield 26, 3) := by decide +kernel
theorem dX11_score_37 : decode cX11_score 37 = .ok (.aload_n 0, 1) := by decide +kernel
theorem dX11_score_38 : decode cX11_score 38 = .ok (.getfield 40, 3) := by decide +kernel
theorem dX11_score_41 : decode cX11_score 41 = .ok (.invokevirtual 143, 3) := by decide +kernel
theorem dX11_score_44 : decode cX11_score 44 = .ok (.istore_n 2, 1) := by decide +kernel
theorem dX11_score_45 : decode cX11_score 45 = .ok (.aload_n 0, 1) := by decide +kernel
theorem dX11_score_46 : decode cX11_score 46 = .ok (.getfield 40, 3) := by decide +kernel
theorem dX11_score_49 : decode cX11_score 49 = .ok (.iconst 0, 1) := by decide +kernel
theorem dX11_score_50 : decode cX11_score 50 = .ok (.putfield 134, 3) := by decide +kernel
theorem dX11_score_53 : decode cX11_score 53 = .ok (.iload_n 2, 1) := by decide +kernel
theorem dX11_score_54 : decode cX11_score 54 = .ok (.ifCond .le 32, 3) := by decide +kernel
theorem dX11_score_57 : decode cX11_score 57 = .ok (.aload_n 0, 1) := by decide +kernel
theorem dX11_score_58 : decode cX11_score 58 = .ok (.getfield 10, 3) := by decide +kernel
theorem dX11_score_61 : decode cX11_score 61 = .ok (.getfield 147, 3) := by decide +kernel
theorem dX11_score_64 : decode cX11_score 64 = .ok (.astore_n 3, 1) := by decide +kernel
theorem dX11_score_65 : decode cX11_score 65 = .ok (.aload_n 0, 1) := by decide +kernel
theorem dX11_score_66 : decode cX11_score 66 = .ok (.getfield 10, 3) := by decide +kernel
theorem dX11_score_69 : decode cX11_score 69 = .ok (.aload_n 0, 1) := by decide +kernel
theorem dX11_score_70 : decode cX11_score 70 = .ok (.getfield 26, 3) := by decide +kernel
theorem dX11_score_73 : decode cX11_score 73 = .ok (.putfield 147, 3) := by decide +kernel
theorem dX11_score_76 : decode cX11_score 76 = .ok (.aload_n 0, 1) := by decide +kernel
theorem dX11_score_77 : decode cX11_score 77 = .ok (.aload_n 3, 1) := by decide +kernel
theorem dX11_score_78 : decode cX11_score 78 = .ok (.putfield 26, 3) := by decide +kernel
theorem dX11_score_81 : decode cX11_score 81 = .ok (.aload_n 0, 1) := by decide +kernel
theorem dX11_score_82 : decode cX11_score 82 = .ok (.iconst 1, 1) := by decide +kernel
theorem dX11_score_83 : decode cX11_score 83 = .ok (.putfield 51, 3) := by decide +kernel
theorem dX11_score_86 : decode cX11_score 86 = .ok (.iload_n 2, 1) := by decide +kernel
theorem dX11_score_87 : decode cX11_score 87 = .ok (.ireturn, 1) := by decide +kernel
def fn_X11_score (v1 : Int32) (μ : ro_Mem) : Option (Int32 × ro_Mem) :=
  if v1 < 1 then
  (some ((-1), μ))
  else
  (if 200 < v1 then
  (some ((-1), μ))
  else
  (if v1 ≤ (μ 60 1) then
  ((fn_X8_startReading v1 μ).bind fun q4 =>
  if ro_sh (ro_rf q4 0 3) = (0, 5) then
  ((fn_X5_readFrom (ro_rf q4 0 3) q4).bind fun q7 =>
  ro_lt (ro_set q7.2 60 1 0) fun m9 =>
  if q7.1 ≤ 0 then
  (some (q7.1, m9))
  else
  (if ro_sh (ro_rf m9 1 1) = (0, 5) then
  (if ro_sh (ro_rf m9 0 3) = (0, 5) then
  (ro_lt (ro_set m9 1 1 (nI (ro_rf m9 0 3))) fun m14 =>
  ro_lt (ro_set m14 0 3 (nI (ro_rf m9 1 1))) fun m16 =>
  ro_lt (ro_set m16 0 7 1) fun m18 =>
  some (q7.1, m18)) else none) else none)) else none)
  else
  (some ((-1), μ))))
theorem be_X11_score {K : ro_K} (hK : ro_C K RX11 cX11_score 4 7) (hR : ro_R K (some .int)) {v1 : Int32}  {μ : ro_Mem} {out : Int32 × ro_Mem} (hf : fn_X11_score v1 μ = some out) (hq : kQ K (some (.int out.1)) out.2) : ro_X K 0 [(0, .ref (ro_ad (kG K) 0)), (1, .int v1)] [] μ := by
  unfold fn_X11_score at hf
  refine ro_iload_n hK 1 rfl dX11_score_0 rfl ?_
  refine ro_iconst (v := 1) hK dX11_score_1 (by decide) ?_
  refine ro_icmp_lt hK 23 dX11_score_2 (by decide) (fun c1 => ?_) (fun c1 => ?_)
  · have hf := ro_it hf c1
    refine ro_iconst (v := (-1)) hK dX11_score_23 (by decide) ?_
    obtain rfl := Option.some.inj hf
    exact ro_iret hK hR dX11_score_24 hq
  · have hf := ro_ie hf c1
    refine ro_iload_n hK 1 rfl dX11_score_5 rfl ?_
    refine ro_sipush (v := 200) hK dX11_score_6 (by decide) ?_
    refine ro_icmp_gt hK 23 dX11_score_9 (by decide) (fun c2 => ?_) (fun c2 => ?_)
    · have hf := ro_it hf c2
      refine ro_iconst (v := (-1)) hK dX11_score_23 (by decide) ?_
      obtain rfl := Option.some.inj hf
      exact ro_iret hK hR dX11_score_24 hq
    · have hf := ro_ie hf c2
      refine ro_iload_n hK 1 rfl dX11_score_12 rfl ?_
      refine ro_aload_n hK 0 rfl dX11_score_13 rfl ?_
      refine ro_getr hK fl_X11_40 sh_0 dX11_score_14 ?_
      refine ro_geti hK fl_X11_134 sh_60 dX11_score_17 ?_
      refine ro_icmp_le hK 25 dX11_score_20 (by decide) (fun c3 => ?_) (fun c3 => ?_)
      · have hf := ro_it hf c3
        refine ro_aload_n hK 0 rfl dX11_score_25 rfl ?_
        refine ro_getr hK fl_X11_40 sh_0 dX11_score_26 ?_
        refine ro_iload_n hK 1 rfl dX11_score_29 rfl ?_
        obtain ⟨q4, e5, hf⟩ := ro_bd hf
        refine ro_callvv hK [.int v1] ml_X11_140 mv_X8_startReading (mt_X8_startReading (kl K) (kG K)  e5) sh_60 ⟨_, rfl, rfl⟩ (by decide) rfl rfl (Nat.le_of_ble_eq_true rfl) dX11_score_30 ?_
        refine ro_aload_n hK 0 rfl dX11_score_33 rfl ?_
        obtain ⟨g6, hf⟩ := ro_gd hf
        refine ro_getm hK fl_X11_26 sh_0 dX11_score_34 ?_
        refine ro_aload_n hK 0 rfl dX11_score_37 rfl ?_
        refine ro_getr hK fl_X11_40 sh_0 dX11_score_38 ?_
        obtain ⟨q7, e8, hf⟩ := ro_bd hf
        refine ro_callvi hK [.ref (ro_ad (kG K) 60)] ml_X11_143 mv_X5_readFrom (mt_X5_readFrom (kl K) (kG K) g6 e8) g6 ⟨_, rfl, rfl⟩ (by decide) rfl rfl (Nat.le_of_ble_eq_true rfl) dX11_score_41 ?_
        refine ro_istore_n (L' := [(2, .int q7.1), (0, .ref (ro_ad (kG K) 0)), (1, .int v1)]) hK dX11_score_44 rfl (by decide) rfl ?_
        refine ro_aload_n hK 1 rfl dX11_score_45 rfl ?_
        refine ro_getr hK fl_X11_40 sh_0 dX11_score_46 ?_
        refine ro_iconst (v := 0) hK dX11_score_49 (by decide) ?_
        obtain ⟨m9, e10, hf⟩ := ro_ld hf
        refine ro_puti hK fl_X11_134 sh_60 rfl rfl dX11_score_50 ?_
        refine ro_mv e10 ?_
        refine ro_iload_n hK 0 rfl dX11_score_53 rfl ?_
        refine ro_if_le hK 86 dX11_score_54 (by decide) (fun c11 => ?_) (fun c11 => ?_)
        · have hf := ro_it hf c11
          refine ro_iload_n hK 0 rfl dX11_score_86 rfl ?_
          obtain rfl := Option.some.inj hf
          exact ro_iret hK hR dX11_score_87 hq
        · have hf := ro_ie hf c11
          refine ro_aload_n hK 1 rfl dX11_score_57 rfl ?_
          refine ro_getr hK fl_X11_10 sh_0 dX11_score_58 ?_
          obtain ⟨g12, hf⟩ := ro_gd hf
          refine ro_getm hK fl_X11_147 sh_1 dX11_score_61 ?_
          refine ro_astore_n (L' := [(3, .ref (ro_ad (kG K) (ro_rf m9 1 1))), (2, .int q7.1), (0, .ref (ro_ad (kG K) 0)), (1, .int v1)]) hK dX11_score_64 rfl (by decide) rfl ?_
          refine ro_aload_n hK 2 rfl dX11_score_65 rfl ?_
          refine ro_getr hK fl_X11_10 sh_0 dX11_score_66 ?_
          refine ro_aload_n hK 2 rfl dX11_score_69 rfl ?_
          obtain ⟨g13, hf⟩ := ro_gd hf
          refine ro_getm hK fl_X11_26 sh_0 dX11_score_70 ?_
          obtain ⟨m14, e15, hf⟩ := ro_ld hf
          refine ro_putm hK fl_X11_147 sh_1 (Nat.lt_of_lt_of_le (ro_sh_lt g13 (by decide)) (by decide)) (fun _ => rfl) (fun _ => rfl) dX11_score_73 ?_
          refine ro_mv e15 ?_
          refine ro_aload_n hK 2 rfl dX11_score_76 rfl ?_
          refine ro_aload_n hK 0 rfl dX11_score_77 rfl ?_
          obtain ⟨m16, e17, hf⟩ := ro_ld hf
          refine ro_putm hK fl_X11_26 sh_0 (Nat.lt_of_lt_of_le (ro_sh_lt g12 (by decide)) (by decide)) (fun _ => rfl) (fun _ => rfl) dX11_score_78 ?_
          refine ro_mv e17 ?_
          refine ro_aload_n hK 2 rfl dX11_score_81 rfl ?_
          refine ro_iconst (v := 1) hK dX11_score_82 (by decide) ?_
          obtain ⟨m18, e19, hf⟩ := ro_ld hf
          refine ro_putz hK fl_X11_51 sh_0 (by decide) dX11_score_83 ?_
          refine ro_mv e19 ?_
          refine ro_iload_n hK 1 rfl dX11_score_86 rfl ?_
          obtain rfl := Option.some.inj hf
          exact ro_iret hK hR dX11_score_87 hq
      · have hf := ro_ie hf c3
        refine ro_iconst (v := (-1)) hK dX11_score_23 (by decide) ?_
        obtain rfl := Option.some.inj hf
        exact ro_iret hK hR dX11_score_24 hq
theorem mt_X11_score (l : Launch) (G : ro_G) {v1 : Int32}  {μ : ro_Mem} {out : Int32 × ro_Mem} (hf : fn_X11_score v1 μ = some out) : ro_MX l G yX11_score cX11_score 4 (some .int) 7 [.ref (ro_ad G 0), .int v1] μ (some (.int out.1)) out.2 := by
  refine ro_MX.of (by decide +kernel) (Nat.le_of_ble_eq_true rfl) (fun K hG hl hq hK hR => ?_)
  subst hG
  exact be_X11_score hK hR  hf hq
-- ===== X11_law =====
theorem dX11_law_0 : decode cX11_law 0 = .ok (.iload_n 1, 1) := by decide +kernel
theorem dX11_law_1 : decode cX11_law 1 = .ok (.iconst 1, 1) := by decide +kernel
theorem dX11_law_2 : decode cX11_law 2 = .ok (.if_icmp .lt 21, 3) := by decide +kernel
theorem dX11_law_5 : decode cX11_law 5 = .ok (.iload_n 1, 1) := by decide +kernel
theorem dX11_law_6 : decode cX11_law 6 = .ok (.sipush 200, 3) := by decide +kernel
theorem dX11_law_9 : decode cX11_law 9 = .ok (.if_icmp .gt 14, 3) := by decide +kernel
theorem dX11_law_12 : decode cX11_law 12 = .ok (.iload_n 1, 1) := by decide +kernel
theorem dX11_law_13 : decode cX11_law 13 = .ok (.aload_n 0, 1) := by decide +kernel
theorem dX11_law_14 : decode cX11_law 14 = .ok (.getfield 40, 3) := by decide +kernel
theorem dX11_law_17 : decode cX11_law 17 = .ok (.getfield 134, 3) := by decide +kernel
theorem dX11_law_20 : decode cX11_law 20 = .ok (.if_icmp .le 5, 3) := by decide +kernel
theorem dX11_law_23 : decode cX11_law 23 = .ok (.iconst (-1), 1) := by decide +kernel
theorem dX11_law_24 : decode cX11_law 24 = .ok (.ireturn, 1) := by decide +kernel
theorem dX11_law_25 : decode cX11_law 25 = .ok (.aload_n 0, 1) := by decide +kernel
theorem dX11_law_26 : decode cX11_law 26 = .ok (.getfield 40, 3) := by decide +kernel
theorem dX11_law_29 : decode cX11_law 29 = .ok (.iload_n 1, 1) := by decide +kernel
theorem dX11_law_30 : decode cX11_law 30 = .ok (.invokevirtual 140, 3) := by decide +kernel
theorem dX11_law_33 : decode cX11_law 33 = .ok (.aload_n 0, 1) := by decide +kernel
theorem dX11_law_34 : decode cX11_law 34 = .ok (.getfield 33, 3) := by decide +kernel
theorem dX11_law_37 : decode cX11_law 37 = .ok (.aload_n 0, 1) := by decide +kernel
theorem dX11_law_38 : decode cX11_law 38 = .ok (.getfield 40, 3) := by decide +kernel
theorem dX11_law_41 : decode cX11_law 41 = .ok (.invokevirtual 150, 3) := by decide +kernel
theorem dX11_law_44 : decode cX11_law 44 = .ok (.istore_n 2, 1) := by decide +kernel
theorem dX11_law_45 : decode cX11_law 45 = .ok (.aload_n 0, 1) := by decide +kernel
theorem dX11_law_46 : decode cX11_law 46 = .ok (.getfield 40, 3) := by decide +kernel
theorem dX11_law_49 : decode cX11_law 49 = .ok (.iconst 0, 1) := by decide +kernel
theorem dX11_law_50 : decode cX11_law 50 = .ok (.putfield 134, 3) := by decide +kernel
theorem dX11_law_53 : decode cX11_law 53 = .ok (.iload_n 2, 1) := by decide +kernel
theorem dX11_law_54 : decode cX11_law 54 = .ok (.ifCond .le 38, 3) := by decide +kernel
theorem dX11_law_57 : decode cX11_law 57 = .ok (.aload_n 0, 1) := by decide +kernel
theorem dX11_law_58 : decode cX11_law 58 = .ok (.getfield 10, 3) := by decide +kernel
theorem dX11_law_61 : decode cX11_law 61 = .ok (.getfield 153, 3) := by decide +kernel
theorem dX11_law_64 : decode cX11_law 64 = .ok (.astore_n 3, 1) := by decide +kernel
theorem dX11_law_65 : decode cX11_law 65 = .ok (.aload_n 0, 1) := by decide +kernel
theorem dX11_law_66 : decode cX11_law 66 = .ok (.getfield 10, 3) := by decide +kernel
theorem dX11_law_69 : decode cX11_law 69 = .ok (.aload_n 0, 1) := by decide +kernel
theorem dX11_law_70 : decode cX11_law 70 = .ok (.getfield 33, 3) := by decide +kernel
theorem dX11_law_73 : decode cX11_law 73 = .ok (.getfield 157, 3) := by decide +kernel
theorem dX11_law_76 : decode cX11_law 76 = .ok (.putfield 153, 3) := by decide +kernel
theorem dX11_law_79 : decode cX11_law 79 = .ok (.aload_n 0, 1) := by decide +kernel
theorem dX11_law_80 : decode cX11_law 80 = .ok (.getfield 33, 3) := by decide +kernel
theorem dX11_law_83 : decode cX11_law 83 = .ok (.aload_n 3, 1) := by decide +kernel
theorem dX11_law_84 : decode cX11_law 84 = .ok (.putfield 157, 3) := by decide +kernel
theorem dX11_law_87 : decode cX11_law 87 = .ok (.aload_n 0, 1) := by decide +kernel
theorem dX11_law_88 : decode cX11_law 88 = .ok (.iconst 1, 1) := by decide +kernel
theorem dX11_law_89 : decode cX11_law 89 = .ok (.putfield 51, 3) := by decide +kernel
theorem dX11_law_92 : decode cX11_law 92 = .ok (.iload_n 2, 1) := by decide +kernel
theorem dX11_law_93 : decode cX11_law 93 = .ok (.ireturn, 1) := by decide +kernel
def fn_X11_law (v1 : Int32) (μ : ro_Mem) : Option (Int32 × ro_Mem) :=
  if v1 < 1 then
  (some ((-1), μ))
  else
  (if 200 < v1 then
  (some ((-1), μ))
  else
  (if v1 ≤ (μ 60 1) then
  ((fn_X8_startReading v1 μ).bind fun q4 =>
  (fn_X3_readLaw q4).bind fun q6 =>
  ro_lt (ro_set q6.2 60 1 0) fun m8 =>
  if q6.1 ≤ 0 then
  (some (q6.1, m8))
  else
  (if ro_sh (ro_rf m8 1 2) = (0, 2) then
  (if ro_sh (ro_rf m8 50 0) = (0, 2) then
  (ro_lt (ro_set m8 1 2 (nI (ro_rf m8 50 0))) fun m13 =>
  ro_lt (ro_set m13 50 0 (nI (ro_rf m8 1 2))) fun m15 =>
  ro_lt (ro_set m15 0 7 1) fun m17 =>
  some (q6.1, m17)) else none) else none))
  else
  (some ((-1), μ))))
theorem be_X11_law {K : ro_K} (hK : ro_C K RX11 cX11_law 4 203) (hR : ro_R K (some .int)) {v1 : Int32}  {μ : ro_Mem} {out : Int32 × ro_Mem} (hf : fn_X11_law v1 μ = some out) (hq : kQ K (some (.int out.1)) out.2) : ro_X K 0 [(0, .ref (ro_ad (kG K) 0)), (1, .int v1)] [] μ := by
  unfold fn_X11_law at hf
  refine ro_iload_n hK 1 rfl dX11_law_0 rfl ?_
  refine ro_iconst (v := 1) hK dX11_law_1 (by decide) ?_
  refine ro_icmp_lt hK 23 dX11_law_2 (by decide) (fun c1 => ?_) (fun c1 => ?_)
  · have hf := ro_it hf c1
    refine ro_iconst (v := (-1)) hK dX11_law_23 (by decide) ?_
    obtain rfl := Option.some.inj hf
    exact ro_iret hK hR dX11_law_24 hq
  · have hf := ro_ie hf c1
    refine ro_iload_n hK 1 rfl dX11_law_5 rfl ?_
    refine ro_sipush (v := 200) hK dX11_law_6 (by decide) ?_
    refine ro_icmp_gt hK 23 dX11_law_9 (by decide) (fun c2 => ?_) (fun c2 => ?_)
    · have hf := ro_it hf c2
      refine ro_iconst (v := (-1)) hK dX11_law_23 (by decide) ?_
      obtain rfl := Option.some.inj hf
      exact ro_iret hK hR dX11_law_24 hq
    · have hf := ro_ie hf c2
      refine ro_iload_n hK 1 rfl dX11_law_12 rfl ?_
      refine ro_aload_n hK 0 rfl dX11_law_13 rfl ?_
      refine ro_getr hK fl_X11_40 sh_0 dX11_law_14 ?_
      refine ro_geti hK fl_X11_134 sh_60 dX11_law_17 ?_
      refine ro_icmp_le hK 25 dX11_law_20 (by decide) (fun c3 => ?_) (fun c3 => ?_)
      · have hf := ro_it hf c3
        refine ro_aload_n hK 0 rfl dX11_law_25 rfl ?_
        refine ro_getr hK fl_X11_40 sh_0 dX11_law_26 ?_
        refine ro_iload_n hK 1 rfl dX11_law_29 rfl ?_
        obtain ⟨q4, e5, hf⟩ := ro_bd hf
        refine ro_callvv hK [.int v1] ml_X11_140 mv_X8_startReading (mt_X8_startReading (kl K) (kG K)  e5) sh_60 ⟨_, rfl, rfl⟩ (by decide) rfl rfl (Nat.le_of_ble_eq_true rfl) dX11_law_30 ?_
        refine ro_aload_n hK 0 rfl dX11_law_33 rfl ?_
        refine ro_getr hK fl_X11_33 sh_0 dX11_law_34 ?_
        refine ro_aload_n hK 0 rfl dX11_law_37 rfl ?_
        refine ro_getr hK fl_X11_40 sh_0 dX11_law_38 ?_
        obtain ⟨q6, e7, hf⟩ := ro_bd hf
        refine ro_callvi hK [.ref (ro_ad (kG K) 60)] ml_X11_150 mv_X3_readLaw (mt_X3_readLaw (kl K) (kG K)  e7) sh_50 ⟨_, rfl, rfl⟩ (by decide) rfl rfl (Nat.le_of_ble_eq_true rfl) dX11_law_41 ?_
        refine ro_istore_n (L' := [(2, .int q6.1), (0, .ref (ro_ad (kG K) 0)), (1, .int v1)]) hK dX11_law_44 rfl (by decide) rfl ?_
        refine ro_aload_n hK 1 rfl dX11_law_45 rfl ?_
        refine ro_getr hK fl_X11_40 sh_0 dX11_law_46 ?_
        refine ro_iconst (v := 0) hK dX11_law_49 (by decide) ?_
        obtain ⟨m8, e9, hf⟩ := ro_ld hf
        refine ro_puti hK fl_X11_134 sh_60 rfl rfl dX11_law_50 ?_
        refine ro_mv e9 ?_
        refine ro_iload_n hK 0 rfl dX11_law_53 rfl ?_
        refine ro_if_le hK 92 dX11_law_54 (by decide) (fun c10 => ?_) (fun c10 => ?_)
        · have hf := ro_it hf c10
          refine ro_iload_n hK 0 rfl dX11_law_92 rfl ?_
          obtain rfl := Option.some.inj hf
          exact ro_iret hK hR dX11_law_93 hq
        · have hf := ro_ie hf c10
          refine ro_aload_n hK 1 rfl dX11_law_57 rfl ?_
          refine ro_getr hK fl_X11_10 sh_0 dX11_law_58 ?_
          obtain ⟨g11, hf⟩ := ro_gd hf
          refine ro_getm hK fl_X11_153 sh_1 dX11_law_61 ?_
          refine ro_astore_n (L' := [(3, .ref (ro_ad (kG K) (ro_rf m8 1 2))), (2, .int q6.1), (0, .ref (ro_ad (kG K) 0)), (1, .int v1)]) hK dX11_law_64 rfl (by decide) rfl ?_
          refine ro_aload_n hK 2 rfl dX11_law_65 rfl ?_
          refine ro_getr hK fl_X11_10 sh_0 dX11_law_66 ?_
          refine ro_aload_n hK 2 rfl dX11_law_69 rfl ?_
          refine ro_getr hK fl_X11_33 sh_0 dX11_law_70 ?_
          obtain ⟨g12, hf⟩ := ro_gd hf
          refine ro_getm hK fl_X11_157 sh_50 dX11_law_73 ?_
          obtain ⟨m13, e14, hf⟩ := ro_ld hf
          refine ro_putm hK fl_X11_153 sh_1 (Nat.lt_of_lt_of_le (ro_sh_lt g12 (by decide)) (by decide)) (fun _ => rfl) (fun _ => rfl) dX11_law_76 ?_
          refine ro_mv e14 ?_
          refine ro_aload_n hK 2 rfl dX11_law_79 rfl ?_
          refine ro_getr hK fl_X11_33 sh_0 dX11_law_80 ?_
          refine ro_aload_n hK 0 rfl dX11_law_83 rfl ?_
          obtain ⟨m15, e16, hf⟩ := ro_ld hf
          refine ro_putm hK fl_X11_157 sh_50 (Nat.lt_of_lt_of_le (ro_sh_lt g11 (by decide)) (by decide)) (fun _ => rfl) (fun _ => rfl) dX11_law_84 ?_
          refine ro_mv e16 ?_
          refine ro_aload_n hK 2 rfl dX11_law_87 rfl ?_
          refine ro_iconst (v := 1) hK dX11_law_88 (by decide) ?_
          obtain ⟨m17, e18, hf⟩ := ro_ld hf
          refine ro_putz hK fl_X11_51 sh_0 (by decide) dX11_law_89 ?_
          refine ro_mv e18 ?_
          refine ro_iload_n hK 1 rfl dX11_law_92 rfl ?_
          obtain rfl := Option.some.inj hf
          exact ro_iret hK hR dX11_law_93 hq
      · have hf := ro_ie hf c3
        refine ro_iconst (v := (-1)) hK dX11_law_23 (by decide) ?_
        obtain rfl := Option.some.inj hf
        exact ro_iret hK hR dX11_law_24 hq
theorem mt_X11_law (l : Launch) (G : ro_G) {v1 : Int32}  {μ : ro_Mem} {out : Int32 × ro_Mem} (hf : fn_X11_law v1 μ = some out) : ro_MX l G yX11_law cX11_law 4 (some .int) 203 [.ref (ro_ad G 0), .int v1] μ (some (.int out.1)) out.2 := by
  refine ro_MX.of (by decide +kernel) (Nat.le_of_ble_eq_true rfl) (fun K hG hl hq hK hR => ?_)
  subst hG
  exact be_X11_law hK hR  hf hq
-- ===== X11_note =====
theorem dX11_note_0 : decode cX11_note 0 = .ok (.aload_n 0, 1) := by decide +kernel
theorem dX11_note_1 : decode cX11_note 1 = .ok (.getfield 10, 3) := by decide +kernel
theorem dX11_note_4 : decode cX11_note 4 = .ok (.getfield 147, 3) := by decide +kernel
theorem dX11_note_7 : decode cX11_note 7 = .ok (.astore_n 3, 1) := by decide +kernel
theorem dX11_note_8 : decode cX11_note 8 = .ok (.iload_n 1, 1) := by decide +kernel
theorem dX11_note_9 : decode cX11_note 9 = .ok (.ifCond .lt 11, 3) := by decide +kernel
theorem dX11_note_12 : decode cX11_note 12 = .ok (.iload_n 1, 1) := by decide +kernel
theorem dX11_note_13 : decode cX11_note 13 = .ok (.aload_n 3, 1) := by decide +kernel
theorem dX11_note_14 : decode cX11_note 14 = .ok (.getfield 158, 3) := by decide +kernel
theorem dX11_note_17 : decode cX11_note 17 = .ok (.if_icmp .lt 5, 3) := by decide +kernel
theorem dX11_note_20 : decode cX11_note 20 = .ok (.iconst (-1), 1) := by decide +kernel
theorem dX11_note_21 : decode cX11_note 21 = .ok (.ireturn, 1) := by decide +kernel
theorem dX11_note_22 : decode cX11_note 22 = .ok (.iload_n 2, 1) := by decide +kernel
theorem dX11_note_23 : decode cX11_note 23 = .ok (.tableswitch 68 0 4 #[33, 40, 47, 54, 61], 33) := by decide +kernel
theorem dX11_note_56 : decode cX11_note 56 = .ok (.aload_n 3, 1) := by decide +kernel
theorem dX11_note_57 : decode cX11_note 57 = .ok (.getfield 161, 3) := by decide +kernel
theorem dX11_note_60 : decode cX11_note 60 = .ok (.iload_n 1, 1) := by decide +kernel
theorem dX11_note_61 : decode cX11_note 61 = .ok (.iaload, 1) := by decide +kernel
theorem dX11_note_62 : decode cX11_note 62 = .ok (.ireturn, 1) := by decide +kernel
theorem dX11_note_63 : decode cX11_note 63 = .ok (.aload_n 3, 1) := by decide +kernel
theorem dX11_note_64 : decode cX11_note 64 = .ok (.getfield 164, 3) := by decide +kernel
theorem dX11_note_67 : decode cX11_note 67 = .ok (.iload_n 1, 1) := by decide +kernel
theorem dX11_note_68 : decode cX11_note 68 = .ok (.iaload, 1) := by decide +kernel
theorem dX11_note_69 : decode cX11_note 69 = .ok (.ireturn, 1) := by decide +kernel
theorem dX11_note_70 : decode cX11_note 70 = .ok (.aload_n 3, 1) := by decide +kernel
theorem dX11_note_71 : decode cX11_note 71 = .ok (.getfield 167, 3) := by decide +kernel
theorem dX11_note_74 : decode cX11_note 74 = .ok (.iload_n 1, 1) := by decide +kernel
theorem dX11_note_75 : decode cX11_note 75 = .ok (.iaload, 1) := by decide +kernel
theorem dX11_note_76 : decode cX11_note 76 = .ok (.ireturn, 1) := by decide +kernel
theorem dX11_note_77 : decode cX11_note 77 = .ok (.aload_n 3, 1) := by decide +kernel
theorem dX11_note_78 : decode cX11_note 78 = .ok (.getfield 170, 3) := by decide +kernel
theorem dX11_note_81 : decode cX11_note 81 = .ok (.iload_n 1, 1) := by decide +kernel
theorem dX11_note_82 : decode cX11_note 82 = .ok (.iaload, 1) := by decide +kernel
theorem dX11_note_83 : decode cX11_note 83 = .ok (.ireturn, 1) := by decide +kernel
theorem dX11_note_84 : decode cX11_note 84 = .ok (.aload_n 3, 1) := by decide +kernel
theorem dX11_note_85 : decode cX11_note 85 = .ok (.getfield 173, 3) := by decide +kernel
theorem dX11_note_88 : decode cX11_note 88 = .ok (.iload_n 1, 1) := by decide +kernel
theorem dX11_note_89 : decode cX11_note 89 = .ok (.iaload, 1) := by decide +kernel
theorem dX11_note_90 : decode cX11_note 90 = .ok (.ireturn, 1) := by decide +kernel
theorem dX11_note_91 : decode cX11_note 91 = .ok (.iconst (-1), 1) := by decide +kernel
theorem dX11_note_92 : decode cX11_note 92 = .ok (.ireturn, 1) := by decide +kernel
def fn_X11_note (v1 : Int32) (v2 : Int32) (μ : ro_Mem) : Option Int32 :=
  if ro_sh (ro_rf μ 1 1) = (0, 5) then
  (if v1 < 0 then
  (some (-1))
  else
  (if v1 < (μ (ro_rf μ 1 1) 5) then
  (if v2 = 0 then
  (if ro_in v1 32 then
  (some (μ ((ro_rf μ 1 1) + 1) v1.toNatClampNeg)) else none)
  else
  (if v2 = 1 then
  (if ro_in v1 32 then
  (some (μ ((ro_rf μ 1 1) + 2) v1.toNatClampNeg)) else none)
  else
  (if v2 = 2 then
  (if ro_in v1 32 then
  (some (μ ((ro_rf μ 1 1) + 3) v1.toNatClampNeg)) else none)
  else
  (if v2 = 3 then
  (if ro_in v1 32 then
  (some (μ ((ro_rf μ 1 1) + 4) v1.toNatClampNeg)) else none)
  else
  (if v2 = 4 then
  (if ro_in v1 32 then
  (some (μ ((ro_rf μ 1 1) + 5) v1.toNatClampNeg)) else none)
  else
  (some (-1)))))))
  else
  (some (-1)))) else none
theorem be_X11_note {K : ro_K} (hK : ro_C K RX11 cX11_note 4 0) (hR : ro_R K (some .int)) {v1 : Int32} {v2 : Int32}  {μ : ro_Mem} {out : Int32} (hf : fn_X11_note v1 v2 μ = some out) (hq : kQ K (some (.int out)) μ) : ro_X K 0 [(0, .ref (ro_ad (kG K) 0)), (1, .int v1), (2, .int v2)] [] μ := by
  unfold fn_X11_note at hf
  refine ro_aload_n hK 0 rfl dX11_note_0 rfl ?_
  refine ro_getr hK fl_X11_10 sh_0 dX11_note_1 ?_
  obtain ⟨g1, hf⟩ := ro_gd hf
  refine ro_getm hK fl_X11_147 sh_1 dX11_note_4 ?_
  refine ro_astore_n (L' := [(3, .ref (ro_ad (kG K) (ro_rf μ 1 1))), (0, .ref (ro_ad (kG K) 0)), (1, .int v1), (2, .int v2)]) hK dX11_note_7 rfl (by decide) rfl ?_
  refine ro_iload_n hK 2 rfl dX11_note_8 rfl ?_
  refine ro_if_lt hK 20 dX11_note_9 (by decide) (fun c2 => ?_) (fun c2 => ?_)
  · have hf := ro_it hf c2
    refine ro_iconst (v := (-1)) hK dX11_note_20 (by decide) ?_
    obtain rfl := Option.some.inj hf
    exact ro_iret hK hR dX11_note_21 hq
  · have hf := ro_ie hf c2
    refine ro_iload_n hK 2 rfl dX11_note_12 rfl ?_
    refine ro_aload_n hK 0 rfl dX11_note_13 rfl ?_
    refine ro_geti hK fl_X11_158 g1 dX11_note_14 ?_
    refine ro_icmp_lt hK 22 dX11_note_17 (by decide) (fun c3 => ?_) (fun c3 => ?_)
    · have hf := ro_it hf c3
      refine ro_iload_n hK 3 rfl dX11_note_22 rfl ?_
      by_cases c_0 : v2 = 0
      · have hf := ro_it hf c_0
        refine ro_tabIn hK 0 56 dX11_note_23 c_0 (by decide) (by decide) rfl (by decide) ?_
        refine ro_aload_n hK 0 rfl dX11_note_56 rfl ?_
        refine ro_getr hK fl_X11_161 g1 dX11_note_57 ?_
        refine ro_iload_n hK 2 rfl dX11_note_60 rfl ?_
        obtain ⟨g4, hf⟩ := ro_gd hf
        refine ro_iald hK (so_5_1 g1) g4 dX11_note_61 ?_
        obtain rfl := Option.some.inj hf
        exact ro_iret hK hR dX11_note_62 hq
      have hf := ro_ie hf c_0
      by_cases c_1 : v2 = 1
      · have hf := ro_it hf c_1
        refine ro_tabIn hK 1 63 dX11_note_23 c_1 (by decide) (by decide) rfl (by decide) ?_
        refine ro_aload_n hK 0 rfl dX11_note_63 rfl ?_
        refine ro_getr hK fl_X11_164 g1 dX11_note_64 ?_
        refine ro_iload_n hK 2 rfl dX11_note_67 rfl ?_
        obtain ⟨g5, hf⟩ := ro_gd hf
        refine ro_iald hK (so_5_2 g1) g5 dX11_note_68 ?_
        obtain rfl := Option.some.inj hf
        exact ro_iret hK hR dX11_note_69 hq
      have hf := ro_ie hf c_1
      by_cases c_2 : v2 = 2
      · have hf := ro_it hf c_2
        refine ro_tabIn hK 2 70 dX11_note_23 c_2 (by decide) (by decide) rfl (by decide) ?_
        refine ro_aload_n hK 0 rfl dX11_note_70 rfl ?_
        refine ro_getr hK fl_X11_167 g1 dX11_note_71 ?_
        refine ro_iload_n hK 2 rfl dX11_note_74 rfl ?_
        obtain ⟨g6, hf⟩ := ro_gd hf
        refine ro_iald hK (so_5_3 g1) g6 dX11_note_75 ?_
        obtain rfl := Option.some.inj hf
        exact ro_iret hK hR dX11_note_76 hq
      have hf := ro_ie hf c_2
      by_cases c_3 : v2 = 3
      · have hf := ro_it hf c_3
        refine ro_tabIn hK 3 77 dX11_note_23 c_3 (by decide) (by decide) rfl (by decide) ?_
        refine ro_aload_n hK 0 rfl dX11_note_77 rfl ?_
        refine ro_getr hK fl_X11_170 g1 dX11_note_78 ?_
        refine ro_iload_n hK 2 rfl dX11_note_81 rfl ?_
        obtain ⟨g7, hf⟩ := ro_gd hf
        refine ro_iald hK (so_5_4 g1) g7 dX11_note_82 ?_
        obtain rfl := Option.some.inj hf
        exact ro_iret hK hR dX11_note_83 hq
      have hf := ro_ie hf c_3
      by_cases c_4 : v2 = 4
      · have hf := ro_it hf c_4
        refine ro_tabIn hK 4 84 dX11_note_23 c_4 (by decide) (by decide) rfl (by decide) ?_
        refine ro_aload_n hK 0 rfl dX11_note_84 rfl ?_
        refine ro_getr hK fl_X11_173 g1 dX11_note_85 ?_
        refine ro_iload_n hK 2 rfl dX11_note_88 rfl ?_
        obtain ⟨g8, hf⟩ := ro_gd hf
        refine ro_iald hK (so_5_5 g1) g8 dX11_note_89 ?_
        obtain rfl := Option.some.inj hf
        exact ro_iret hK hR dX11_note_90 hq
      have hf := ro_ie hf c_4
      have tw0 : ¬ v2.toInt = 0 := lv_neT (a := 0) c_0 rfl
      have tw1 : ¬ v2.toInt = 1 := lv_neT (a := 1) c_1 rfl
      have tw2 : ¬ v2.toInt = 2 := lv_neT (a := 2) c_2 rfl
      have tw3 : ¬ v2.toInt = 3 := lv_neT (a := 3) c_3 rfl
      have tw4 : ¬ v2.toInt = 4 := lv_neT (a := 4) c_4 rfl
      refine ro_tabOut hK 91 dX11_note_23 (by omega) (by decide) ?_
      refine ro_iconst (v := (-1)) hK dX11_note_91 (by decide) ?_
      obtain rfl := Option.some.inj hf
      exact ro_iret hK hR dX11_note_92 hq
    · have hf := ro_ie hf c3
      refine ro_iconst (v := (-1)) hK dX11_note_20 (by decide) ?_
      obtain rfl := Option.some.inj hf
      exact ro_iret hK hR dX11_note_21 hq
theorem mt_X11_note (l : Launch) (G : ro_G) {v1 : Int32} {v2 : Int32}  {μ : ro_Mem} {out : Int32} (hf : fn_X11_note v1 v2 μ = some out) : ro_MX l G yX11_note cX11_note 4 (some .int) 0 [.ref (ro_ad G 0), .int v1, .int v2] μ (some (.int out)) μ := by
  refine ro_MX.of (by decide +kernel) (Nat.le_of_ble_eq_true rfl) (fun K hG hl hq hK hR => ?_)
  subst hG
  exact be_X11_note hK hR  hf hq
-- ===== X11_refresh =====
theorem dX11_refresh_0 : decode cX11_refresh 0 = .ok (.aload_n 0, 1) := by decide +kernel
theorem dX11_refresh_1 : decode cX11_refresh 1 = .ok (.getfield 51, 3) := by decide +kernel
theorem dX11_refresh_4 : decode cX11_refresh 4 = .ok (.ifCond .eq 30, 3) := by decide +kernel
theorem dX11_refresh_7 : decode cX11_refresh 7 = .ok (.aload_n 0, 1) := by decide +kernel
theorem dX11_refresh_8 : decode cX11_refresh 8 = .ok (.getfield 47, 3) := by decide +kernel
theorem dX11_refresh_11 : decode cX11_refresh 11 = .ok (.aload_n 0, 1) := by decide +kernel
theorem dX11_refresh_12 : decode cX11_refresh 12 = .ok (.getfield 10, 3) := by decide +kernel
theorem dX11_refresh_15 : decode cX11_refresh 15 = .ok (.invokevirtual 349, 3) := by decide +kernel
theorem dX11_refresh_18 : decode cX11_refresh 18 = .ok (.aload_n 0, 1) := by decide +kernel
theorem dX11_refresh_19 : decode cX11_refresh 19 = .ok (.getfield 47, 3) := by decide +kernel
theorem dX11_refresh_22 : decode cX11_refresh 22 = .ok (.aload_n 0, 1) := by decide +kernel
theorem dX11_refresh_23 : decode cX11_refresh 23 = .ok (.getfield 10, 3) := by decide +kernel
theorem dX11_refresh_26 : decode cX11_refresh 26 = .ok (.invokevirtual 353, 3) := by decide +kernel
theorem dX11_refresh_29 : decode cX11_refresh 29 = .ok (.aload_n 0, 1) := by decide +kernel
theorem dX11_refresh_30 : decode cX11_refresh 30 = .ok (.iconst 0, 1) := by decide +kernel
theorem dX11_refresh_31 : decode cX11_refresh 31 = .ok (.putfield 51, 3) := by decide +kernel
theorem dX11_refresh_34 : decode cX11_refresh 34 = .ok (.return_, 1) := by decide +kernel
def fn_X11_refresh (μ : ro_Mem) : Option ro_Mem :=
  if (μ 0 7) = 0 then
  (some μ)
  else
  ((fn_X0_pour μ).bind fun q2 =>
  (fn_X0_play q2).bind fun q4 =>
  ro_lt (ro_set q4 0 7 0) fun m6 =>
  some m6)
theorem be_X11_refresh {K : ro_K} (hK : ro_C K RX11 cX11_refresh 1 5) (hR : ro_R K none)   {μ : ro_Mem} {out : ro_Mem} (hf : fn_X11_refresh μ = some out) (hq : kQ K none out) : ro_X K 0 [(0, .ref (ro_ad (kG K) 0))] [] μ := by
  unfold fn_X11_refresh at hf
  refine ro_aload_n hK 0 rfl dX11_refresh_0 rfl ?_
  refine ro_geti hK fl_X11_51 sh_0 dX11_refresh_1 ?_
  refine ro_if_eq hK 34 dX11_refresh_4 (by decide) (fun c1 => ?_) (fun c1 => ?_)
  · have hf := ro_it hf c1
    obtain rfl := Option.some.inj hf
    exact ro_vret hK hR dX11_refresh_34 hq
  · have hf := ro_ie hf c1
    refine ro_aload_n hK 0 rfl dX11_refresh_7 rfl ?_
    refine ro_getr hK fl_X11_47 sh_0 dX11_refresh_8 ?_
    refine ro_aload_n hK 0 rfl dX11_refresh_11 rfl ?_
    refine ro_getr hK fl_X11_10 sh_0 dX11_refresh_12 ?_
    obtain ⟨q2, e3, hf⟩ := ro_bd hf
    refine ro_callvv hK [.ref (ro_ad (kG K) 1)] ml_X11_349 mv_X0_pour (mt_X0_pour (kl K) (kG K)  e3) sh_62 ⟨_, rfl, rfl⟩ (by decide) rfl rfl (Nat.le_of_ble_eq_true rfl) dX11_refresh_15 ?_
    refine ro_aload_n hK 0 rfl dX11_refresh_18 rfl ?_
    refine ro_getr hK fl_X11_47 sh_0 dX11_refresh_19 ?_
    refine ro_aload_n hK 0 rfl dX11_refresh_22 rfl ?_
    refine ro_getr hK fl_X11_10 sh_0 dX11_refresh_23 ?_
    obtain ⟨q4, e5, hf⟩ := ro_bd hf
    refine ro_callvv hK [.ref (ro_ad (kG K) 1)] ml_X11_353 mv_X0_play (mt_X0_play (kl K) (kG K)  e5) sh_62 ⟨_, rfl, rfl⟩ (by decide) rfl rfl (Nat.le_of_ble_eq_true rfl) dX11_refresh_26 ?_
    refine ro_aload_n hK 0 rfl dX11_refresh_29 rfl ?_
    refine ro_iconst (v := 0) hK dX11_refresh_30 (by decide) ?_
    obtain ⟨m6, e7, hf⟩ := ro_ld hf
    refine ro_putz hK fl_X11_51 sh_0 (by decide) dX11_refresh_31 ?_
    refine ro_mv e7 ?_
    obtain rfl := Option.some.inj hf
    exact ro_vret hK hR dX11_refresh_34 hq
theorem mt_X11_refresh (l : Launch) (G : ro_G)   {μ : ro_Mem} {out : ro_Mem} (hf : fn_X11_refresh μ = some out) : ro_MX l G yX11_refresh cX11_refresh 1 none 5 [.ref (ro_ad G 0)] μ none out := by
  refine ro_MX.of (by decide +kernel) (Nat.le_of_ble_eq_true rfl) (fun K hG hl hq hK hR => ?_)
  subst hG
  exact be_X11_refresh hK hR  hf hq
-- ===== X11_drops =====
theorem dX11_drops_0 : decode cX11_drops 0 = .ok (.iload_n 1, 1) := by decide +kernel
theorem dX11_drops_1 : decode cX11_drops 1 = .ok (.ifCond .lt 31, 3) := by decide +kernel
theorem dX11_drops_4 : decode cX11_drops 4 = .ok (.iload_n 1, 1) := by decide +kernel
theorem dX11_drops_5 : decode cX11_drops 5 = .ok (.aload_n 0, 1) := by decide +kernel
theorem dX11_drops_6 : decode cX11_drops 6 = .ok (.getfield 10, 3) := by decide +kernel
theorem dX11_drops_9 : decode cX11_drops 9 = .ok (.getfield 147, 3) := by decide +kernel
theorem dX11_drops_12 : decode cX11_drops 12 = .ok (.getfield 158, 3) := by decide +kernel
theorem dX11_drops_15 : decode cX11_drops 15 = .ok (.if_icmp .ge 17, 3) := by decide +kernel
theorem dX11_drops_18 : decode cX11_drops 18 = .ok (.aload_n 0, 1) := by decide +kernel
theorem dX11_drops_19 : decode cX11_drops 19 = .ok (.getfield 10, 3) := by decide +kernel
theorem dX11_drops_22 : decode cX11_drops 22 = .ok (.getfield 89, 3) := by decide +kernel
theorem dX11_drops_25 : decode cX11_drops 25 = .ok (.iload_n 2, 1) := by decide +kernel
theorem dX11_drops_26 : decode cX11_drops 26 = .ok (.invokevirtual 104, 3) := by decide +kernel
theorem dX11_drops_29 : decode cX11_drops 29 = .ok (.ifCond .ne 5, 3) := by decide +kernel
theorem dX11_drops_32 : decode cX11_drops 32 = .ok (.iconst (-1), 1) := by decide +kernel
theorem dX11_drops_33 : decode cX11_drops 33 = .ok (.ireturn, 1) := by decide +kernel
theorem dX11_drops_34 : decode cX11_drops 34 = .ok (.aload_n 0, 1) := by decide +kernel
theorem dX11_drops_35 : decode cX11_drops 35 = .ok (.invokevirtual 176, 3) := by decide +kernel
theorem dX11_drops_38 : decode cX11_drops 38 = .ok (.aload_n 0, 1) := by decide +kernel
theorem dX11_drops_39 : decode cX11_drops 39 = .ok (.getfield 47, 3) := by decide +kernel
theorem dX11_drops_42 : decode cX11_drops 42 = .ok (.getfield 179, 3) := by decide +kernel
theorem dX11_drops_45 : decode cX11_drops 45 = .ok (.iload_n 1, 1) := by decide +kernel
theorem dX11_drops_46 : decode cX11_drops 46 = .ok (.bipush 16, 2) := by decide +kernel
theorem dX11_drops_48 : decode cX11_drops 48 = .ok (.imul, 1) := by decide +kernel
theorem dX11_drops_49 : decode cX11_drops 49 = .ok (.iload_n 2, 1) := by decide +kernel
theorem dX11_drops_50 : decode cX11_drops 50 = .ok (.iadd, 1) := by decide +kernel
theorem dX11_drops_51 : decode cX11_drops 51 = .ok (.iaload, 1) := by decide +kernel
theorem dX11_drops_52 : decode cX11_drops 52 = .ok (.ireturn, 1) := by decide +kernel
def fn_X11_drops (v1 : Int32) (v2 : Int32) (μ : ro_Mem) : Option (Int32 × ro_Mem) :=
  if v1 < 0 then
  (some ((-1), μ))
  else
  (if ro_sh (ro_rf μ 1 1) = (0, 5) then
  (if (μ (ro_rf μ 1 1) 5) ≤ v1 then
  (some ((-1), μ))
  else
  ((fn_X1_isSlate 2 v2 μ).bind fun q4 =>
  if q4 = 0 then
  (some ((-1), μ))
  else
  ((fn_X11_refresh μ).bind fun q7 =>
  if ro_in ((v1 * 16) + v2) 512 then
  (some (q7 63 ((v1 * 16) + v2).toNatClampNeg, q7)) else none))) else none)
theorem be_X11_drops {K : ro_K} (hK : ro_C K RX11 cX11_drops 3 6) (hR : ro_R K (some .int)) {v1 : Int32} {v2 : Int32}  {μ : ro_Mem} {out : Int32 × ro_Mem} (hf : fn_X11_drops v1 v2 μ = some out) (hq : kQ K (some (.int out.1)) out.2) : ro_X K 0 [(0, .ref (ro_ad (kG K) 0)), (1, .int v1), (2, .int v2)] [] μ := by
  unfold fn_X11_drops at hf
  refine ro_iload_n hK 1 rfl dX11_drops_0 rfl ?_
  refine ro_if_lt hK 32 dX11_drops_1 (by decide) (fun c1 => ?_) (fun c1 => ?_)
  · have hf := ro_it hf c1
    refine ro_iconst (v := (-1)) hK dX11_drops_32 (by decide) ?_
    obtain rfl := Option.some.inj hf
    exact ro_iret hK hR dX11_drops_33 hq
  · have hf := ro_ie hf c1
    refine ro_iload_n hK 1 rfl dX11_drops_4 rfl ?_
    refine ro_aload_n hK 0 rfl dX11_drops_5 rfl ?_
    refine ro_getr hK fl_X11_10 sh_0 dX11_drops_6 ?_
    obtain ⟨g2, hf⟩ := ro_gd hf
    refine ro_getm hK fl_X11_147 sh_1 dX11_drops_9 ?_
    refine ro_geti hK fl_X11_158 g2 dX11_drops_12 ?_
    refine ro_icmp_ge hK 32 dX11_drops_15 (by decide) (fun c3 => ?_) (fun c3 => ?_)
    · have hf := ro_it hf c3
      refine ro_iconst (v := (-1)) hK dX11_drops_32 (by decide) ?_
      obtain rfl := Option.some.inj hf
      exact ro_iret hK hR dX11_drops_33 hq
    · have hf := ro_ie hf c3
      refine ro_aload_n hK 0 rfl dX11_drops_18 rfl ?_
      refine ro_getr hK fl_X11_10 sh_0 dX11_drops_19 ?_
      refine ro_getr hK fl_X11_89 sh_1 dX11_drops_22 ?_
      refine ro_iload_n hK 2 rfl dX11_drops_25 rfl ?_
      obtain ⟨q4, e5, hf⟩ := ro_bd hf
      refine ro_callvi hK [.int v2] ml_X11_104 mv_X1_isSlate (mt_X1_isSlate (kl K) (kG K) sh_2 e5) sh_2 ⟨_, rfl, rfl⟩ (by decide) rfl rfl (Nat.le_of_ble_eq_true rfl) dX11_drops_26 ?_
      refine ro_if_ne hK 34 dX11_drops_29 (by decide) (fun c6 => ?_) (fun c6 => ?_)
      · have hf := ro_ie hf c6
        refine ro_aload_n hK 0 rfl dX11_drops_34 rfl ?_
        obtain ⟨q7, e8, hf⟩ := ro_bd hf
        refine ro_callvv hK [] ml_X11_176 mv_X11_refresh (mt_X11_refresh (kl K) (kG K)  e8) sh_0 ⟨_, rfl, rfl⟩ (by decide) rfl rfl (Nat.le_of_ble_eq_true rfl) dX11_drops_35 ?_
        refine ro_aload_n hK 0 rfl dX11_drops_38 rfl ?_
        refine ro_getr hK fl_X11_47 sh_0 dX11_drops_39 ?_
        refine ro_getr hK fl_X11_179 sh_62 dX11_drops_42 ?_
        refine ro_iload_n hK 1 rfl dX11_drops_45 rfl ?_
        refine ro_bipush (v := 16) hK dX11_drops_46 (by decide) ?_
        refine ro_imul hK dX11_drops_48 ?_
        refine ro_iload_n hK 2 rfl dX11_drops_49 rfl ?_
        refine ro_iadd hK dX11_drops_50 ?_
        obtain ⟨g9, hf⟩ := ro_gd hf
        refine ro_iald hK sh_63 g9 dX11_drops_51 ?_
        obtain rfl := Option.some.inj hf
        exact ro_iret hK hR dX11_drops_52 hq
      · have hf := ro_it hf c6
        refine ro_iconst (v := (-1)) hK dX11_drops_32 (by decide) ?_
        obtain rfl := Option.some.inj hf
        exact ro_iret hK hR dX11_drops_33 hq
theorem mt_X11_drops (l : Launch) (G : ro_G) {v1 : Int32} {v2 : Int32}  {μ : ro_Mem} {out : Int32 × ro_Mem} (hf : fn_X11_drops v1 v2 μ = some out) : ro_MX l G yX11_drops cX11_drops 3 (some .int) 6 [.ref (ro_ad G 0), .int v1, .int v2] μ (some (.int out.1)) out.2 := by
  refine ro_MX.of (by decide +kernel) (Nat.le_of_ble_eq_true rfl) (fun K hG hl hq hK hR => ?_)
  subst hG
  exact be_X11_drops hK hR  hf hq
-- ===== X11_isActOrAll =====
theorem dX11_isActOrAll_0 : decode cX11_isActOrAll 0 = .ok (.iload_n 0, 1) := by decide +kernel
theorem dX11_isActOrAll_1 : decode cX11_isActOrAll 1 = .ok (.ifCond .lt 12, 3) := by decide +kernel
theorem dX11_isActOrAll_4 : decode cX11_isActOrAll 4 = .ok (.iload_n 0, 1) := by decide +kernel
theorem dX11_isActOrAll_5 : decode cX11_isActOrAll 5 = .ok (.iconst 4, 1) := by decide +kernel
theorem dX11_isActOrAll_6 : decode cX11_isActOrAll 6 = .ok (.if_icmp .gt 7, 3) := by decide +kernel
theorem dX11_isActOrAll_9 : decode cX11_isActOrAll 9 = .ok (.iconst 1, 1) := by decide +kernel
theorem dX11_isActOrAll_10 : decode cX11_isActOrAll 10 = .ok (.goto 4, 3) := by decide +kernel
theorem dX11_isActOrAll_13 : decode cX11_isActOrAll 13 = .ok (.iconst 0, 1) := by decide +kernel
theorem dX11_isActOrAll_14 : decode cX11_isActOrAll 14 = .ok (.ireturn, 1) := by decide +kernel
def fn_X11_isActOrAll (v0 : Int32) : Option Int32 :=
  if v0 < 0 then
  (some 0)
  else
  (if 4 < v0 then
  (some 0)
  else
  (some 1))
theorem be_X11_isActOrAll {K : ro_K} (hK : ro_C K RX11 cX11_isActOrAll 1 0) (hR : ro_R K (some .boolean)) {v0 : Int32}  {μ : ro_Mem} {out : Int32} (hf : fn_X11_isActOrAll v0 = some out) (hq : kQ K (some (.int out)) μ) : ro_X K 0 [(0, .int v0)] [] μ := by
  unfold fn_X11_isActOrAll at hf
  refine ro_iload_n hK 0 rfl dX11_isActOrAll_0 rfl ?_
  refine ro_if_lt hK 13 dX11_isActOrAll_1 (by decide) (fun c1 => ?_) (fun c1 => ?_)
  · have hf := ro_it hf c1
    refine ro_iconst (v := 0) hK dX11_isActOrAll_13 (by decide) ?_
    obtain rfl := Option.some.inj hf
    exact ro_zret hK hR dX11_isActOrAll_14 (by decide) hq
  · have hf := ro_ie hf c1
    refine ro_iload_n hK 0 rfl dX11_isActOrAll_4 rfl ?_
    refine ro_iconst (v := 4) hK dX11_isActOrAll_5 (by decide) ?_
    refine ro_icmp_gt hK 13 dX11_isActOrAll_6 (by decide) (fun c2 => ?_) (fun c2 => ?_)
    · have hf := ro_it hf c2
      refine ro_iconst (v := 0) hK dX11_isActOrAll_13 (by decide) ?_
      obtain rfl := Option.some.inj hf
      exact ro_zret hK hR dX11_isActOrAll_14 (by decide) hq
    · have hf := ro_ie hf c2
      refine ro_iconst (v := 1) hK dX11_isActOrAll_9 (by decide) ?_
      refine ro_goto hK 14 dX11_isActOrAll_10 (by decide) ?_
      obtain rfl := Option.some.inj hf
      exact ro_zret hK hR dX11_isActOrAll_14 (by decide) hq
theorem mt_X11_isActOrAll (l : Launch) (G : ro_G) {v0 : Int32}  {μ : ro_Mem} {out : Int32} (hf : fn_X11_isActOrAll v0 = some out) : ro_MX l G yX11_isActOrAll cX11_isActOrAll 1 (some .boolean) 0 [.int v0] μ (some (.int out)) μ := by
  refine ro_MX.of (by decide +kernel) (Nat.le_of_ble_eq_true rfl) (fun K hG hl hq hK hR => ?_)
  subst hG
  exact be_X11_isActOrAll hK hR  hf hq
-- ===== X11_wet =====
theorem dX11_wet_0 : decode cX11_wet 0 = .ok (.iload_n 1, 1) := by decide +kernel
theorem dX11_wet_1 : decode cX11_wet 1 = .ok (.iload_n 2, 1) := by decide +kernel
theorem dX11_wet_2 : decode cX11_wet 2 = .ok (.invokestatic 85, 3) := by decide +kernel
theorem dX11_wet_5 : decode cX11_wet 5 = .ok (.istore 4, 2) := by decide +kernel
theorem dX11_wet_7 : decode cX11_wet 7 = .ok (.iload 4, 2) := by decide +kernel
theorem dX11_wet_9 : decode cX11_wet 9 = .ok (.iconst (-1), 1) := by decide +kernel
theorem dX11_wet_10 : decode cX11_wet 10 = .ok (.if_icmp .eq 10, 3) := by decide +kernel
theorem dX11_wet_13 : decode cX11_wet 13 = .ok (.iload_n 3, 1) := by decide +kernel
theorem dX11_wet_14 : decode cX11_wet 14 = .ok (.invokestatic 182, 3) := by decide +kernel
theorem dX11_wet_17 : decode cX11_wet 17 = .ok (.ifCond .ne 5, 3) := by decide +kernel
theorem dX11_wet_20 : decode cX11_wet 20 = .ok (.iconst (-1), 1) := by decide +kernel
theorem dX11_wet_21 : decode cX11_wet 21 = .ok (.ireturn, 1) := by decide +kernel
theorem dX11_wet_22 : decode cX11_wet 22 = .ok (.aload_n 0, 1) := by decide +kernel
theorem dX11_wet_23 : decode cX11_wet 23 = .ok (.invokevirtual 176, 3) := by decide +kernel
theorem dX11_wet_26 : decode cX11_wet 26 = .ok (.aload_n 0, 1) := by decide +kernel
theorem dX11_wet_27 : decode cX11_wet 27 = .ok (.getfield 47, 3) := by decide +kernel
theorem dX11_wet_30 : decode cX11_wet 30 = .ok (.iload 4, 2) := by decide +kernel
theorem dX11_wet_32 : decode cX11_wet 32 = .ok (.iload_n 3, 1) := by decide +kernel
theorem dX11_wet_33 : decode cX11_wet 33 = .ok (.invokevirtual 185, 3) := by decide +kernel
theorem dX11_wet_36 : decode cX11_wet 36 = .ok (.ireturn, 1) := by decide +kernel
def fn_X11_wet (v1 : Int32) (v2 : Int32) (v3 : Int32) (μ : ro_Mem) : Option (Int32 × ro_Mem) :=
  (fn_X11_seatNumber v1 v2).bind fun q1 =>
  if q1 = (-1) then
  (some ((-1), μ))
  else
  ((fn_X11_isActOrAll v3).bind fun q4 =>
  if q4 = 0 then
  (some ((-1), μ))
  else
  ((fn_X11_refresh μ).bind fun q7 =>
  (fn_X0_seatWet q1 v3 q7).bind fun q9 =>
  some (q9, q7)))
theorem be_X11_wet {K : ro_K} (hK : ro_C K RX11 cX11_wet 5 6) (hR : ro_R K (some .int)) {v1 : Int32} {v2 : Int32} {v3 : Int32}  {μ : ro_Mem} {out : Int32 × ro_Mem} (hf : fn_X11_wet v1 v2 v3 μ = some out) (hq : kQ K (some (.int out.1)) out.2) : ro_X K 0 [(0, .ref (ro_ad (kG K) 0)), (1, .int v1), (2, .int v2), (3, .int v3)] [] μ := by
  unfold fn_X11_wet at hf
  refine ro_iload_n hK 1 rfl dX11_wet_0 rfl ?_
  refine ro_iload_n hK 2 rfl dX11_wet_1 rfl ?_
  obtain ⟨q1, e2, hf⟩ := ro_bd hf
  refine ro_callsi hK [.int v1, .int v2] ml_X11_85 ms_X11_seatNumber (mt_X11_seatNumber (kl K) (kG K)  e2) (by decide) rfl rfl (Nat.le_of_ble_eq_true rfl) dX11_wet_2 ?_
  refine ro_istore (L' := [(4, .int q1), (0, .ref (ro_ad (kG K) 0)), (1, .int v1), (2, .int v2), (3, .int v3)]) hK dX11_wet_5 (by decide) rfl ?_
  refine ro_iload hK 0 rfl dX11_wet_7 ?_
  refine ro_iconst (v := (-1)) hK dX11_wet_9 (by decide) ?_
  refine ro_icmp_eq hK 20 dX11_wet_10 (by decide) (fun c3 => ?_) (fun c3 => ?_)
  · have hf := ro_it hf c3
    refine ro_iconst (v := (-1)) hK dX11_wet_20 (by decide) ?_
    obtain rfl := Option.some.inj hf
    exact ro_iret hK hR dX11_wet_21 hq
  · have hf := ro_ie hf c3
    refine ro_iload_n hK 4 rfl dX11_wet_13 rfl ?_
    obtain ⟨q4, e5, hf⟩ := ro_bd hf
    refine ro_callsi hK [.int v3] ml_X11_182 ms_X11_isActOrAll (mt_X11_isActOrAll (kl K) (kG K)  e5) (by decide) rfl rfl (Nat.le_of_ble_eq_true rfl) dX11_wet_14 ?_
    refine ro_if_ne hK 22 dX11_wet_17 (by decide) (fun c6 => ?_) (fun c6 => ?_)
    · have hf := ro_ie hf c6
      refine ro_aload_n hK 1 rfl dX11_wet_22 rfl ?_
      obtain ⟨q7, e8, hf⟩ := ro_bd hf
      refine ro_callvv hK [] ml_X11_176 mv_X11_refresh (mt_X11_refresh (kl K) (kG K)  e8) sh_0 ⟨_, rfl, rfl⟩ (by decide) rfl rfl (Nat.le_of_ble_eq_true rfl) dX11_wet_23 ?_
      refine ro_aload_n hK 1 rfl dX11_wet_26 rfl ?_
      refine ro_getr hK fl_X11_47 sh_0 dX11_wet_27 ?_
      refine ro_iload hK 0 rfl dX11_wet_30 ?_
      refine ro_iload_n hK 4 rfl dX11_wet_32 rfl ?_
      obtain ⟨q9, e10, hf⟩ := ro_bd hf
      refine ro_callvi hK [.int q1, .int v3] ml_X11_185 mv_X0_seatWet (mt_X0_seatWet (kl K) (kG K)  e10) sh_62 ⟨_, rfl, rfl⟩ (by decide) rfl rfl (Nat.le_of_ble_eq_true rfl) dX11_wet_33 ?_
      obtain rfl := Option.some.inj hf
      exact ro_iret hK hR dX11_wet_36 hq
    · have hf := ro_it hf c6
      refine ro_iconst (v := (-1)) hK dX11_wet_20 (by decide) ?_
      obtain rfl := Option.some.inj hf
      exact ro_iret hK hR dX11_wet_21 hq
theorem mt_X11_wet (l : Launch) (G : ro_G) {v1 : Int32} {v2 : Int32} {v3 : Int32}  {μ : ro_Mem} {out : Int32 × ro_Mem} (hf : fn_X11_wet v1 v2 v3 μ = some out) : ro_MX l G yX11_wet cX11_wet 5 (some .int) 6 [.ref (ro_ad G 0), .int v1, .int v2, .int v3] μ (some (.int out.1)) out.2 := by
  refine ro_MX.of (by decide +kernel) (Nat.le_of_ble_eq_true rfl) (fun K hG hl hq hK hR => ?_)
  subst hG
  exact be_X11_wet hK hR  hf hq
-- ===== X11_wetOfGuest =====
theorem dX11_wetOfGuest_0 : decode cX11_wetOfGuest 0 = .ok (.iload_n 2, 1) := by decide +kernel
theorem dX11_wetOfGuest_1 : decode cX11_wetOfGuest 1 = .ok (.iconst 4, 1) := by decide +kernel
theorem dX11_wetOfGuest_2 : decode cX11_wetOfGuest 2 = .ok (.if_icmp .ne 7, 3) := by decide +kernel
theorem dX11_wetOfGuest_5 : decode cX11_wetOfGuest 5 = .ok (.iconst 0, 1) := by decide +kernel
theorem dX11_wetOfGuest_6 : decode cX11_wetOfGuest 6 = .ok (.goto 4, 3) := by decide +kernel
theorem dX11_wetOfGuest_9 : decode cX11_wetOfGuest 9 = .ok (.iload_n 2, 1) := by decide +kernel
theorem dX11_wetOfGuest_10 : decode cX11_wetOfGuest 10 = .ok (.istore_n 3, 1) := by decide +kernel
theorem dX11_wetOfGuest_11 : decode cX11_wetOfGuest 11 = .ok (.iload_n 2, 1) := by decide +kernel
theorem dX11_wetOfGuest_12 : decode cX11_wetOfGuest 12 = .ok (.iconst 4, 1) := by decide +kernel
theorem dX11_wetOfGuest_13 : decode cX11_wetOfGuest 13 = .ok (.if_icmp .ne 7, 3) := by decide +kernel
theorem dX11_wetOfGuest_16 : decode cX11_wetOfGuest 16 = .ok (.iconst 3, 1) := by decide +kernel
theorem dX11_wetOfGuest_17 : decode cX11_wetOfGuest 17 = .ok (.goto 4, 3) := by decide +kernel
theorem dX11_wetOfGuest_20 : decode cX11_wetOfGuest 20 = .ok (.iload_n 2, 1) := by decide +kernel
theorem dX11_wetOfGuest_21 : decode cX11_wetOfGuest 21 = .ok (.istore 4, 2) := by decide +kernel
theorem dX11_wetOfGuest_23 : decode cX11_wetOfGuest 23 = .ok (.iconst 0, 1) := by decide +kernel
theorem dX11_wetOfGuest_24 : decode cX11_wetOfGuest 24 = .ok (.istore 5, 2) := by decide +kernel
theorem dX11_wetOfGuest_26 : decode cX11_wetOfGuest 26 = .ok (.iload_n 3, 1) := by decide +kernel
theorem dX11_wetOfGuest_27 : decode cX11_wetOfGuest 27 = .ok (.istore 6, 2) := by decide +kernel
theorem dX11_wetOfGuest_29 : decode cX11_wetOfGuest 29 = .ok (.iload 6, 2) := by decide +kernel
theorem dX11_wetOfGuest_31 : decode cX11_wetOfGuest 31 = .ok (.iload 4, 2) := by decide +kernel
theorem dX11_wetOfGuest_33 : decode cX11_wetOfGuest 33 = .ok (.if_icmp .gt 61, 3) := by decide +kernel
theorem dX11_wetOfGuest_36 : decode cX11_wetOfGuest 36 = .ok (.aload_n 0, 1) := by decide +kernel
theorem dX11_wetOfGuest_37 : decode cX11_wetOfGuest 37 = .ok (.getfield 10, 3) := by decide +kernel
theorem dX11_wetOfGuest_40 : decode cX11_wetOfGuest 40 = .ok (.getfield 89, 3) := by decide +kernel
theorem dX11_wetOfGuest_43 : decode cX11_wetOfGuest 43 = .ok (.getfield 131, 3) := by decide +kernel
theorem dX11_wetOfGuest_46 : decode cX11_wetOfGuest 46 = .ok (.iload 6, 2) := by decide +kernel
theorem dX11_wetOfGuest_48 : decode cX11_wetOfGuest 48 = .ok (.bipush 10, 2) := by decide +kernel
theorem dX11_wetOfGuest_50 : decode cX11_wetOfGuest 50 = .ok (.imul, 1) := by decide +kernel
theorem dX11_wetOfGuest_51 : decode cX11_wetOfGuest 51 = .ok (.iload_n 1, 1) := by decide +kernel
theorem dX11_wetOfGuest_52 : decode cX11_wetOfGuest 52 = .ok (.iadd, 1) := by decide +kernel
theorem dX11_wetOfGuest_53 : decode cX11_wetOfGuest 53 = .ok (.iaload, 1) := by decide +kernel
theorem dX11_wetOfGuest_54 : decode cX11_wetOfGuest 54 = .ok (.istore 7, 2) := by decide +kernel
theorem dX11_wetOfGuest_56 : decode cX11_wetOfGuest 56 = .ok (.iload 5, 2) := by decide +kernel
theorem dX11_wetOfGuest_58 : decode cX11_wetOfGuest 58 = .ok (.iload 7, 2) := by decide +kernel
theorem dX11_wetOfGuest_60 : decode cX11_wetOfGuest 60 = .ok (.bipush 96, 2) := by decide +kernel
theorem dX11_wetOfGuest_62 : decode cX11_wetOfGuest 62 = .ok (.if_icmp .ge 22, 3) := by decide +kernel
theorem dX11_wetOfGuest_65 : decode cX11_wetOfGuest 65 = .ok (.aload_n 0, 1) := by decide +kernel
theorem dX11_wetOfGuest_66 : decode cX11_wetOfGuest 66 = .ok (.getfield 47, 3) := by decide +kernel
theorem dX11_wetOfGuest_69 : decode cX11_wetOfGuest 69 = .ok (.getfield 356, 3) := by decide +kernel
theorem dX11_wetOfGuest_72 : decode cX11_wetOfGuest 72 = .ok (.iload 6, 2) := by decide +kernel
theorem dX11_wetOfGuest_74 : decode cX11_wetOfGuest 74 = .ok (.bipush 96, 2) := by decide +kernel
theorem dX11_wetOfGuest_76 : decode cX11_wetOfGuest 76 = .ok (.imul, 1) := by decide +kernel
theorem dX11_wetOfGuest_77 : decode cX11_wetOfGuest 77 = .ok (.iload 7, 2) := by decide +kernel
theorem dX11_wetOfGuest_79 : decode cX11_wetOfGuest 79 = .ok (.iadd, 1) := by decide +kernel
theorem dX11_wetOfGuest_80 : decode cX11_wetOfGuest 80 = .ok (.iaload, 1) := by decide +kernel
theorem dX11_wetOfGuest_81 : decode cX11_wetOfGuest 81 = .ok (.goto 4, 3) := by decide +kernel
theorem dX11_wetOfGuest_84 : decode cX11_wetOfGuest 84 = .ok (.iconst 0, 1) := by decide +kernel
theorem dX11_wetOfGuest_85 : decode cX11_wetOfGuest 85 = .ok (.iadd, 1) := by decide +kernel
theorem dX11_wetOfGuest_86 : decode cX11_wetOfGuest 86 = .ok (.istore 5, 2) := by decide +kernel
theorem dX11_wetOfGuest_88 : decode cX11_wetOfGuest 88 = .ok (.iinc 6 1, 3) := by decide +kernel
theorem dX11_wetOfGuest_91 : decode cX11_wetOfGuest 91 = .ok (.goto (-62), 3) := by decide +kernel
theorem dX11_wetOfGuest_94 : decode cX11_wetOfGuest 94 = .ok (.iload 5, 2) := by decide +kernel
theorem dX11_wetOfGuest_96 : decode cX11_wetOfGuest 96 = .ok (.ireturn, 1) := by decide +kernel
def ok_X11_wetOfGuest_29 (K : ro_K) (v1 : Int32) (v4 : Int32) (μ : ro_Mem) : Int32 → Prop := fun e => ro_X K 94 [(5, .int e)] [] μ
def fb_X11_wetOfGuest_29 (v1 : Int32) (v4 : Int32) (μ : ro_Mem) (rec : (Int32 × Int32) → Option Int32) (v5 : Int32) (v6 : Int32) : Option Int32 :=
  if v4 < v6 then
  (some v5)
  else
  (if ro_in ((v6 * 10) + v1) 40 then
  (ro_lt (μ 11 ((v6 * 10) + v1).toNatClampNeg) fun z5 =>
  if 96 ≤ z5 then
  (ro_lt (v5 + 0) fun z8 =>
  rec (z8, v6 + 1))
  else
  (if ro_in ((v6 * 96) + z5) 384 then
  (ro_lt (v5 + (μ 65 ((v6 * 96) + z5).toNatClampNeg)) fun z11 =>
  rec (z11, v6 + 1)) else none)) else none)
theorem bb_X11_wetOfGuest_29 {K : ro_K} (hK : ro_C K RX11 cX11_wetOfGuest 8 0) (hR : ro_R K (some .int)) {v1 : Int32} {v4 : Int32}  {μ : ro_Mem} {rec : (Int32 × Int32) → Option Int32} {v5 : Int32} {v6 : Int32} {q : Int32} (hrec : ∀ (s : Int32 × Int32) (q : Int32), rec s = some q → ok_X11_wetOfGuest_29 K v1 v4 μ q → ro_X K 29 [(0, .ref (ro_ad (kG K) 0)), (1, .int v1), (4, .int v4), (5, .int s.1), (6, .int s.2)] [] μ) (hf : fb_X11_wetOfGuest_29 v1 v4 μ rec v5 v6 = some q) (hq : ok_X11_wetOfGuest_29 K v1 v4 μ q) : ro_X K 29 [(0, .ref (ro_ad (kG K) 0)), (1, .int v1), (4, .int v4), (5, .int v5), (6, .int v6)] [] μ := by
  unfold fb_X11_wetOfGuest_29 at hf
  refine ro_iload hK 4 rfl dX11_wetOfGuest_29 ?_
  refine ro_iload hK 2 rfl dX11_wetOfGuest_31 ?_
  refine ro_icmp_gt hK 94 dX11_wetOfGuest_33 (by decide) (fun c3 => ?_) (fun c3 => ?_)
  · have hf := ro_it hf c3
    refine ro_sub (L' := [(5, .int v5)]) [3] rfl ?_
    obtain rfl := Option.some.inj hf
    exact hq
  · have hf := ro_ie hf c3
    refine ro_aload_n hK 0 rfl dX11_wetOfGuest_36 rfl ?_
    refine ro_getr hK fl_X11_10 sh_0 dX11_wetOfGuest_37 ?_
    refine ro_getr hK fl_X11_89 sh_1 dX11_wetOfGuest_40 ?_
    refine ro_getr hK fl_X11_131 sh_2 dX11_wetOfGuest_43 ?_
    refine ro_iload hK 4 rfl dX11_wetOfGuest_46 ?_
    refine ro_bipush (v := 10) hK dX11_wetOfGuest_48 (by decide) ?_
    refine ro_imul hK dX11_wetOfGuest_50 ?_
    refine ro_iload_n hK 1 rfl dX11_wetOfGuest_51 rfl ?_
    refine ro_iadd hK dX11_wetOfGuest_52 ?_
    obtain ⟨g4, hf⟩ := ro_gd hf
    refine ro_iald hK sh_11 g4 dX11_wetOfGuest_53 ?_
    obtain ⟨z5, e6, hf⟩ := ro_ld hf
    refine ro_iv e6 ?_
    refine ro_istore (L' := [(7, .int z5), (0, .ref (ro_ad (kG K) 0)), (1, .int v1), (4, .int v4), (5, .int v5), (6, .int v6)]) hK dX11_wetOfGuest_54 (by decide) rfl ?_
    refine ro_iload hK 4 rfl dX11_wetOfGuest_56 ?_
    refine ro_iload hK 0 rfl dX11_wetOfGuest_58 ?_
    refine ro_bipush (v := 96) hK dX11_wetOfGuest_60 (by decide) ?_
    refine ro_icmp_ge hK 84 dX11_wetOfGuest_62 (by decide) (fun c7 => ?_) (fun c7 => ?_)
    · have hf := ro_it hf c7
      refine ro_iconst (v := 0) hK dX11_wetOfGuest_84 (by decide) ?_
      refine ro_iadd hK dX11_wetOfGuest_85 ?_
      obtain ⟨z8, e9, hf⟩ := ro_ld hf
      refine ro_iv e9 ?_
      refine ro_istore (L' := [(5, .int z8), (7, .int z5), (0, .ref (ro_ad (kG K) 0)), (1, .int v1), (4, .int v4), (6, .int v6)]) hK dX11_wetOfGuest_86 (by decide) rfl ?_
      refine ro_iinc (v := v6 + 1) (L' := [(6, .int (v6 + 1)), (5, .int z8), (7, .int z5), (0, .ref (ro_ad (kG K) 0)), (1, .int v1), (4, .int v4)]) hK 5 rfl dX11_wetOfGuest_88 rfl (by decide) rfl ?_
      refine ro_goto hK 29 dX11_wetOfGuest_91 (by decide) ?_
      refine ro_sub (L' := [(0, .ref (ro_ad (kG K) 0)), (1, .int v1), (4, .int v4), (5, .int z8), (6, .int (v6 + 1))]) [3, 4, 5, 1, 0] rfl ?_
      exact hrec (z8, v6 + 1) _ hf hq
    · have hf := ro_ie hf c7
      refine ro_aload_n hK 1 rfl dX11_wetOfGuest_65 rfl ?_
      refine ro_getr hK fl_X11_47 sh_0 dX11_wetOfGuest_66 ?_
      refine ro_getr hK fl_X11_356 sh_62 dX11_wetOfGuest_69 ?_
      refine ro_iload hK 5 rfl dX11_wetOfGuest_72 ?_
      refine ro_bipush (v := 96) hK dX11_wetOfGuest_74 (by decide) ?_
      refine ro_imul hK dX11_wetOfGuest_76 ?_
      refine ro_iload hK 0 rfl dX11_wetOfGuest_77 ?_
      refine ro_iadd hK dX11_wetOfGuest_79 ?_
      obtain ⟨g10, hf⟩ := ro_gd hf
      refine ro_iald hK sh_65 g10 dX11_wetOfGuest_80 ?_
      refine ro_goto hK 85 dX11_wetOfGuest_81 (by decide) ?_
      refine ro_iadd hK dX11_wetOfGuest_85 ?_
      obtain ⟨z11, e12, hf⟩ := ro_ld hf
      refine ro_iv e12 ?_
      refine ro_istore (L' := [(5, .int z11), (7, .int z5), (0, .ref (ro_ad (kG K) 0)), (1, .int v1), (4, .int v4), (6, .int v6)]) hK dX11_wetOfGuest_86 (by decide) rfl ?_
      refine ro_iinc (v := v6 + 1) (L' := [(6, .int (v6 + 1)), (5, .int z11), (7, .int z5), (0, .ref (ro_ad (kG K) 0)), (1, .int v1), (4, .int v4)]) hK 5 rfl dX11_wetOfGuest_88 rfl (by decide) rfl ?_
      refine ro_goto hK 29 dX11_wetOfGuest_91 (by decide) ?_
      refine ro_sub (L' := [(0, .ref (ro_ad (kG K) 0)), (1, .int v1), (4, .int v4), (5, .int z11), (6, .int (v6 + 1))]) [3, 4, 5, 1, 0] rfl ?_
      exact hrec (z11, v6 + 1) _ hf hq
def fl_X11_wetOfGuest_29 (v1 : Int32) (v4 : Int32) (μ : ro_Mem) : (Int32 × Int32) → Option Int32 :=
  ro_loop (fun rec s => fb_X11_wetOfGuest_29 v1 v4 μ rec s.1 s.2) ro_FU
theorem lp_X11_wetOfGuest_29 {K : ro_K} (hK : ro_C K RX11 cX11_wetOfGuest 8 0) (hR : ro_R K (some .int)) {v1 : Int32} {v4 : Int32}  {μ : ro_Mem} {s : Int32 × Int32} {q : Int32} (hf : fl_X11_wetOfGuest_29 v1 v4 μ s = some q) (hq : ok_X11_wetOfGuest_29 K v1 v4 μ q) : ro_X K 29 [(0, .ref (ro_ad (kG K) 0)), (1, .int v1), (4, .int v4), (5, .int s.1), (6, .int s.2)] [] μ :=
  ro_loopX (b := fun rec s => fb_X11_wetOfGuest_29 v1 v4 μ rec s.1 s.2) (X := fun s => ro_X K 29 [(0, .ref (ro_ad (kG K) 0)), (1, .int v1), (4, .int v4), (5, .int s.1), (6, .int s.2)] [] μ) (OK := ok_X11_wetOfGuest_29 K v1 v4 μ) (fun rec s q hrec hb ho => bb_X11_wetOfGuest_29 hK hR  hrec hb ho) ro_FU s q hf hq
def fj_X11_wetOfGuest_21 (v1 : Int32) (v3 : Int32) (t0 : Int32) (μ : ro_Mem) : Option Int32 :=
  (fl_X11_wetOfGuest_29 v1 t0 μ (0, v3)).bind fun q13 =>
  some q13
theorem bj_X11_wetOfGuest_21 {K : ro_K} (hK : ro_C K RX11 cX11_wetOfGuest 8 0) (hR : ro_R K (some .int)) {v1 : Int32} {v3 : Int32} {t0 : Int32}   {μ : ro_Mem}  {out : Int32} (hf : fj_X11_wetOfGuest_21 v1 v3 t0 μ = some out) (hq : kQ K (some (.int out)) μ) : ro_X K 21 [(0, .ref (ro_ad (kG K) 0)), (1, .int v1), (3, .int v3)] [.int t0] μ := by
  unfold fj_X11_wetOfGuest_21 at hf
  refine ro_istore (L' := [(4, .int t0), (0, .ref (ro_ad (kG K) 0)), (1, .int v1), (3, .int v3)]) hK dX11_wetOfGuest_21 (by decide) rfl ?_
  refine ro_iconst (v := 0) hK dX11_wetOfGuest_23 (by decide) ?_
  refine ro_istore (L' := [(5, .int 0), (4, .int t0), (0, .ref (ro_ad (kG K) 0)), (1, .int v1), (3, .int v3)]) hK dX11_wetOfGuest_24 (by decide) rfl ?_
  refine ro_iload_n hK 4 rfl dX11_wetOfGuest_26 rfl ?_
  refine ro_istore (L' := [(6, .int v3), (5, .int 0), (4, .int t0), (0, .ref (ro_ad (kG K) 0)), (1, .int v1), (3, .int v3)]) hK dX11_wetOfGuest_27 (by decide) rfl ?_
  obtain ⟨q13, e14, hf⟩ := ro_bd hf
  refine ro_sub (L' := [(0, .ref (ro_ad (kG K) 0)), (1, .int v1), (4, .int t0), (5, .int 0), (6, .int v3)]) [3, 4, 2, 1, 0] rfl ?_
  refine lp_X11_wetOfGuest_29 hK hR  e14 ?_
  show ro_X K 94 [(5, .int q13)] [] μ
  refine ro_iload hK 0 rfl dX11_wetOfGuest_94 ?_
  obtain rfl := Option.some.inj hf
  exact ro_iret hK hR dX11_wetOfGuest_96 hq
def fj_X11_wetOfGuest_10 (v1 : Int32) (v2 : Int32) (t0 : Int32) (μ : ro_Mem) : Option Int32 :=
  if v2 = 4 then
  (fj_X11_wetOfGuest_21 v1 t0 3 μ)
  else
  (fj_X11_wetOfGuest_21 v1 t0 v2 μ)
theorem bj_X11_wetOfGuest_10 {K : ro_K} (hK : ro_C K RX11 cX11_wetOfGuest 8 0) (hR : ro_R K (some .int)) {v1 : Int32} {v2 : Int32} {t0 : Int32}   {μ : ro_Mem}  {out : Int32} (hf : fj_X11_wetOfGuest_10 v1 v2 t0 μ = some out) (hq : kQ K (some (.int out)) μ) : ro_X K 10 [(0, .ref (ro_ad (kG K) 0)), (1, .int v1), (2, .int v2)] [.int t0] μ := by
  unfold fj_X11_wetOfGuest_10 at hf
  refine ro_istore_n (L' := [(3, .int t0), (0, .ref (ro_ad (kG K) 0)), (1, .int v1), (2, .int v2)]) hK dX11_wetOfGuest_10 rfl (by decide) rfl ?_
  refine ro_iload_n hK 3 rfl dX11_wetOfGuest_11 rfl ?_
  refine ro_iconst (v := 4) hK dX11_wetOfGuest_12 (by decide) ?_
  refine ro_icmp_ne hK 20 dX11_wetOfGuest_13 (by decide) (fun c2 => ?_) (fun c2 => ?_)
  · have hf := ro_ie hf c2
    refine ro_iload_n hK 3 rfl dX11_wetOfGuest_20 rfl ?_
    refine ro_sub (L' := [(0, .ref (ro_ad (kG K) 0)), (1, .int v1), (3, .int t0)]) [1, 2, 0] rfl ?_
    exact bj_X11_wetOfGuest_21 hK hR  hf hq
  · have hf := ro_it hf c2
    refine ro_iconst (v := 3) hK dX11_wetOfGuest_16 (by decide) ?_
    refine ro_goto hK 21 dX11_wetOfGuest_17 (by decide) ?_
    refine ro_sub (L' := [(0, .ref (ro_ad (kG K) 0)), (1, .int v1), (3, .int t0)]) [1, 2, 0] rfl ?_
    exact bj_X11_wetOfGuest_21 hK hR  hf hq
def fn_X11_wetOfGuest (v1 : Int32) (v2 : Int32) (μ : ro_Mem) : Option Int32 :=
  if v2 = 4 then
  (fj_X11_wetOfGuest_10 v1 v2 0 μ)
  else
  (fj_X11_wetOfGuest_10 v1 v2 v2 μ)
theorem be_X11_wetOfGuest {K : ro_K} (hK : ro_C K RX11 cX11_wetOfGuest 8 0) (hR : ro_R K (some .int)) {v1 : Int32} {v2 : Int32}  {μ : ro_Mem} {out : Int32} (hf : fn_X11_wetOfGuest v1 v2 μ = some out) (hq : kQ K (some (.int out)) μ) : ro_X K 0 [(0, .ref (ro_ad (kG K) 0)), (1, .int v1), (2, .int v2)] [] μ := by
  unfold fn_X11_wetOfGuest at hf
  refine ro_iload_n hK 2 rfl dX11_wetOfGuest_0 rfl ?_
  refine ro_iconst (v := 4) hK dX11_wetOfGuest_1 (by decide) ?_
  refine ro_icmp_ne hK 9 dX11_wetOfGuest_2 (by decide) (fun c1 => ?_) (fun c1 => ?_)
  · have hf := ro_ie hf c1
    refine ro_iload_n hK 2 rfl dX11_wetOfGuest_9 rfl ?_
    exact bj_X11_wetOfGuest_10 hK hR  hf hq
  · have hf := ro_it hf c1
    refine ro_iconst (v := 0) hK dX11_wetOfGuest_5 (by decide) ?_
    refine ro_goto hK 10 dX11_wetOfGuest_6 (by decide) ?_
    exact bj_X11_wetOfGuest_10 hK hR  hf hq
theorem mt_X11_wetOfGuest (l : Launch) (G : ro_G) {v1 : Int32} {v2 : Int32}  {μ : ro_Mem} {out : Int32} (hf : fn_X11_wetOfGuest v1 v2 μ = some out) : ro_MX l G yX11_wetOfGuest cX11_wetOfGuest 8 (some .int) 0 [.ref (ro_ad G 0), .int v1, .int v2] μ (some (.int out)) μ := by
  refine ro_MX.of (by decide +kernel) (Nat.le_of_ble_eq_true rfl) (fun K hG hl hq hK hR => ?_)
  subst hG
  exact be_X11_wetOfGuest hK hR  hf hq
-- ===== X11_guestWet =====
theorem dX11_guestWet_0 : decode cX11_guestWet 0 = .ok (.aload_n 0, 1) := by decide +kernel
theorem dX11_guestWet_1 : decode cX11_guestWet 1 = .ok (.getfield 10, 3) := by decide +kernel
theorem dX11_guestWet_4 : decode cX11_guestWet 4 = .ok (.getfield 89, 3) := by decide +kernel
theorem dX11_guestWet_7 : decode cX11_guestWet 7 = .ok (.iload_n 1, 1) := by decide +kernel
theorem dX11_guestWet_8 : decode cX11_guestWet 8 = .ok (.invokevirtual 125, 3) := by decide +kernel
theorem dX11_guestWet_11 : decode cX11_guestWet 11 = .ok (.ifCond .eq 10, 3) := by decide +kernel
theorem dX11_guestWet_14 : decode cX11_guestWet 14 = .ok (.iload_n 2, 1) := by decide +kernel
theorem dX11_guestWet_15 : decode cX11_guestWet 15 = .ok (.invokestatic 182, 3) := by decide +kernel
theorem dX11_guestWet_18 : decode cX11_guestWet 18 = .ok (.ifCond .ne 5, 3) := by decide +kernel
theorem dX11_guestWet_21 : decode cX11_guestWet 21 = .ok (.iconst (-1), 1) := by decide +kernel
theorem dX11_guestWet_22 : decode cX11_guestWet 22 = .ok (.ireturn, 1) := by decide +kernel
theorem dX11_guestWet_23 : decode cX11_guestWet 23 = .ok (.aload_n 0, 1) := by decide +kernel
theorem dX11_guestWet_24 : decode cX11_guestWet 24 = .ok (.invokevirtual 176, 3) := by decide +kernel
theorem dX11_guestWet_27 : decode cX11_guestWet 27 = .ok (.aload_n 0, 1) := by decide +kernel
theorem dX11_guestWet_28 : decode cX11_guestWet 28 = .ok (.iload_n 1, 1) := by decide +kernel
theorem dX11_guestWet_29 : decode cX11_guestWet 29 = .ok (.iload_n 2, 1) := by decide +kernel
theorem dX11_guestWet_30 : decode cX11_guestWet 30 = .ok (.invokevirtual 188, 3) := by decide +kernel
theorem dX11_guestWet_33 : decode cX11_guestWet 33 = .ok (.ireturn, 1) := by decide +kernel
def fn_X11_guestWet (v1 : Int32) (v2 : Int32) (μ : ro_Mem) : Option (Int32 × ro_Mem) :=
  (fn_X1_isGuest 2 v1 μ).bind fun q1 =>
  if q1 = 0 then
  (some ((-1), μ))
  else
  ((fn_X11_isActOrAll v2).bind fun q4 =>
  if q4 = 0 then
  (some ((-1), μ))
  else
  ((fn_X11_refresh μ).bind fun q7 =>
  (fn_X11_wetOfGuest v1 v2 q7).bind fun q9 =>
  some (q9, q7)))
theorem be_X11_guestWet {K : ro_K} (hK : ro_C K RX11 cX11_guestWet 3 6) (hR : ro_R K (some .int)) {v1 : Int32} {v2 : Int32}  {μ : ro_Mem} {out : Int32 × ro_Mem} (hf : fn_X11_guestWet v1 v2 μ = some out) (hq : kQ K (some (.int out.1)) out.2) : ro_X K 0 [(0, .ref (ro_ad (kG K) 0)), (1, .int v1), (2, .int v2)] [] μ := by
  unfold fn_X11_guestWet at hf
  refine ro_aload_n hK 0 rfl dX11_guestWet_0 rfl ?_
  refine ro_getr hK fl_X11_10 sh_0 dX11_guestWet_1 ?_
  refine ro_getr hK fl_X11_89 sh_1 dX11_guestWet_4 ?_
  refine ro_iload_n hK 1 rfl dX11_guestWet_7 rfl ?_
  obtain ⟨q1, e2, hf⟩ := ro_bd hf
  refine ro_callvi hK [.int v1] ml_X11_125 mv_X1_isGuest (mt_X1_isGuest (kl K) (kG K) sh_2 e2) sh_2 ⟨_, rfl, rfl⟩ (by decide) rfl rfl (Nat.le_of_ble_eq_true rfl) dX11_guestWet_8 ?_
  refine ro_if_eq hK 21 dX11_guestWet_11 (by decide) (fun c3 => ?_) (fun c3 => ?_)
  · have hf := ro_it hf c3
    refine ro_iconst (v := (-1)) hK dX11_guestWet_21 (by decide) ?_
    obtain rfl := Option.some.inj hf
    exact ro_iret hK hR dX11_guestWet_22 hq
  · have hf := ro_ie hf c3
    refine ro_iload_n hK 2 rfl dX11_guestWet_14 rfl ?_
    obtain ⟨q4, e5, hf⟩ := ro_bd hf
    refine ro_callsi hK [.int v2] ml_X11_182 ms_X11_isActOrAll (mt_X11_isActOrAll (kl K) (kG K)  e5) (by decide) rfl rfl (Nat.le_of_ble_eq_true rfl) dX11_guestWet_15 ?_
    refine ro_if_ne hK 23 dX11_guestWet_18 (by decide) (fun c6 => ?_) (fun c6 => ?_)
    · have hf := ro_ie hf c6
      refine ro_aload_n hK 0 rfl dX11_guestWet_23 rfl ?_
      obtain ⟨q7, e8, hf⟩ := ro_bd hf
      refine ro_callvv hK [] ml_X11_176 mv_X11_refresh (mt_X11_refresh (kl K) (kG K)  e8) sh_0 ⟨_, rfl, rfl⟩ (by decide) rfl rfl (Nat.le_of_ble_eq_true rfl) dX11_guestWet_24 ?_
      refine ro_aload_n hK 0 rfl dX11_guestWet_27 rfl ?_
      refine ro_iload_n hK 1 rfl dX11_guestWet_28 rfl ?_
      refine ro_iload_n hK 2 rfl dX11_guestWet_29 rfl ?_
      obtain ⟨q9, e10, hf⟩ := ro_bd hf
      refine ro_callvi hK [.int v1, .int v2] ml_X11_188 mv_X11_wetOfGuest (mt_X11_wetOfGuest (kl K) (kG K)  e10) sh_0 ⟨_, rfl, rfl⟩ (by decide) rfl rfl (Nat.le_of_ble_eq_true rfl) dX11_guestWet_30 ?_
      obtain rfl := Option.some.inj hf
      exact ro_iret hK hR dX11_guestWet_33 hq
    · have hf := ro_it hf c6
      refine ro_iconst (v := (-1)) hK dX11_guestWet_21 (by decide) ?_
      obtain rfl := Option.some.inj hf
      exact ro_iret hK hR dX11_guestWet_22 hq
theorem mt_X11_guestWet (l : Launch) (G : ro_G) {v1 : Int32} {v2 : Int32}  {μ : ro_Mem} {out : Int32 × ro_Mem} (hf : fn_X11_guestWet v1 v2 μ = some out) : ro_MX l G yX11_guestWet cX11_guestWet 3 (some .int) 6 [.ref (ro_ad G 0), .int v1, .int v2] μ (some (.int out.1)) out.2 := by
  refine ro_MX.of (by decide +kernel) (Nat.le_of_ble_eq_true rfl) (fun K hG hl hq hK hR => ?_)
  subst hG
  exact be_X11_guestWet hK hR  hf hq
-- ===== X11_house =====
theorem dX11_house_0 : decode cX11_house 0 = .ok (.iload_n 1, 1) := by decide +kernel
theorem dX11_house_1 : decode cX11_house 1 = .ok (.ifCond .ne 35, 3) := by decide +kernel
theorem dX11_house_4 : decode cX11_house 4 = .ok (.iload_n 2, 1) := by decide +kernel
theorem dX11_house_5 : decode cX11_house 5 = .ok (.ifCond .lt 31, 3) := by decide +kernel
theorem dX11_house_8 : decode cX11_house 8 = .ok (.iload_n 2, 1) := by decide +kernel
theorem dX11_house_9 : decode cX11_house 9 = .ok (.aload_n 0, 1) := by decide +kernel
theorem dX11_house_10 : decode cX11_house 10 = .ok (.getfield 10, 3) := by decide +kernel
theorem dX11_house_13 : decode cX11_house 13 = .ok (.getfield 147, 3) := by decide +kernel
theorem dX11_house_16 : decode cX11_house 16 = .ok (.getfield 158, 3) := by decide +kernel
theorem dX11_house_19 : decode cX11_house 19 = .ok (.if_icmp .ge 17, 3) := by decide +kernel
theorem dX11_house_22 : decode cX11_house 22 = .ok (.aload_n 0, 1) := by decide +kernel
theorem dX11_house_23 : decode cX11_house 23 = .ok (.invokevirtual 176, 3) := by decide +kernel
theorem dX11_house_26 : decode cX11_house 26 = .ok (.aload_n 0, 1) := by decide +kernel
theorem dX11_house_27 : decode cX11_house 27 = .ok (.getfield 47, 3) := by decide +kernel
theorem dX11_house_30 : decode cX11_house 30 = .ok (.getfield 191, 3) := by decide +kernel
theorem dX11_house_33 : decode cX11_house 33 = .ok (.iload_n 2, 1) := by decide +kernel
theorem dX11_house_34 : decode cX11_house 34 = .ok (.iaload, 1) := by decide +kernel
theorem dX11_house_35 : decode cX11_house 35 = .ok (.ireturn, 1) := by decide +kernel
theorem dX11_house_36 : decode cX11_house 36 = .ok (.iload_n 1, 1) := by decide +kernel
theorem dX11_house_37 : decode cX11_house 37 = .ok (.iconst 1, 1) := by decide +kernel
theorem dX11_house_38 : decode cX11_house 38 = .ok (.if_icmp .ne 31, 3) := by decide +kernel
theorem dX11_house_41 : decode cX11_house 41 = .ok (.aload_n 0, 1) := by decide +kernel
theorem dX11_house_42 : decode cX11_house 42 = .ok (.getfield 10, 3) := by decide +kernel
theorem dX11_house_45 : decode cX11_house 45 = .ok (.getfield 89, 3) := by decide +kernel
theorem dX11_house_48 : decode cX11_house 48 = .ok (.iload_n 2, 1) := by decide +kernel
theorem dX11_house_49 : decode cX11_house 49 = .ok (.invokevirtual 104, 3) := by decide +kernel
theorem dX11_house_52 : decode cX11_house 52 = .ok (.ifCond .eq 17, 3) := by decide +kernel
theorem dX11_house_55 : decode cX11_house 55 = .ok (.aload_n 0, 1) := by decide +kernel
theorem dX11_house_56 : decode cX11_house 56 = .ok (.invokevirtual 176, 3) := by decide +kernel
theorem dX11_house_59 : decode cX11_house 59 = .ok (.aload_n 0, 1) := by decide +kernel
theorem dX11_house_60 : decode cX11_house 60 = .ok (.getfield 47, 3) := by decide +kernel
theorem dX11_house_63 : decode cX11_house 63 = .ok (.getfield 194, 3) := by decide +kernel
theorem dX11_house_66 : decode cX11_house 66 = .ok (.iload_n 2, 1) := by decide +kernel
theorem dX11_house_67 : decode cX11_house 67 = .ok (.iaload, 1) := by decide +kernel
theorem dX11_house_68 : decode cX11_house 68 = .ok (.ireturn, 1) := by decide +kernel
theorem dX11_house_69 : decode cX11_house 69 = .ok (.iload_n 1, 1) := by decide +kernel
theorem dX11_house_70 : decode cX11_house 70 = .ok (.iconst 2, 1) := by decide +kernel
theorem dX11_house_71 : decode cX11_house 71 = .ok (.if_icmp .ne 36, 3) := by decide +kernel
theorem dX11_house_74 : decode cX11_house 74 = .ok (.iload_n 2, 1) := by decide +kernel
theorem dX11_house_75 : decode cX11_house 75 = .ok (.ifCond .lt 32, 3) := by decide +kernel
theorem dX11_house_78 : decode cX11_house 78 = .ok (.iload_n 2, 1) := by decide +kernel
theorem dX11_house_79 : decode cX11_house 79 = .ok (.ldc 197, 2) := by decide +kernel
theorem dX11_house_81 : decode cX11_house 81 = .ok (.invokevirtual 199, 3) := by decide +kernel
theorem dX11_house_84 : decode cX11_house 84 = .ok (.if_icmp .ge 23, 3) := by decide +kernel
theorem dX11_house_87 : decode cX11_house 87 = .ok (.aload_n 0, 1) := by decide +kernel
theorem dX11_house_88 : decode cX11_house 88 = .ok (.invokevirtual 176, 3) := by decide +kernel
theorem dX11_house_91 : decode cX11_house 91 = .ok (.aload_n 0, 1) := by decide +kernel
theorem dX11_house_92 : decode cX11_house 92 = .ok (.getfield 47, 3) := by decide +kernel
theorem dX11_house_95 : decode cX11_house 95 = .ok (.iload_n 2, 1) := by decide +kernel
theorem dX11_house_96 : decode cX11_house 96 = .ok (.aload_n 0, 1) := by decide +kernel
theorem dX11_house_97 : decode cX11_house 97 = .ok (.getfield 10, 3) := by decide +kernel
theorem dX11_house_100 : decode cX11_house 100 = .ok (.getfield 147, 3) := by decide +kernel
theorem dX11_house_103 : decode cX11_house 103 = .ok (.invokevirtual 204, 3) := by decide +kernel
theorem dX11_house_106 : decode cX11_house 106 = .ok (.ireturn, 1) := by decide +kernel
theorem dX11_house_107 : decode cX11_house 107 = .ok (.iload_n 1, 1) := by decide +kernel
theorem dX11_house_108 : decode cX11_house 108 = .ok (.iconst 3, 1) := by decide +kernel
theorem dX11_house_109 : decode cX11_house 109 = .ok (.if_icmp .ne 23, 3) := by decide +kernel
theorem dX11_house_112 : decode cX11_house 112 = .ok (.iload_n 2, 1) := by decide +kernel
theorem dX11_house_113 : decode cX11_house 113 = .ok (.invokestatic 115, 3) := by decide +kernel
theorem dX11_house_116 : decode cX11_house 116 = .ok (.ifCond .eq 16, 3) := by decide +kernel
theorem dX11_house_119 : decode cX11_house 119 = .ok (.aload_n 0, 1) := by decide +kernel
theorem dX11_house_120 : decode cX11_house 120 = .ok (.invokevirtual 176, 3) := by decide +kernel
theorem dX11_house_123 : decode cX11_house 123 = .ok (.aload_n 0, 1) := by decide +kernel
theorem dX11_house_124 : decode cX11_house 124 = .ok (.getfield 47, 3) := by decide +kernel
theorem dX11_house_127 : decode cX11_house 127 = .ok (.iload_n 2, 1) := by decide +kernel
theorem dX11_house_128 : decode cX11_house 128 = .ok (.invokevirtual 208, 3) := by decide +kernel
theorem dX11_house_131 : decode cX11_house 131 = .ok (.ireturn, 1) := by decide +kernel
theorem dX11_house_132 : decode cX11_house 132 = .ok (.iconst (-1), 1) := by decide +kernel
theorem dX11_house_133 : decode cX11_house 133 = .ok (.ireturn, 1) := by decide +kernel
def fj_X11_house_107 (v1 : Int32) (v2 : Int32) (μ : ro_Mem) : Option (Int32 × ro_Mem) :=
  if v1 = 3 then
  ((fn_X11_isAct v2).bind fun q5 =>
  if q5 = 0 then
  (some ((-1), μ))
  else
  ((fn_X11_refresh μ).bind fun q8 =>
  (fn_X0_actWet v2 q8).bind fun q10 =>
  some (q10, q8)))
  else
  (some ((-1), μ))
theorem bj_X11_house_107 {K : ro_K} (hK : ro_C K RX11 cX11_house 3 6) (hR : ro_R K (some .int)) {v1 : Int32} {v2 : Int32}   {μ : ro_Mem}  {out : Int32 × ro_Mem} (hf : fj_X11_house_107 v1 v2 μ = some out) (hq : kQ K (some (.int out.1)) out.2) : ro_X K 107 [(0, .ref (ro_ad (kG K) 0)), (1, .int v1), (2, .int v2)] [] μ := by
  unfold fj_X11_house_107 at hf
  refine ro_iload_n hK 1 rfl dX11_house_107 rfl ?_
  refine ro_iconst (v := 3) hK dX11_house_108 (by decide) ?_
  refine ro_icmp_ne hK 132 dX11_house_109 (by decide) (fun c4 => ?_) (fun c4 => ?_)
  · have hf := ro_ie hf c4
    refine ro_iconst (v := (-1)) hK dX11_house_132 (by decide) ?_
    obtain rfl := Option.some.inj hf
    exact ro_iret hK hR dX11_house_133 hq
  · have hf := ro_it hf c4
    refine ro_iload_n hK 2 rfl dX11_house_112 rfl ?_
    obtain ⟨q5, e6, hf⟩ := ro_bd hf
    refine ro_callsi hK [.int v2] ml_X11_115 ms_X11_isAct (mt_X11_isAct (kl K) (kG K)  e6) (by decide) rfl rfl (Nat.le_of_ble_eq_true rfl) dX11_house_113 ?_
    refine ro_if_eq hK 132 dX11_house_116 (by decide) (fun c7 => ?_) (fun c7 => ?_)
    · have hf := ro_it hf c7
      refine ro_iconst (v := (-1)) hK dX11_house_132 (by decide) ?_
      obtain rfl := Option.some.inj hf
      exact ro_iret hK hR dX11_house_133 hq
    · have hf := ro_ie hf c7
      refine ro_aload_n hK 0 rfl dX11_house_119 rfl ?_
      obtain ⟨q8, e9, hf⟩ := ro_bd hf
      refine ro_callvv hK [] ml_X11_176 mv_X11_refresh (mt_X11_refresh (kl K) (kG K)  e9) sh_0 ⟨_, rfl, rfl⟩ (by decide) rfl rfl (Nat.le_of_ble_eq_true rfl) dX11_house_120 ?_
      refine ro_aload_n hK 0 rfl dX11_house_123 rfl ?_
      refine ro_getr hK fl_X11_47 sh_0 dX11_house_124 ?_
      refine ro_iload_n hK 2 rfl dX11_house_127 rfl ?_
      obtain ⟨q10, e11, hf⟩ := ro_bd hf
      refine ro_callvi hK [.int v2] ml_X11_208 mv_X0_actWet (mt_X0_actWet (kl K) (kG K)  e11) sh_62 ⟨_, rfl, rfl⟩ (by decide) rfl rfl (Nat.le_of_ble_eq_true rfl) dX11_house_128 ?_
      obtain rfl := Option.some.inj hf
      exact ro_iret hK hR dX11_house_131 hq
def fj_X11_house_69 (v1 : Int32) (v2 : Int32) (μ : ro_Mem) : Option (Int32 × ro_Mem) :=
  if v1 = 2 then
  (if v2 < 0 then
  (fj_X11_house_107 v1 v2 μ)
  else
  ((fn_J0_length_8abf5 0).bind fun q13 =>
  if q13 ≤ v2 then
  (fj_X11_house_107 v1 v2 μ)
  else
  ((fn_X11_refresh μ).bind fun q16 =>
  if ro_sh (ro_rf q16 1 1) = (0, 5) then
  ((fn_X0_voiceWet v2 (ro_rf q16 1 1) q16).bind fun q19 =>
  some (q19, q16)) else none)))
  else
  (fj_X11_house_107 v1 v2 μ)
theorem bj_X11_house_69 {K : ro_K} (hK : ro_C K RX11 cX11_house 3 6) (hR : ro_R K (some .int)) {v1 : Int32} {v2 : Int32}   {μ : ro_Mem}  {out : Int32 × ro_Mem} (hf : fj_X11_house_69 v1 v2 μ = some out) (hq : kQ K (some (.int out.1)) out.2) : ro_X K 69 [(0, .ref (ro_ad (kG K) 0)), (1, .int v1), (2, .int v2)] [] μ := by
  unfold fj_X11_house_69 at hf
  refine ro_iload_n hK 1 rfl dX11_house_69 rfl ?_
  refine ro_iconst (v := 2) hK dX11_house_70 (by decide) ?_
  refine ro_icmp_ne hK 107 dX11_house_71 (by decide) (fun c3 => ?_) (fun c3 => ?_)
  · have hf := ro_ie hf c3
    exact bj_X11_house_107 hK hR  hf hq
  · have hf := ro_it hf c3
    refine ro_iload_n hK 2 rfl dX11_house_74 rfl ?_
    refine ro_if_lt hK 107 dX11_house_75 (by decide) (fun c12 => ?_) (fun c12 => ?_)
    · have hf := ro_it hf c12
      exact bj_X11_house_107 hK hR  hf hq
    · have hf := ro_ie hf c12
      refine ro_iload_n hK 2 rfl dX11_house_78 rfl ?_
      refine ro_ldcs hK hK.2.2.2.2.2.2.2.1.2.2.2.2 dX11_house_79 ?_
      obtain ⟨q13, e14, hf⟩ := ro_bd hf
      refine ro_callst hK [] ml_X11_199 mv_J0_length_8abf5 (mt_J0_length_8abf5 (kl K) (kG K) (by decide) e14) (by decide) rfl (by decide) rfl rfl (Nat.le_of_ble_eq_true rfl) dX11_house_81 ?_
      refine ro_icmp_ge hK 107 dX11_house_84 (by decide) (fun c15 => ?_) (fun c15 => ?_)
      · have hf := ro_it hf c15
        exact bj_X11_house_107 hK hR  hf hq
      · have hf := ro_ie hf c15
        refine ro_aload_n hK 0 rfl dX11_house_87 rfl ?_
        obtain ⟨q16, e17, hf⟩ := ro_bd hf
        refine ro_callvv hK [] ml_X11_176 mv_X11_refresh (mt_X11_refresh (kl K) (kG K)  e17) sh_0 ⟨_, rfl, rfl⟩ (by decide) rfl rfl (Nat.le_of_ble_eq_true rfl) dX11_house_88 ?_
        refine ro_aload_n hK 0 rfl dX11_house_91 rfl ?_
        refine ro_getr hK fl_X11_47 sh_0 dX11_house_92 ?_
        refine ro_iload_n hK 2 rfl dX11_house_95 rfl ?_
        refine ro_aload_n hK 0 rfl dX11_house_96 rfl ?_
        refine ro_getr hK fl_X11_10 sh_0 dX11_house_97 ?_
        obtain ⟨g18, hf⟩ := ro_gd hf
        refine ro_getm hK fl_X11_147 sh_1 dX11_house_100 ?_
        obtain ⟨q19, e20, hf⟩ := ro_bd hf
        refine ro_callvi hK [.int v2, .ref (ro_ad (kG K) (ro_rf q16 1 1))] ml_X11_204 mv_X0_voiceWet (mt_X0_voiceWet (kl K) (kG K) g18 e20) sh_62 ⟨_, rfl, rfl⟩ (by decide) rfl rfl (Nat.le_of_ble_eq_true rfl) dX11_house_103 ?_
        obtain rfl := Option.some.inj hf
        exact ro_iret hK hR dX11_house_106 hq
def fj_X11_house_36 (v1 : Int32) (v2 : Int32) (μ : ro_Mem) : Option (Int32 × ro_Mem) :=
  if v1 = 1 then
  ((fn_X1_isSlate 2 v2 μ).bind fun q21 =>
  if q21 = 0 then
  (fj_X11_house_69 v1 v2 μ)
  else
  ((fn_X11_refresh μ).bind fun q24 =>
  if ro_in v2 16 then
  (some (q24 67 v2.toNatClampNeg, q24)) else none))
  else
  (fj_X11_house_69 v1 v2 μ)
theorem bj_X11_house_36 {K : ro_K} (hK : ro_C K RX11 cX11_house 3 6) (hR : ro_R K (some .int)) {v1 : Int32} {v2 : Int32}   {μ : ro_Mem}  {out : Int32 × ro_Mem} (hf : fj_X11_house_36 v1 v2 μ = some out) (hq : kQ K (some (.int out.1)) out.2) : ro_X K 36 [(0, .ref (ro_ad (kG K) 0)), (1, .int v1), (2, .int v2)] [] μ := by
  unfold fj_X11_house_36 at hf
  refine ro_iload_n hK 1 rfl dX11_house_36 rfl ?_
  refine ro_iconst (v := 1) hK dX11_house_37 (by decide) ?_
  refine ro_icmp_ne hK 69 dX11_house_38 (by decide) (fun c2 => ?_) (fun c2 => ?_)
  · have hf := ro_ie hf c2
    exact bj_X11_house_69 hK hR  hf hq
  · have hf := ro_it hf c2
    refine ro_aload_n hK 0 rfl dX11_house_41 rfl ?_
    refine ro_getr hK fl_X11_10 sh_0 dX11_house_42 ?_
    refine ro_getr hK fl_X11_89 sh_1 dX11_house_45 ?_
    refine ro_iload_n hK 2 rfl dX11_house_48 rfl ?_
    obtain ⟨q21, e22, hf⟩ := ro_bd hf
    refine ro_callvi hK [.int v2] ml_X11_104 mv_X1_isSlate (mt_X1_isSlate (kl K) (kG K) sh_2 e22) sh_2 ⟨_, rfl, rfl⟩ (by decide) rfl rfl (Nat.le_of_ble_eq_true rfl) dX11_house_49 ?_
    refine ro_if_eq hK 69 dX11_house_52 (by decide) (fun c23 => ?_) (fun c23 => ?_)
    · have hf := ro_it hf c23
      exact bj_X11_house_69 hK hR  hf hq
    · have hf := ro_ie hf c23
      refine ro_aload_n hK 0 rfl dX11_house_55 rfl ?_
      obtain ⟨q24, e25, hf⟩ := ro_bd hf
      refine ro_callvv hK [] ml_X11_176 mv_X11_refresh (mt_X11_refresh (kl K) (kG K)  e25) sh_0 ⟨_, rfl, rfl⟩ (by decide) rfl rfl (Nat.le_of_ble_eq_true rfl) dX11_house_56 ?_
      refine ro_aload_n hK 0 rfl dX11_house_59 rfl ?_
      refine ro_getr hK fl_X11_47 sh_0 dX11_house_60 ?_
      refine ro_getr hK fl_X11_194 sh_62 dX11_house_63 ?_
      refine ro_iload_n hK 2 rfl dX11_house_66 rfl ?_
      obtain ⟨g26, hf⟩ := ro_gd hf
      refine ro_iald hK sh_67 g26 dX11_house_67 ?_
      obtain rfl := Option.some.inj hf
      exact ro_iret hK hR dX11_house_68 hq
def fn_X11_house (v1 : Int32) (v2 : Int32) (μ : ro_Mem) : Option (Int32 × ro_Mem) :=
  if v1 = 0 then
  (if v2 < 0 then
  (fj_X11_house_36 v1 v2 μ)
  else
  (if ro_sh (ro_rf μ 1 1) = (0, 5) then
  (if (μ (ro_rf μ 1 1) 5) ≤ v2 then
  (fj_X11_house_36 v1 v2 μ)
  else
  ((fn_X11_refresh μ).bind fun q30 =>
  if ro_in v2 32 then
  (some (q30 66 v2.toNatClampNeg, q30)) else none)) else none))
  else
  (fj_X11_house_36 v1 v2 μ)
theorem be_X11_house {K : ro_K} (hK : ro_C K RX11 cX11_house 3 6) (hR : ro_R K (some .int)) {v1 : Int32} {v2 : Int32}  {μ : ro_Mem} {out : Int32 × ro_Mem} (hf : fn_X11_house v1 v2 μ = some out) (hq : kQ K (some (.int out.1)) out.2) : ro_X K 0 [(0, .ref (ro_ad (kG K) 0)), (1, .int v1), (2, .int v2)] [] μ := by
  unfold fn_X11_house at hf
  refine ro_iload_n hK 1 rfl dX11_house_0 rfl ?_
  refine ro_if_ne hK 36 dX11_house_1 (by decide) (fun c1 => ?_) (fun c1 => ?_)
  · have hf := ro_ie hf c1
    exact bj_X11_house_36 hK hR  hf hq
  · have hf := ro_it hf c1
    refine ro_iload_n hK 2 rfl dX11_house_4 rfl ?_
    refine ro_if_lt hK 36 dX11_house_5 (by decide) (fun c27 => ?_) (fun c27 => ?_)
    · have hf := ro_it hf c27
      exact bj_X11_house_36 hK hR  hf hq
    · have hf := ro_ie hf c27
      refine ro_iload_n hK 2 rfl dX11_house_8 rfl ?_
      refine ro_aload_n hK 0 rfl dX11_house_9 rfl ?_
      refine ro_getr hK fl_X11_10 sh_0 dX11_house_10 ?_
      obtain ⟨g28, hf⟩ := ro_gd hf
      refine ro_getm hK fl_X11_147 sh_1 dX11_house_13 ?_
      refine ro_geti hK fl_X11_158 g28 dX11_house_16 ?_
      refine ro_icmp_ge hK 36 dX11_house_19 (by decide) (fun c29 => ?_) (fun c29 => ?_)
      · have hf := ro_it hf c29
        exact bj_X11_house_36 hK hR  hf hq
      · have hf := ro_ie hf c29
        refine ro_aload_n hK 0 rfl dX11_house_22 rfl ?_
        obtain ⟨q30, e31, hf⟩ := ro_bd hf
        refine ro_callvv hK [] ml_X11_176 mv_X11_refresh (mt_X11_refresh (kl K) (kG K)  e31) sh_0 ⟨_, rfl, rfl⟩ (by decide) rfl rfl (Nat.le_of_ble_eq_true rfl) dX11_house_23 ?_
        refine ro_aload_n hK 0 rfl dX11_house_26 rfl ?_
        refine ro_getr hK fl_X11_47 sh_0 dX11_house_27 ?_
        refine ro_getr hK fl_X11_191 sh_62 dX11_house_30 ?_
        refine ro_iload_n hK 2 rfl dX11_house_33 rfl ?_
        obtain ⟨g32, hf⟩ := ro_gd hf
        refine ro_iald hK sh_66 g32 dX11_house_34 ?_
        obtain rfl := Option.some.inj hf
        exact ro_iret hK hR dX11_house_35 hq
theorem mt_X11_house (l : Launch) (G : ro_G) {v1 : Int32} {v2 : Int32}  {μ : ro_Mem} {out : Int32 × ro_Mem} (hf : fn_X11_house v1 v2 μ = some out) : ro_MX l G yX11_house cX11_house 3 (some .int) 6 [.ref (ro_ad G 0), .int v1, .int v2] μ (some (.int out.1)) out.2 := by
  refine ro_MX.of (by decide +kernel) (Nat.le_of_ble_eq_true rfl) (fun K hG hl hq hK hR => ?_)
  subst hG
  exact be_X11_house hK hR  hf hq
-- ===== X11_areGuests =====
theorem dX11_areGuests_0 : decode cX11_areGuests 0 = .ok (.iload_n 1, 1) := by decide +kernel
theorem dX11_areGuests_1 : decode cX11_areGuests 1 = .ok (.ifCond .eq 24, 3) := by decide +kernel
theorem dX11_areGuests_4 : decode cX11_areGuests 4 = .ok (.iload_n 1, 1) := by decide +kernel
theorem dX11_areGuests_5 : decode cX11_areGuests 5 = .ok (.aload_n 0, 1) := by decide +kernel
theorem dX11_areGuests_6 : decode cX11_areGuests 6 = .ok (.getfield 10, 3) := by decide +kernel
theorem dX11_areGuests_9 : decode cX11_areGuests 9 = .ok (.getfield 89, 3) := by decide +kernel
theorem dX11_areGuests_12 : decode cX11_areGuests 12 = .ok (.getfield 343, 3) := by decide +kernel
theorem dX11_areGuests_15 : decode cX11_areGuests 15 = .ok (.iconst (-1), 1) := by decide +kernel
theorem dX11_areGuests_16 : decode cX11_areGuests 16 = .ok (.ixor, 1) := by decide +kernel
theorem dX11_areGuests_17 : decode cX11_areGuests 17 = .ok (.iand, 1) := by decide +kernel
theorem dX11_areGuests_18 : decode cX11_areGuests 18 = .ok (.ifCond .ne 7, 3) := by decide +kernel
theorem dX11_areGuests_21 : decode cX11_areGuests 21 = .ok (.iconst 1, 1) := by decide +kernel
theorem dX11_areGuests_22 : decode cX11_areGuests 22 = .ok (.goto 4, 3) := by decide +kernel
theorem dX11_areGuests_25 : decode cX11_areGuests 25 = .ok (.iconst 0, 1) := by decide +kernel
theorem dX11_areGuests_26 : decode cX11_areGuests 26 = .ok (.ireturn, 1) := by decide +kernel
def fn_X11_areGuests (v1 : Int32) (μ : ro_Mem) : Option Int32 :=
  if v1 = 0 then
  (some 0)
  else
  (if (v1 &&& ((μ 2 11) ^^^ (-1))) = 0 then
  (some 1)
  else
  (some 0))
theorem be_X11_areGuests {K : ro_K} (hK : ro_C K RX11 cX11_areGuests 2 0) (hR : ro_R K (some .boolean)) {v1 : Int32}  {μ : ro_Mem} {out : Int32} (hf : fn_X11_areGuests v1 μ = some out) (hq : kQ K (some (.int out)) μ) : ro_X K 0 [(0, .ref (ro_ad (kG K) 0)), (1, .int v1)] [] μ := by
  unfold fn_X11_areGuests at hf
  refine ro_iload_n hK 1 rfl dX11_areGuests_0 rfl ?_
  refine ro_if_eq hK 25 dX11_areGuests_1 (by decide) (fun c1 => ?_) (fun c1 => ?_)
  · have hf := ro_it hf c1
    refine ro_iconst (v := 0) hK dX11_areGuests_25 (by decide) ?_
    obtain rfl := Option.some.inj hf
    exact ro_zret hK hR dX11_areGuests_26 (by decide) hq
  · have hf := ro_ie hf c1
    refine ro_iload_n hK 1 rfl dX11_areGuests_4 rfl ?_
    refine ro_aload_n hK 0 rfl dX11_areGuests_5 rfl ?_
    refine ro_getr hK fl_X11_10 sh_0 dX11_areGuests_6 ?_
    refine ro_getr hK fl_X11_89 sh_1 dX11_areGuests_9 ?_
    refine ro_geti hK fl_X11_343 sh_2 dX11_areGuests_12 ?_
    refine ro_iconst (v := (-1)) hK dX11_areGuests_15 (by decide) ?_
    refine ro_ixor hK dX11_areGuests_16 ?_
    refine ro_iand hK dX11_areGuests_17 ?_
    refine ro_if_ne hK 25 dX11_areGuests_18 (by decide) (fun c2 => ?_) (fun c2 => ?_)
    · have hf := ro_ie hf c2
      refine ro_iconst (v := 0) hK dX11_areGuests_25 (by decide) ?_
      obtain rfl := Option.some.inj hf
      exact ro_zret hK hR dX11_areGuests_26 (by decide) hq
    · have hf := ro_it hf c2
      refine ro_iconst (v := 1) hK dX11_areGuests_21 (by decide) ?_
      refine ro_goto hK 26 dX11_areGuests_22 (by decide) ?_
      obtain rfl := Option.some.inj hf
      exact ro_zret hK hR dX11_areGuests_26 (by decide) hq
theorem mt_X11_areGuests (l : Launch) (G : ro_G) {v1 : Int32}  {μ : ro_Mem} {out : Int32} (hf : fn_X11_areGuests v1 μ = some out) : ro_MX l G yX11_areGuests cX11_areGuests 2 (some .boolean) 0 [.ref (ro_ad G 0), .int v1] μ (some (.int out)) μ := by
  refine ro_MX.of (by decide +kernel) (Nat.le_of_ble_eq_true rfl) (fun K hG hl hq hK hR => ?_)
  subst hG
  exact be_X11_areGuests hK hR  hf hq
-- ===== X11_isAnyTaken =====
theorem dX11_isAnyTaken_0 : decode cX11_isAnyTaken 0 = .ok (.iconst 0, 1) := by decide +kernel
theorem dX11_isAnyTaken_1 : decode cX11_isAnyTaken 1 = .ok (.istore_n 3, 1) := by decide +kernel
theorem dX11_isAnyTaken_2 : decode cX11_isAnyTaken 2 = .ok (.iload_n 3, 1) := by decide +kernel
theorem dX11_isAnyTaken_3 : decode cX11_isAnyTaken 3 = .ok (.aload_n 0, 1) := by decide +kernel
theorem dX11_isAnyTaken_4 : decode cX11_isAnyTaken 4 = .ok (.getfield 58, 3) := by decide +kernel
theorem dX11_isAnyTaken_7 : decode cX11_isAnyTaken 7 = .ok (.getfield 359, 3) := by decide +kernel
theorem dX11_isAnyTaken_10 : decode cX11_isAnyTaken 10 = .ok (.if_icmp .ge 48, 3) := by decide +kernel
theorem dX11_isAnyTaken_13 : decode cX11_isAnyTaken 13 = .ok (.aload_n 0, 1) := by decide +kernel
theorem dX11_isAnyTaken_14 : decode cX11_isAnyTaken 14 = .ok (.getfield 10, 3) := by decide +kernel
theorem dX11_isAnyTaken_17 : decode cX11_isAnyTaken 17 = .ok (.getfield 89, 3) := by decide +kernel
theorem dX11_isAnyTaken_20 : decode cX11_isAnyTaken 20 = .ok (.iload_n 1, 1) := by decide +kernel
theorem dX11_isAnyTaken_21 : decode cX11_isAnyTaken 21 = .ok (.aload_n 0, 1) := by decide +kernel
theorem dX11_isAnyTaken_22 : decode cX11_isAnyTaken 22 = .ok (.getfield 58, 3) := by decide +kernel
theorem dX11_isAnyTaken_25 : decode cX11_isAnyTaken 25 = .ok (.getfield 360, 3) := by decide +kernel
theorem dX11_isAnyTaken_28 : decode cX11_isAnyTaken 28 = .ok (.iload_n 3, 1) := by decide +kernel
theorem dX11_isAnyTaken_29 : decode cX11_isAnyTaken 29 = .ok (.iaload, 1) := by decide +kernel
theorem dX11_isAnyTaken_30 : decode cX11_isAnyTaken 30 = .ok (.invokevirtual 128, 3) := by decide +kernel
theorem dX11_isAnyTaken_33 : decode cX11_isAnyTaken 33 = .ok (.istore 4, 2) := by decide +kernel
theorem dX11_isAnyTaken_35 : decode cX11_isAnyTaken 35 = .ok (.iload 4, 2) := by decide +kernel
theorem dX11_isAnyTaken_37 : decode cX11_isAnyTaken 37 = .ok (.iconst (-1), 1) := by decide +kernel
theorem dX11_isAnyTaken_38 : decode cX11_isAnyTaken 38 = .ok (.if_icmp .eq 14, 3) := by decide +kernel
theorem dX11_isAnyTaken_41 : decode cX11_isAnyTaken 41 = .ok (.iload_n 2, 1) := by decide +kernel
theorem dX11_isAnyTaken_42 : decode cX11_isAnyTaken 42 = .ok (.iload 4, 2) := by decide +kernel
theorem dX11_isAnyTaken_44 : decode cX11_isAnyTaken 44 = .ok (.ishr, 1) := by decide +kernel
theorem dX11_isAnyTaken_45 : decode cX11_isAnyTaken 45 = .ok (.iconst 1, 1) := by decide +kernel
theorem dX11_isAnyTaken_46 : decode cX11_isAnyTaken 46 = .ok (.iand, 1) := by decide +kernel
theorem dX11_isAnyTaken_47 : decode cX11_isAnyTaken 47 = .ok (.ifCond .ne 5, 3) := by decide +kernel
theorem dX11_isAnyTaken_50 : decode cX11_isAnyTaken 50 = .ok (.iconst 1, 1) := by decide +kernel
theorem dX11_isAnyTaken_51 : decode cX11_isAnyTaken 51 = .ok (.ireturn, 1) := by decide +kernel
theorem dX11_isAnyTaken_52 : decode cX11_isAnyTaken 52 = .ok (.iinc 3 1, 3) := by decide +kernel
theorem dX11_isAnyTaken_55 : decode cX11_isAnyTaken 55 = .ok (.goto (-53), 3) := by decide +kernel
theorem dX11_isAnyTaken_58 : decode cX11_isAnyTaken 58 = .ok (.iconst 0, 1) := by decide +kernel
theorem dX11_isAnyTaken_59 : decode cX11_isAnyTaken 59 = .ok (.ireturn, 1) := by decide +kernel
def ok_X11_isAnyTaken_2 (K : ro_K) (v1 : Int32) (v2 : Int32) (μ : ro_Mem) : (Unit ⊕ Unit) → Prop := Sum.elim (fun e => ro_X K 50 [] [] μ) (fun e => ro_X K 58 [] [] μ)
def fb_X11_isAnyTaken_2 (v1 : Int32) (v2 : Int32) (μ : ro_Mem) (rec : Int32 → Option (Unit ⊕ Unit)) (v3 : Int32) : Option (Unit ⊕ Unit) :=
  if (μ 69 1) ≤ v3 then
  (some (.inr ()))
  else
  (if ro_in v3 8 then
  ((fn_X1_guestOn 2 v1 (μ 70 v3.toNatClampNeg) μ).bind fun q3 =>
  if q3 = (-1) then
  (rec (v3 + 1))
  else
  (if ((v2 >>> (q3 &&& 31)) &&& 1) = 0 then
  (some (.inl ()))
  else
  (rec (v3 + 1)))) else none)
theorem bb_X11_isAnyTaken_2 {K : ro_K} (hK : ro_C K RX11 cX11_isAnyTaken 5 1) (hR : ro_R K (some .boolean)) {v1 : Int32} {v2 : Int32}  {μ : ro_Mem} {rec : Int32 → Option (Unit ⊕ Unit)} {v3 : Int32} {q : (Unit ⊕ Unit)} (hrec : ∀ (s : Int32) (q : (Unit ⊕ Unit)), rec s = some q → ok_X11_isAnyTaken_2 K v1 v2 μ q → ro_X K 2 [(0, .ref (ro_ad (kG K) 0)), (1, .int v1), (2, .int v2), (3, .int s)] [] μ) (hf : fb_X11_isAnyTaken_2 v1 v2 μ rec v3 = some q) (hq : ok_X11_isAnyTaken_2 K v1 v2 μ q) : ro_X K 2 [(0, .ref (ro_ad (kG K) 0)), (1, .int v1), (2, .int v2), (3, .int v3)] [] μ := by
  unfold fb_X11_isAnyTaken_2 at hf
  refine ro_iload_n hK 3 rfl dX11_isAnyTaken_2 rfl ?_
  refine ro_aload_n hK 0 rfl dX11_isAnyTaken_3 rfl ?_
  refine ro_getr hK fl_X11_58 sh_0 dX11_isAnyTaken_4 ?_
  refine ro_geti hK fl_X11_359 sh_69 dX11_isAnyTaken_7 ?_
  refine ro_icmp_ge hK 58 dX11_isAnyTaken_10 (by decide) (fun c1 => ?_) (fun c1 => ?_)
  · have hf := ro_it hf c1
    refine ro_sub (L' := []) [] rfl ?_
    obtain rfl := Option.some.inj hf
    exact hq
  · have hf := ro_ie hf c1
    refine ro_aload_n hK 0 rfl dX11_isAnyTaken_13 rfl ?_
    refine ro_getr hK fl_X11_10 sh_0 dX11_isAnyTaken_14 ?_
    refine ro_getr hK fl_X11_89 sh_1 dX11_isAnyTaken_17 ?_
    refine ro_iload_n hK 1 rfl dX11_isAnyTaken_20 rfl ?_
    refine ro_aload_n hK 0 rfl dX11_isAnyTaken_21 rfl ?_
    refine ro_getr hK fl_X11_58 sh_0 dX11_isAnyTaken_22 ?_
    refine ro_getr hK fl_X11_360 sh_69 dX11_isAnyTaken_25 ?_
    refine ro_iload_n hK 3 rfl dX11_isAnyTaken_28 rfl ?_
    obtain ⟨g2, hf⟩ := ro_gd hf
    refine ro_iald hK sh_70 g2 dX11_isAnyTaken_29 ?_
    obtain ⟨q3, e4, hf⟩ := ro_bd hf
    refine ro_callvi hK [.int v1, .int (μ 70 v3.toNatClampNeg)] ml_X11_128 mv_X1_guestOn (mt_X1_guestOn (kl K) (kG K) sh_2 e4) sh_2 ⟨_, rfl, rfl⟩ (by decide) rfl rfl (Nat.le_of_ble_eq_true rfl) dX11_isAnyTaken_30 ?_
    refine ro_istore (L' := [(4, .int q3), (0, .ref (ro_ad (kG K) 0)), (1, .int v1), (2, .int v2), (3, .int v3)]) hK dX11_isAnyTaken_33 (by decide) rfl ?_
    refine ro_iload hK 0 rfl dX11_isAnyTaken_35 ?_
    refine ro_iconst (v := (-1)) hK dX11_isAnyTaken_37 (by decide) ?_
    refine ro_icmp_eq hK 52 dX11_isAnyTaken_38 (by decide) (fun c5 => ?_) (fun c5 => ?_)
    · have hf := ro_it hf c5
      refine ro_iinc (v := v3 + 1) (L' := [(3, .int (v3 + 1)), (4, .int q3), (0, .ref (ro_ad (kG K) 0)), (1, .int v1), (2, .int v2)]) hK 4 rfl dX11_isAnyTaken_52 rfl (by decide) rfl ?_
      refine ro_goto hK 2 dX11_isAnyTaken_55 (by decide) ?_
      refine ro_sub (L' := [(0, .ref (ro_ad (kG K) 0)), (1, .int v1), (2, .int v2), (3, .int (v3 + 1))]) [2, 3, 4, 0] rfl ?_
      exact hrec (v3 + 1) _ hf hq
    · have hf := ro_ie hf c5
      refine ro_iload_n hK 3 rfl dX11_isAnyTaken_41 rfl ?_
      refine ro_iload hK 0 rfl dX11_isAnyTaken_42 ?_
      refine ro_ishr hK dX11_isAnyTaken_44 ?_
      refine ro_iconst (v := 1) hK dX11_isAnyTaken_45 (by decide) ?_
      refine ro_iand hK dX11_isAnyTaken_46 ?_
      refine ro_if_ne hK 52 dX11_isAnyTaken_47 (by decide) (fun c6 => ?_) (fun c6 => ?_)
      · have hf := ro_ie hf c6
        refine ro_iinc (v := v3 + 1) (L' := [(3, .int (v3 + 1)), (4, .int q3), (0, .ref (ro_ad (kG K) 0)), (1, .int v1), (2, .int v2)]) hK 4 rfl dX11_isAnyTaken_52 rfl (by decide) rfl ?_
        refine ro_goto hK 2 dX11_isAnyTaken_55 (by decide) ?_
        refine ro_sub (L' := [(0, .ref (ro_ad (kG K) 0)), (1, .int v1), (2, .int v2), (3, .int (v3 + 1))]) [2, 3, 4, 0] rfl ?_
        exact hrec (v3 + 1) _ hf hq
      · have hf := ro_it hf c6
        refine ro_sub (L' := []) [] rfl ?_
        obtain rfl := Option.some.inj hf
        exact hq
def fl_X11_isAnyTaken_2 (v1 : Int32) (v2 : Int32) (μ : ro_Mem) : Int32 → Option (Unit ⊕ Unit) :=
  ro_loop (fun rec s => fb_X11_isAnyTaken_2 v1 v2 μ rec s) ro_FU
theorem lp_X11_isAnyTaken_2 {K : ro_K} (hK : ro_C K RX11 cX11_isAnyTaken 5 1) (hR : ro_R K (some .boolean)) {v1 : Int32} {v2 : Int32}  {μ : ro_Mem} {s : Int32} {q : (Unit ⊕ Unit)} (hf : fl_X11_isAnyTaken_2 v1 v2 μ s = some q) (hq : ok_X11_isAnyTaken_2 K v1 v2 μ q) : ro_X K 2 [(0, .ref (ro_ad (kG K) 0)), (1, .int v1), (2, .int v2), (3, .int s)] [] μ :=
  ro_loopX (b := fun rec s => fb_X11_isAnyTaken_2 v1 v2 μ rec s) (X := fun s => ro_X K 2 [(0, .ref (ro_ad (kG K) 0)), (1, .int v1), (2, .int v2), (3, .int s)] [] μ) (OK := ok_X11_isAnyTaken_2 K v1 v2 μ) (fun rec s q hrec hb ho => bb_X11_isAnyTaken_2 hK hR  hrec hb ho) ro_FU s q hf hq
def fn_X11_isAnyTaken (v1 : Int32) (v2 : Int32) (μ : ro_Mem) : Option Int32 :=
  (fl_X11_isAnyTaken_2 v1 v2 μ 0).bind fun q7 =>
  q7.elim (fun e9 => some 1) (fun e10 => some 0)
theorem be_X11_isAnyTaken {K : ro_K} (hK : ro_C K RX11 cX11_isAnyTaken 5 1) (hR : ro_R K (some .boolean)) {v1 : Int32} {v2 : Int32}  {μ : ro_Mem} {out : Int32} (hf : fn_X11_isAnyTaken v1 v2 μ = some out) (hq : kQ K (some (.int out)) μ) : ro_X K 0 [(0, .ref (ro_ad (kG K) 0)), (1, .int v1), (2, .int v2)] [] μ := by
  unfold fn_X11_isAnyTaken at hf
  refine ro_iconst (v := 0) hK dX11_isAnyTaken_0 (by decide) ?_
  refine ro_istore_n (L' := [(3, .int 0), (0, .ref (ro_ad (kG K) 0)), (1, .int v1), (2, .int v2)]) hK dX11_isAnyTaken_1 rfl (by decide) rfl ?_
  obtain ⟨q7, e8, hf⟩ := ro_bd hf
  refine ro_sub (L' := [(0, .ref (ro_ad (kG K) 0)), (1, .int v1), (2, .int v2), (3, .int 0)]) [1, 2, 3, 0] rfl ?_
  refine lp_X11_isAnyTaken_2 hK hR  e8 ?_
  rcases q7 with e9 | e10
  · have hf := ro_el hf
    show ro_X K 50 [] [] μ
    refine ro_iconst (v := 1) hK dX11_isAnyTaken_50 (by decide) ?_
    obtain rfl := Option.some.inj hf
    exact ro_zret hK hR dX11_isAnyTaken_51 (by decide) hq
  · have hf := ro_er hf
    show ro_X K 58 [] [] μ
    refine ro_iconst (v := 0) hK dX11_isAnyTaken_58 (by decide) ?_
    obtain rfl := Option.some.inj hf
    exact ro_zret hK hR dX11_isAnyTaken_59 (by decide) hq
theorem mt_X11_isAnyTaken (l : Launch) (G : ro_G) {v1 : Int32} {v2 : Int32}  {μ : ro_Mem} {out : Int32} (hf : fn_X11_isAnyTaken v1 v2 μ = some out) : ro_MX l G yX11_isAnyTaken cX11_isAnyTaken 5 (some .boolean) 1 [.ref (ro_ad G 0), .int v1, .int v2] μ (some (.int out)) μ := by
  refine ro_MX.of (by decide +kernel) (Nat.le_of_ble_eq_true rfl) (fun K hG hl hq hK hR => ?_)
  subst hG
  exact be_X11_isAnyTaken hK hR  hf hq
