-- ===== X12_readsPitch =====
theorem dX12_readsPitch_0 : decode cX12_readsPitch 0 = .ok (.aload_n 0, 1) := by decide +kernel
theorem dX12_readsPitch_1 : decode cX12_readsPitch 1 = .ok (.getfield 249, 3) := by decide +kernel
theorem dX12_readsPitch_4 : decode cX12_readsPitch 4 = .ok (.istore_n 1, 1) := by decide +kernel
theorem dX12_readsPitch_5 : decode cX12_readsPitch 5 = .ok (.aload_n 0, 1) := by decide +kernel
theorem dX12_readsPitch_6 : decode cX12_readsPitch 6 = .ok (.iconst 0, 1) := by decide +kernel
theorem dX12_readsPitch_7 : decode cX12_readsPitch 7 = .ok (.putfield 252, 3) := by decide +kernel
theorem dX12_readsPitch_10 : decode cX12_readsPitch 10 = .ok (.aload_n 0, 1) := by decide +kernel
theorem dX12_readsPitch_11 : decode cX12_readsPitch 11 = .ok (.invokevirtual 255, 3) := by decide +kernel
theorem dX12_readsPitch_14 : decode cX12_readsPitch 14 = .ok (.ifCond .eq 45, 3) := by decide +kernel
theorem dX12_readsPitch_17 : decode cX12_readsPitch 17 = .ok (.aload_n 0, 1) := by decide +kernel
theorem dX12_readsPitch_18 : decode cX12_readsPitch 18 = .ok (.getfield 249, 3) := by decide +kernel
theorem dX12_readsPitch_21 : decode cX12_readsPitch 21 = .ok (.iload_n 1, 1) := by decide +kernel
theorem dX12_readsPitch_22 : decode cX12_readsPitch 22 = .ok (.iconst 2, 1) := by decide +kernel
theorem dX12_readsPitch_23 : decode cX12_readsPitch 23 = .ok (.iadd, 1) := by decide +kernel
theorem dX12_readsPitch_24 : decode cX12_readsPitch 24 = .ok (.if_icmp .ge 35, 3) := by decide +kernel
theorem dX12_readsPitch_27 : decode cX12_readsPitch 27 = .ok (.aload_n 0, 1) := by decide +kernel
theorem dX12_readsPitch_28 : decode cX12_readsPitch 28 = .ok (.bipush 10, 2) := by decide +kernel
theorem dX12_readsPitch_30 : decode cX12_readsPitch 30 = .ok (.aload_n 0, 1) := by decide +kernel
theorem dX12_readsPitch_31 : decode cX12_readsPitch 31 = .ok (.getfield 252, 3) := by decide +kernel
theorem dX12_readsPitch_34 : decode cX12_readsPitch 34 = .ok (.imul, 1) := by decide +kernel
theorem dX12_readsPitch_35 : decode cX12_readsPitch 35 = .ok (.aload_n 0, 1) := by decide +kernel
theorem dX12_readsPitch_36 : decode cX12_readsPitch 36 = .ok (.invokevirtual 259, 3) := by decide +kernel
theorem dX12_readsPitch_39 : decode cX12_readsPitch 39 = .ok (.iadd, 1) := by decide +kernel
theorem dX12_readsPitch_40 : decode cX12_readsPitch 40 = .ok (.bipush 48, 2) := by decide +kernel
theorem dX12_readsPitch_42 : decode cX12_readsPitch 42 = .ok (.isub, 1) := by decide +kernel
theorem dX12_readsPitch_43 : decode cX12_readsPitch 43 = .ok (.putfield 252, 3) := by decide +kernel
theorem dX12_readsPitch_46 : decode cX12_readsPitch 46 = .ok (.aload_n 0, 1) := by decide +kernel
theorem dX12_readsPitch_47 : decode cX12_readsPitch 47 = .ok (.aload_n 0, 1) := by decide +kernel
theorem dX12_readsPitch_48 : decode cX12_readsPitch 48 = .ok (.getfield 249, 3) := by decide +kernel
theorem dX12_readsPitch_51 : decode cX12_readsPitch 51 = .ok (.iconst 1, 1) := by decide +kernel
theorem dX12_readsPitch_52 : decode cX12_readsPitch 52 = .ok (.iadd, 1) := by decide +kernel
theorem dX12_readsPitch_53 : decode cX12_readsPitch 53 = .ok (.putfield 249, 3) := by decide +kernel
theorem dX12_readsPitch_56 : decode cX12_readsPitch 56 = .ok (.goto (-46), 3) := by decide +kernel
theorem dX12_readsPitch_59 : decode cX12_readsPitch 59 = .ok (.aload_n 0, 1) := by decide +kernel
theorem dX12_readsPitch_60 : decode cX12_readsPitch 60 = .ok (.getfield 249, 3) := by decide +kernel
theorem dX12_readsPitch_63 : decode cX12_readsPitch 63 = .ok (.iload_n 1, 1) := by decide +kernel
theorem dX12_readsPitch_64 : decode cX12_readsPitch 64 = .ok (.if_icmp .ne 13, 3) := by decide +kernel
theorem dX12_readsPitch_67 : decode cX12_readsPitch 67 = .ok (.aload_n 0, 1) := by decide +kernel
theorem dX12_readsPitch_68 : decode cX12_readsPitch 68 = .ok (.iconst 1, 1) := by decide +kernel
theorem dX12_readsPitch_69 : decode cX12_readsPitch 69 = .ok (.aload_n 0, 1) := by decide +kernel
theorem dX12_readsPitch_70 : decode cX12_readsPitch 70 = .ok (.getfield 249, 3) := by decide +kernel
theorem dX12_readsPitch_73 : decode cX12_readsPitch 73 = .ok (.invokevirtual 263, 3) := by decide +kernel
theorem dX12_readsPitch_76 : decode cX12_readsPitch 76 = .ok (.ireturn, 1) := by decide +kernel
theorem dX12_readsPitch_77 : decode cX12_readsPitch 77 = .ok (.aload_n 0, 1) := by decide +kernel
theorem dX12_readsPitch_78 : decode cX12_readsPitch 78 = .ok (.getfield 252, 3) := by decide +kernel
theorem dX12_readsPitch_81 : decode cX12_readsPitch 81 = .ok (.bipush 47, 2) := by decide +kernel
theorem dX12_readsPitch_83 : decode cX12_readsPitch 83 = .ok (.if_icmp .le 12, 3) := by decide +kernel
theorem dX12_readsPitch_86 : decode cX12_readsPitch 86 = .ok (.aload_n 0, 1) := by decide +kernel
theorem dX12_readsPitch_87 : decode cX12_readsPitch 87 = .ok (.iconst 3, 1) := by decide +kernel
theorem dX12_readsPitch_88 : decode cX12_readsPitch 88 = .ok (.iload_n 1, 1) := by decide +kernel
theorem dX12_readsPitch_89 : decode cX12_readsPitch 89 = .ok (.invokevirtual 263, 3) := by decide +kernel
theorem dX12_readsPitch_92 : decode cX12_readsPitch 92 = .ok (.ifCond .eq 7, 3) := by decide +kernel
theorem dX12_readsPitch_95 : decode cX12_readsPitch 95 = .ok (.iconst 1, 1) := by decide +kernel
theorem dX12_readsPitch_96 : decode cX12_readsPitch 96 = .ok (.goto 4, 3) := by decide +kernel
theorem dX12_readsPitch_99 : decode cX12_readsPitch 99 = .ok (.iconst 0, 1) := by decide +kernel
theorem dX12_readsPitch_100 : decode cX12_readsPitch 100 = .ok (.ireturn, 1) := by decide +kernel
def ok_X12_readsPitch_10 (K : ro_K) (v1 : Int32) : ro_Mem → Prop := fun e => ro_X K 59 [(0, .ref (ro_ad (kG K) 207)), (1, .int v1)] [] e
def fb_X12_readsPitch_10 (v1 : Int32) (rec : ro_Mem → Option ro_Mem) (μ : ro_Mem) : Option ro_Mem :=
  (fn_X12_isDigit μ).bind fun q5 =>
  if q5 = 0 then
  (some μ)
  else
  (if (v1 + 2) ≤ (μ 207 14) then
  (some μ)
  else
  ((fn_X12_here μ).bind fun q9 =>
  ro_lt (ro_set μ 207 17 (((10 * (μ 207 17)) + q9) - 48)) fun m11 =>
  ro_lt (ro_set m11 207 14 ((m11 207 14) + 1)) fun m13 =>
  rec m13))
theorem bb_X12_readsPitch_10 {K : ro_K} (hK : ro_C K RX12 cX12_readsPitch 2 2) (hR : ro_R K (some .boolean)) {v1 : Int32}  {μ : ro_Mem} {rec : ro_Mem → Option ro_Mem}  {q : ro_Mem} (hrec : ∀ (s : ro_Mem) (q : ro_Mem), rec s = some q → ok_X12_readsPitch_10 K v1 q → ro_X K 10 [(0, .ref (ro_ad (kG K) 207)), (1, .int v1)] [] s) (hf : fb_X12_readsPitch_10 v1 rec μ = some q) (hq : ok_X12_readsPitch_10 K v1 q) : ro_X K 10 [(0, .ref (ro_ad (kG K) 207)), (1, .int v1)] [] μ := by
  unfold fb_X12_readsPitch_10 at hf
  refine ro_aload_n hK 0 rfl dX12_readsPitch_10 rfl ?_
  obtain ⟨q5, e6, hf⟩ := ro_bd hf
  refine ro_callvi hK [] ml_X12_255 mv_X12_isDigit (mt_X12_isDigit (kl K) (kG K)  e6) sh_207 ⟨_, rfl, rfl⟩ (by decide) rfl rfl (Nat.le_of_ble_eq_true rfl) dX12_readsPitch_11 ?_
  refine ro_if_eq hK 59 dX12_readsPitch_14 (by decide) (fun c7 => ?_) (fun c7 => ?_)
  · have hf := ro_it hf c7
    obtain rfl := Option.some.inj hf
    exact hq
  · have hf := ro_ie hf c7
    refine ro_aload_n hK 0 rfl dX12_readsPitch_17 rfl ?_
    refine ro_geti hK fl_X12_249 sh_207 dX12_readsPitch_18 ?_
    refine ro_iload_n hK 1 rfl dX12_readsPitch_21 rfl ?_
    refine ro_iconst (v := 2) hK dX12_readsPitch_22 (by decide) ?_
    refine ro_iadd hK dX12_readsPitch_23 ?_
    refine ro_icmp_ge hK 59 dX12_readsPitch_24 (by decide) (fun c8 => ?_) (fun c8 => ?_)
    · have hf := ro_it hf c8
      obtain rfl := Option.some.inj hf
      exact hq
    · have hf := ro_ie hf c8
      refine ro_aload_n hK 0 rfl dX12_readsPitch_27 rfl ?_
      refine ro_bipush (v := 10) hK dX12_readsPitch_28 (by decide) ?_
      refine ro_aload_n hK 0 rfl dX12_readsPitch_30 rfl ?_
      refine ro_geti hK fl_X12_252 sh_207 dX12_readsPitch_31 ?_
      refine ro_imul hK dX12_readsPitch_34 ?_
      refine ro_aload_n hK 0 rfl dX12_readsPitch_35 rfl ?_
      obtain ⟨q9, e10, hf⟩ := ro_bd hf
      refine ro_callvi hK [] ml_X12_259 mv_X12_here (mt_X12_here (kl K) (kG K)  e10) sh_207 ⟨_, rfl, rfl⟩ (by decide) rfl rfl (Nat.le_of_ble_eq_true rfl) dX12_readsPitch_36 ?_
      refine ro_iadd hK dX12_readsPitch_39 ?_
      refine ro_bipush (v := 48) hK dX12_readsPitch_40 (by decide) ?_
      refine ro_isub hK dX12_readsPitch_42 ?_
      obtain ⟨m11, e12, hf⟩ := ro_ld hf
      refine ro_puti hK fl_X12_252 sh_207 rfl rfl dX12_readsPitch_43 ?_
      refine ro_mv e12 ?_
      refine ro_aload_n hK 0 rfl dX12_readsPitch_46 rfl ?_
      refine ro_aload_n hK 0 rfl dX12_readsPitch_47 rfl ?_
      refine ro_geti hK fl_X12_249 sh_207 dX12_readsPitch_48 ?_
      refine ro_iconst (v := 1) hK dX12_readsPitch_51 (by decide) ?_
      refine ro_iadd hK dX12_readsPitch_52 ?_
      obtain ⟨m13, e14, hf⟩ := ro_ld hf
      refine ro_puti hK fl_X12_249 sh_207 rfl rfl dX12_readsPitch_53 ?_
      refine ro_mv e14 ?_
      refine ro_goto hK 10 dX12_readsPitch_56 (by decide) ?_
      exact hrec m13 _ hf hq
def fl_X12_readsPitch_10 (v1 : Int32) : ro_Mem → Option ro_Mem :=
  ro_loop (fun rec s => fb_X12_readsPitch_10 v1 rec s) ro_FU
theorem lp_X12_readsPitch_10 {K : ro_K} (hK : ro_C K RX12 cX12_readsPitch 2 2) (hR : ro_R K (some .boolean)) {v1 : Int32}  {s : ro_Mem} {q : ro_Mem} (hf : fl_X12_readsPitch_10 v1 s = some q) (hq : ok_X12_readsPitch_10 K v1 q) : ro_X K 10 [(0, .ref (ro_ad (kG K) 207)), (1, .int v1)] [] s :=
  ro_loopX (b := fun rec s => fb_X12_readsPitch_10 v1 rec s) (X := fun s => ro_X K 10 [(0, .ref (ro_ad (kG K) 207)), (1, .int v1)] [] s) (OK := ok_X12_readsPitch_10 K v1) (fun rec s q hrec hb ho => bb_X12_readsPitch_10 hK hR  hrec hb ho) ro_FU s q hf hq
def fj_X12_readsPitch_59 (v1 : Int32) (μ : ro_Mem) : Option (Int32 × ro_Mem) :=
  if (μ 207 14) = v1 then
  ((fn_X12_wrongAt 1 (μ 207 14) μ).bind fun q22 =>
  if q22.1 = 0 ∨ q22.1 = 1 then
  (some (q22.1, q22.2)) else none)
  else
  (if (μ 207 17) ≤ 47 then
  (some (1, μ))
  else
  ((fn_X12_wrongAt 3 v1 μ).bind fun q19 =>
  if q19.1 = 0 then
  (some (0, q19.2))
  else
  (some (1, q19.2))))
theorem bj_X12_readsPitch_59 {K : ro_K} (hK : ro_C K RX12 cX12_readsPitch 2 2) (hR : ro_R K (some .boolean)) {v1 : Int32}   {μ : ro_Mem}  {out : Int32 × ro_Mem} (hf : fj_X12_readsPitch_59 v1 μ = some out) (hq : kQ K (some (.int out.1)) out.2) : ro_X K 59 [(0, .ref (ro_ad (kG K) 207)), (1, .int v1)] [] μ := by
  unfold fj_X12_readsPitch_59 at hf
  refine ro_aload_n hK 0 rfl dX12_readsPitch_59 rfl ?_
  refine ro_geti hK fl_X12_249 sh_207 dX12_readsPitch_60 ?_
  refine ro_iload_n hK 1 rfl dX12_readsPitch_63 rfl ?_
  refine ro_icmp_ne hK 77 dX12_readsPitch_64 (by decide) (fun c17 => ?_) (fun c17 => ?_)
  · have hf := ro_ie hf c17
    refine ro_aload_n hK 0 rfl dX12_readsPitch_77 rfl ?_
    refine ro_geti hK fl_X12_252 sh_207 dX12_readsPitch_78 ?_
    refine ro_bipush (v := 47) hK dX12_readsPitch_81 (by decide) ?_
    refine ro_icmp_le hK 95 dX12_readsPitch_83 (by decide) (fun c18 => ?_) (fun c18 => ?_)
    · have hf := ro_it hf c18
      refine ro_iconst (v := 1) hK dX12_readsPitch_95 (by decide) ?_
      refine ro_goto hK 100 dX12_readsPitch_96 (by decide) ?_
      obtain rfl := Option.some.inj hf
      exact ro_zret hK hR dX12_readsPitch_100 (by decide) hq
    · have hf := ro_ie hf c18
      refine ro_aload_n hK 0 rfl dX12_readsPitch_86 rfl ?_
      refine ro_iconst (v := 3) hK dX12_readsPitch_87 (by decide) ?_
      refine ro_iload_n hK 1 rfl dX12_readsPitch_88 rfl ?_
      obtain ⟨q19, e20, hf⟩ := ro_bd hf
      refine ro_callvi hK [.int 3, .int v1] ml_X12_263 mv_X12_wrongAt (mt_X12_wrongAt (kl K) (kG K)  e20) sh_207 ⟨_, rfl, rfl⟩ (by decide) rfl rfl (Nat.le_of_ble_eq_true rfl) dX12_readsPitch_89 ?_
      refine ro_if_eq hK 99 dX12_readsPitch_92 (by decide) (fun c21 => ?_) (fun c21 => ?_)
      · have hf := ro_it hf c21
        refine ro_iconst (v := 0) hK dX12_readsPitch_99 (by decide) ?_
        obtain rfl := Option.some.inj hf
        exact ro_zret hK hR dX12_readsPitch_100 (by decide) hq
      · have hf := ro_ie hf c21
        refine ro_iconst (v := 1) hK dX12_readsPitch_95 (by decide) ?_
        refine ro_goto hK 100 dX12_readsPitch_96 (by decide) ?_
        obtain rfl := Option.some.inj hf
        exact ro_zret hK hR dX12_readsPitch_100 (by decide) hq
  · have hf := ro_it hf c17
    refine ro_aload_n hK 0 rfl dX12_readsPitch_67 rfl ?_
    refine ro_iconst (v := 1) hK dX12_readsPitch_68 (by decide) ?_
    refine ro_aload_n hK 0 rfl dX12_readsPitch_69 rfl ?_
    refine ro_geti hK fl_X12_249 sh_207 dX12_readsPitch_70 ?_
    obtain ⟨q22, e23, hf⟩ := ro_bd hf
    refine ro_callvi hK [.int 1, .int (μ 207 14)] ml_X12_263 mv_X12_wrongAt (mt_X12_wrongAt (kl K) (kG K)  e23) sh_207 ⟨_, rfl, rfl⟩ (by decide) rfl rfl (Nat.le_of_ble_eq_true rfl) dX12_readsPitch_73 ?_
    obtain ⟨g24, hf⟩ := ro_gd hf
    obtain rfl := Option.some.inj hf
    exact ro_zret hK hR dX12_readsPitch_76 g24 hq
def fn_X12_readsPitch (μ : ro_Mem) : Option (Int32 × ro_Mem) :=
  ro_lt (μ 207 14) fun z1 =>
  ro_lt (ro_set μ 207 17 0) fun m3 =>
  (fl_X12_readsPitch_10 z1 m3).bind fun q15 =>
  fj_X12_readsPitch_59 z1 q15
theorem be_X12_readsPitch {K : ro_K} (hK : ro_C K RX12 cX12_readsPitch 2 2) (hR : ro_R K (some .boolean))   {μ : ro_Mem} {out : Int32 × ro_Mem} (hf : fn_X12_readsPitch μ = some out) (hq : kQ K (some (.int out.1)) out.2) : ro_X K 0 [(0, .ref (ro_ad (kG K) 207))] [] μ := by
  unfold fn_X12_readsPitch at hf
  refine ro_aload_n hK 0 rfl dX12_readsPitch_0 rfl ?_
  refine ro_geti hK fl_X12_249 sh_207 dX12_readsPitch_1 ?_
  obtain ⟨z1, e2, hf⟩ := ro_ld hf
  refine ro_iv e2 ?_
  refine ro_istore_n (L' := [(1, .int z1), (0, .ref (ro_ad (kG K) 207))]) hK dX12_readsPitch_4 rfl (by decide) rfl ?_
  refine ro_aload_n hK 1 rfl dX12_readsPitch_5 rfl ?_
  refine ro_iconst (v := 0) hK dX12_readsPitch_6 (by decide) ?_
  obtain ⟨m3, e4, hf⟩ := ro_ld hf
  refine ro_puti hK fl_X12_252 sh_207 rfl rfl dX12_readsPitch_7 ?_
  refine ro_mv e4 ?_
  obtain ⟨q15, e16, hf⟩ := ro_bd hf
  refine ro_sub (L' := [(0, .ref (ro_ad (kG K) 207)), (1, .int z1)]) [1, 0] rfl ?_
  refine lp_X12_readsPitch_10 hK hR  e16 ?_
  show ro_X K 59 [(0, .ref (ro_ad (kG K) 207)), (1, .int z1)] [] q15
  exact bj_X12_readsPitch_59 hK hR  hf hq
theorem mt_X12_readsPitch (l : Launch) (G : ro_G)   {μ : ro_Mem} {out : Int32 × ro_Mem} (hf : fn_X12_readsPitch μ = some out) : ro_MX l G yX12_readsPitch cX12_readsPitch 2 (some .boolean) 2 [.ref (ro_ad G 207)] μ (some (.int out.1)) out.2 := by
  refine ro_MX.of (by decide +kernel) (Nat.le_of_ble_eq_true rfl) (fun K hG hl hq hK hR => ?_)
  subst hG
  exact be_X12_readsPitch hK hR  hf hq
-- ===== X12_takes =====
theorem dX12_takes_0 : decode cX12_takes 0 = .ok (.aload_n 0, 1) := by decide +kernel
theorem dX12_takes_1 : decode cX12_takes 1 = .ok (.invokevirtual 259, 3) := by decide +kernel
theorem dX12_takes_4 : decode cX12_takes 4 = .ok (.iload_n 1, 1) := by decide +kernel
theorem dX12_takes_5 : decode cX12_takes 5 = .ok (.if_icmp .eq 13, 3) := by decide +kernel
theorem dX12_takes_8 : decode cX12_takes 8 = .ok (.aload_n 0, 1) := by decide +kernel
theorem dX12_takes_9 : decode cX12_takes 9 = .ok (.iconst 1, 1) := by decide +kernel
theorem dX12_takes_10 : decode cX12_takes 10 = .ok (.aload_n 0, 1) := by decide +kernel
theorem dX12_takes_11 : decode cX12_takes 11 = .ok (.getfield 249, 3) := by decide +kernel
theorem dX12_takes_14 : decode cX12_takes 14 = .ok (.invokevirtual 263, 3) := by decide +kernel
theorem dX12_takes_17 : decode cX12_takes 17 = .ok (.ireturn, 1) := by decide +kernel
theorem dX12_takes_18 : decode cX12_takes 18 = .ok (.aload_n 0, 1) := by decide +kernel
theorem dX12_takes_19 : decode cX12_takes 19 = .ok (.aload_n 0, 1) := by decide +kernel
theorem dX12_takes_20 : decode cX12_takes 20 = .ok (.getfield 249, 3) := by decide +kernel
theorem dX12_takes_23 : decode cX12_takes 23 = .ok (.iconst 1, 1) := by decide +kernel
theorem dX12_takes_24 : decode cX12_takes 24 = .ok (.iadd, 1) := by decide +kernel
theorem dX12_takes_25 : decode cX12_takes 25 = .ok (.putfield 249, 3) := by decide +kernel
theorem dX12_takes_28 : decode cX12_takes 28 = .ok (.iconst 1, 1) := by decide +kernel
theorem dX12_takes_29 : decode cX12_takes 29 = .ok (.ireturn, 1) := by decide +kernel
def fn_X12_takes (v1 : Int32) (μ : ro_Mem) : Option (Int32 × ro_Mem) :=
  (fn_X12_here μ).bind fun q1 =>
  if q1 = v1 then
  (ro_lt (ro_set μ 207 14 ((μ 207 14) + 1)) fun m4 =>
  some (1, m4))
  else
  ((fn_X12_wrongAt 1 (μ 207 14) μ).bind fun q6 =>
  if q6.1 = 0 ∨ q6.1 = 1 then
  (some (q6.1, q6.2)) else none)
theorem be_X12_takes {K : ro_K} (hK : ro_C K RX12 cX12_takes 2 1) (hR : ro_R K (some .boolean)) {v1 : Int32}  {μ : ro_Mem} {out : Int32 × ro_Mem} (hf : fn_X12_takes v1 μ = some out) (hq : kQ K (some (.int out.1)) out.2) : ro_X K 0 [(0, .ref (ro_ad (kG K) 207)), (1, .int v1)] [] μ := by
  unfold fn_X12_takes at hf
  refine ro_aload_n hK 0 rfl dX12_takes_0 rfl ?_
  obtain ⟨q1, e2, hf⟩ := ro_bd hf
  refine ro_callvi hK [] ml_X12_259 mv_X12_here (mt_X12_here (kl K) (kG K)  e2) sh_207 ⟨_, rfl, rfl⟩ (by decide) rfl rfl (Nat.le_of_ble_eq_true rfl) dX12_takes_1 ?_
  refine ro_iload_n hK 1 rfl dX12_takes_4 rfl ?_
  refine ro_icmp_eq hK 18 dX12_takes_5 (by decide) (fun c3 => ?_) (fun c3 => ?_)
  · have hf := ro_it hf c3
    refine ro_aload_n hK 0 rfl dX12_takes_18 rfl ?_
    refine ro_aload_n hK 0 rfl dX12_takes_19 rfl ?_
    refine ro_geti hK fl_X12_249 sh_207 dX12_takes_20 ?_
    refine ro_iconst (v := 1) hK dX12_takes_23 (by decide) ?_
    refine ro_iadd hK dX12_takes_24 ?_
    obtain ⟨m4, e5, hf⟩ := ro_ld hf
    refine ro_puti hK fl_X12_249 sh_207 rfl rfl dX12_takes_25 ?_
    refine ro_mv e5 ?_
    refine ro_iconst (v := 1) hK dX12_takes_28 (by decide) ?_
    obtain rfl := Option.some.inj hf
    exact ro_zret hK hR dX12_takes_29 (by decide) hq
  · have hf := ro_ie hf c3
    refine ro_aload_n hK 0 rfl dX12_takes_8 rfl ?_
    refine ro_iconst (v := 1) hK dX12_takes_9 (by decide) ?_
    refine ro_aload_n hK 0 rfl dX12_takes_10 rfl ?_
    refine ro_geti hK fl_X12_249 sh_207 dX12_takes_11 ?_
    obtain ⟨q6, e7, hf⟩ := ro_bd hf
    refine ro_callvi hK [.int 1, .int (μ 207 14)] ml_X12_263 mv_X12_wrongAt (mt_X12_wrongAt (kl K) (kG K)  e7) sh_207 ⟨_, rfl, rfl⟩ (by decide) rfl rfl (Nat.le_of_ble_eq_true rfl) dX12_takes_14 ?_
    obtain ⟨g8, hf⟩ := ro_gd hf
    obtain rfl := Option.some.inj hf
    exact ro_zret hK hR dX12_takes_17 g8 hq
theorem mt_X12_takes (l : Launch) (G : ro_G) {v1 : Int32}  {μ : ro_Mem} {out : Int32 × ro_Mem} (hf : fn_X12_takes v1 μ = some out) : ro_MX l G yX12_takes cX12_takes 2 (some .boolean) 1 [.ref (ro_ad G 207), .int v1] μ (some (.int out.1)) out.2 := by
  refine ro_MX.of (by decide +kernel) (Nat.le_of_ble_eq_true rfl) (fun K hG hl hq hK hR => ?_)
  subst hG
  exact be_X12_takes hK hR  hf hq
-- ===== X12_readsNote =====
theorem dX12_readsNote_0 : decode cX12_readsNote 0 = .ok (.aload_n 0, 1) := by decide +kernel
theorem dX12_readsNote_1 : decode cX12_readsNote 1 = .ok (.invokevirtual 259, 3) := by decide +kernel
theorem dX12_readsNote_4 : decode cX12_readsNote 4 = .ok (.invokestatic 266, 3) := by decide +kernel
theorem dX12_readsNote_7 : decode cX12_readsNote 7 = .ok (.istore_n 1, 1) := by decide +kernel
theorem dX12_readsNote_8 : decode cX12_readsNote 8 = .ok (.iload_n 1, 1) := by decide +kernel
theorem dX12_readsNote_9 : decode cX12_readsNote 9 = .ok (.iconst (-1), 1) := by decide +kernel
theorem dX12_readsNote_10 : decode cX12_readsNote 10 = .ok (.if_icmp .ne 13, 3) := by decide +kernel
theorem dX12_readsNote_13 : decode cX12_readsNote 13 = .ok (.aload_n 0, 1) := by decide +kernel
theorem dX12_readsNote_14 : decode cX12_readsNote 14 = .ok (.iconst 1, 1) := by decide +kernel
theorem dX12_readsNote_15 : decode cX12_readsNote 15 = .ok (.aload_n 0, 1) := by decide +kernel
theorem dX12_readsNote_16 : decode cX12_readsNote 16 = .ok (.getfield 249, 3) := by decide +kernel
theorem dX12_readsNote_19 : decode cX12_readsNote 19 = .ok (.invokevirtual 263, 3) := by decide +kernel
theorem dX12_readsNote_22 : decode cX12_readsNote 22 = .ok (.ireturn, 1) := by decide +kernel
theorem dX12_readsNote_23 : decode cX12_readsNote 23 = .ok (.aload_n 0, 1) := by decide +kernel
theorem dX12_readsNote_24 : decode cX12_readsNote 24 = .ok (.getfield 270, 3) := by decide +kernel
theorem dX12_readsNote_27 : decode cX12_readsNote 27 = .ok (.bipush 32, 2) := by decide +kernel
theorem dX12_readsNote_29 : decode cX12_readsNote 29 = .ok (.if_icmp .ne 13, 3) := by decide +kernel
theorem dX12_readsNote_32 : decode cX12_readsNote 32 = .ok (.aload_n 0, 1) := by decide +kernel
theorem dX12_readsNote_33 : decode cX12_readsNote 33 = .ok (.iconst 4, 1) := by decide +kernel
theorem dX12_readsNote_34 : decode cX12_readsNote 34 = .ok (.aload_n 0, 1) := by decide +kernel
theorem dX12_readsNote_35 : decode cX12_readsNote 35 = .ok (.getfield 249, 3) := by decide +kernel
theorem dX12_readsNote_38 : decode cX12_readsNote 38 = .ok (.invokevirtual 263, 3) := by decide +kernel
theorem dX12_readsNote_41 : decode cX12_readsNote 41 = .ok (.ireturn, 1) := by decide +kernel
theorem dX12_readsNote_42 : decode cX12_readsNote 42 = .ok (.aload_n 0, 1) := by decide +kernel
theorem dX12_readsNote_43 : decode cX12_readsNote 43 = .ok (.aload_n 0, 1) := by decide +kernel
theorem dX12_readsNote_44 : decode cX12_readsNote 44 = .ok (.getfield 249, 3) := by decide +kernel
theorem dX12_readsNote_47 : decode cX12_readsNote 47 = .ok (.iconst 1, 1) := by decide +kernel
theorem dX12_readsNote_48 : decode cX12_readsNote 48 = .ok (.iadd, 1) := by decide +kernel
theorem dX12_readsNote_49 : decode cX12_readsNote 49 = .ok (.putfield 249, 3) := by decide +kernel
theorem dX12_readsNote_52 : decode cX12_readsNote 52 = .ok (.aload_n 0, 1) := by decide +kernel
theorem dX12_readsNote_53 : decode cX12_readsNote 53 = .ok (.invokevirtual 273, 3) := by decide +kernel
theorem dX12_readsNote_56 : decode cX12_readsNote 56 = .ok (.ifCond .eq 12, 3) := by decide +kernel
theorem dX12_readsNote_59 : decode cX12_readsNote 59 = .ok (.aload_n 0, 1) := by decide +kernel
theorem dX12_readsNote_60 : decode cX12_readsNote 60 = .ok (.bipush 120, 2) := by decide +kernel
theorem dX12_readsNote_62 : decode cX12_readsNote 62 = .ok (.invokevirtual 276, 3) := by decide +kernel
theorem dX12_readsNote_65 : decode cX12_readsNote 65 = .ok (.ifCond .ne 5, 3) := by decide +kernel
theorem dX12_readsNote_68 : decode cX12_readsNote 68 = .ok (.iconst 0, 1) := by decide +kernel
theorem dX12_readsNote_69 : decode cX12_readsNote 69 = .ok (.ireturn, 1) := by decide +kernel
theorem dX12_readsNote_70 : decode cX12_readsNote 70 = .ok (.aload_n 0, 1) := by decide +kernel
theorem dX12_readsNote_71 : decode cX12_readsNote 71 = .ok (.invokevirtual 255, 3) := by decide +kernel
theorem dX12_readsNote_74 : decode cX12_readsNote 74 = .ok (.ifCond .eq 12, 3) := by decide +kernel
theorem dX12_readsNote_77 : decode cX12_readsNote 77 = .ok (.aload_n 0, 1) := by decide +kernel
theorem dX12_readsNote_78 : decode cX12_readsNote 78 = .ok (.invokevirtual 259, 3) := by decide +kernel
theorem dX12_readsNote_81 : decode cX12_readsNote 81 = .ok (.bipush 48, 2) := by decide +kernel
theorem dX12_readsNote_83 : decode cX12_readsNote 83 = .ok (.if_icmp .ne 13, 3) := by decide +kernel
theorem dX12_readsNote_86 : decode cX12_readsNote 86 = .ok (.aload_n 0, 1) := by decide +kernel
theorem dX12_readsNote_87 : decode cX12_readsNote 87 = .ok (.iconst 1, 1) := by decide +kernel
theorem dX12_readsNote_88 : decode cX12_readsNote 88 = .ok (.aload_n 0, 1) := by decide +kernel
theorem dX12_readsNote_89 : decode cX12_readsNote 89 = .ok (.getfield 249, 3) := by decide +kernel
theorem dX12_readsNote_92 : decode cX12_readsNote 92 = .ok (.invokevirtual 263, 3) := by decide +kernel
theorem dX12_readsNote_95 : decode cX12_readsNote 95 = .ok (.ireturn, 1) := by decide +kernel
theorem dX12_readsNote_96 : decode cX12_readsNote 96 = .ok (.aload_n 0, 1) := by decide +kernel
theorem dX12_readsNote_97 : decode cX12_readsNote 97 = .ok (.getfield 57, 3) := by decide +kernel
theorem dX12_readsNote_100 : decode cX12_readsNote 100 = .ok (.aload_n 0, 1) := by decide +kernel
theorem dX12_readsNote_101 : decode cX12_readsNote 101 = .ok (.getfield 270, 3) := by decide +kernel
theorem dX12_readsNote_104 : decode cX12_readsNote 104 = .ok (.iload_n 1, 1) := by decide +kernel
theorem dX12_readsNote_105 : decode cX12_readsNote 105 = .ok (.iastore, 1) := by decide +kernel
theorem dX12_readsNote_106 : decode cX12_readsNote 106 = .ok (.aload_n 0, 1) := by decide +kernel
theorem dX12_readsNote_107 : decode cX12_readsNote 107 = .ok (.getfield 60, 3) := by decide +kernel
theorem dX12_readsNote_110 : decode cX12_readsNote 110 = .ok (.aload_n 0, 1) := by decide +kernel
theorem dX12_readsNote_111 : decode cX12_readsNote 111 = .ok (.getfield 270, 3) := by decide +kernel
theorem dX12_readsNote_114 : decode cX12_readsNote 114 = .ok (.aload_n 0, 1) := by decide +kernel
theorem dX12_readsNote_115 : decode cX12_readsNote 115 = .ok (.getfield 252, 3) := by decide +kernel
theorem dX12_readsNote_118 : decode cX12_readsNote 118 = .ok (.iastore, 1) := by decide +kernel
theorem dX12_readsNote_119 : decode cX12_readsNote 119 = .ok (.aload_n 0, 1) := by decide +kernel
theorem dX12_readsNote_120 : decode cX12_readsNote 120 = .ok (.getfield 63, 3) := by decide +kernel
theorem dX12_readsNote_123 : decode cX12_readsNote 123 = .ok (.aload_n 0, 1) := by decide +kernel
theorem dX12_readsNote_124 : decode cX12_readsNote 124 = .ok (.getfield 270, 3) := by decide +kernel
theorem dX12_readsNote_127 : decode cX12_readsNote 127 = .ok (.aload_n 0, 1) := by decide +kernel
theorem dX12_readsNote_128 : decode cX12_readsNote 128 = .ok (.invokevirtual 259, 3) := by decide +kernel
theorem dX12_readsNote_131 : decode cX12_readsNote 131 = .ok (.bipush 48, 2) := by decide +kernel
theorem dX12_readsNote_133 : decode cX12_readsNote 133 = .ok (.isub, 1) := by decide +kernel
theorem dX12_readsNote_134 : decode cX12_readsNote 134 = .ok (.iastore, 1) := by decide +kernel
theorem dX12_readsNote_135 : decode cX12_readsNote 135 = .ok (.aload_n 0, 1) := by decide +kernel
theorem dX12_readsNote_136 : decode cX12_readsNote 136 = .ok (.getfield 66, 3) := by decide +kernel
theorem dX12_readsNote_139 : decode cX12_readsNote 139 = .ok (.aload_n 0, 1) := by decide +kernel
theorem dX12_readsNote_140 : decode cX12_readsNote 140 = .ok (.getfield 270, 3) := by decide +kernel
theorem dX12_readsNote_143 : decode cX12_readsNote 143 = .ok (.aload_n 0, 1) := by decide +kernel
theorem dX12_readsNote_144 : decode cX12_readsNote 144 = .ok (.getfield 279, 3) := by decide +kernel
theorem dX12_readsNote_147 : decode cX12_readsNote 147 = .ok (.iconst 1, 1) := by decide +kernel
theorem dX12_readsNote_148 : decode cX12_readsNote 148 = .ok (.isub, 1) := by decide +kernel
theorem dX12_readsNote_149 : decode cX12_readsNote 149 = .ok (.iastore, 1) := by decide +kernel
theorem dX12_readsNote_150 : decode cX12_readsNote 150 = .ok (.aload_n 0, 1) := by decide +kernel
theorem dX12_readsNote_151 : decode cX12_readsNote 151 = .ok (.getfield 69, 3) := by decide +kernel
theorem dX12_readsNote_154 : decode cX12_readsNote 154 = .ok (.aload_n 0, 1) := by decide +kernel
theorem dX12_readsNote_155 : decode cX12_readsNote 155 = .ok (.getfield 270, 3) := by decide +kernel
theorem dX12_readsNote_158 : decode cX12_readsNote 158 = .ok (.aload_n 0, 1) := by decide +kernel
theorem dX12_readsNote_159 : decode cX12_readsNote 159 = .ok (.getfield 282, 3) := by decide +kernel
theorem dX12_readsNote_162 : decode cX12_readsNote 162 = .ok (.iconst 1, 1) := by decide +kernel
theorem dX12_readsNote_163 : decode cX12_readsNote 163 = .ok (.isub, 1) := by decide +kernel
theorem dX12_readsNote_164 : decode cX12_readsNote 164 = .ok (.iastore, 1) := by decide +kernel
theorem dX12_readsNote_165 : decode cX12_readsNote 165 = .ok (.aload_n 0, 1) := by decide +kernel
theorem dX12_readsNote_166 : decode cX12_readsNote 166 = .ok (.aload_n 0, 1) := by decide +kernel
theorem dX12_readsNote_167 : decode cX12_readsNote 167 = .ok (.getfield 270, 3) := by decide +kernel
theorem dX12_readsNote_170 : decode cX12_readsNote 170 = .ok (.iconst 1, 1) := by decide +kernel
theorem dX12_readsNote_171 : decode cX12_readsNote 171 = .ok (.iadd, 1) := by decide +kernel
theorem dX12_readsNote_172 : decode cX12_readsNote 172 = .ok (.putfield 270, 3) := by decide +kernel
theorem dX12_readsNote_175 : decode cX12_readsNote 175 = .ok (.aload_n 0, 1) := by decide +kernel
theorem dX12_readsNote_176 : decode cX12_readsNote 176 = .ok (.aload_n 0, 1) := by decide +kernel
theorem dX12_readsNote_177 : decode cX12_readsNote 177 = .ok (.getfield 249, 3) := by decide +kernel
theorem dX12_readsNote_180 : decode cX12_readsNote 180 = .ok (.iconst 1, 1) := by decide +kernel
theorem dX12_readsNote_181 : decode cX12_readsNote 181 = .ok (.iadd, 1) := by decide +kernel
theorem dX12_readsNote_182 : decode cX12_readsNote 182 = .ok (.putfield 249, 3) := by decide +kernel
theorem dX12_readsNote_185 : decode cX12_readsNote 185 = .ok (.iconst 1, 1) := by decide +kernel
theorem dX12_readsNote_186 : decode cX12_readsNote 186 = .ok (.ireturn, 1) := by decide +kernel
def fj_X12_readsNote_86 (μ : ro_Mem) : Option (Int32 × ro_Mem) :=
  (fn_X12_wrongAt 1 (μ 207 14) μ).bind fun q18 =>
  if q18.1 = 0 ∨ q18.1 = 1 then
  (some (q18.1, q18.2)) else none
theorem bj_X12_readsNote_86 {K : ro_K} (hK : ro_C K RX12 cX12_readsNote 2 3) (hR : ro_R K (some .boolean))    {μ : ro_Mem}  {out : Int32 × ro_Mem} (hf : fj_X12_readsNote_86 μ = some out) (hq : kQ K (some (.int out.1)) out.2) : ro_X K 86 [(0, .ref (ro_ad (kG K) 207))] [] μ := by
  unfold fj_X12_readsNote_86 at hf
  refine ro_aload_n hK 0 rfl dX12_readsNote_86 rfl ?_
  refine ro_iconst (v := 1) hK dX12_readsNote_87 (by decide) ?_
  refine ro_aload_n hK 0 rfl dX12_readsNote_88 rfl ?_
  refine ro_geti hK fl_X12_249 sh_207 dX12_readsNote_89 ?_
  obtain ⟨q18, e19, hf⟩ := ro_bd hf
  refine ro_callvi hK [.int 1, .int (μ 207 14)] ml_X12_263 mv_X12_wrongAt (mt_X12_wrongAt (kl K) (kG K)  e19) sh_207 ⟨_, rfl, rfl⟩ (by decide) rfl rfl (Nat.le_of_ble_eq_true rfl) dX12_readsNote_92 ?_
  obtain ⟨g20, hf⟩ := ro_gd hf
  obtain rfl := Option.some.inj hf
  exact ro_zret hK hR dX12_readsNote_95 g20 hq
def fn_X12_readsNote (μ : ro_Mem) : Option (Int32 × ro_Mem) :=
  (fn_X12_here μ).bind fun q1 =>
  (fn_X12_voice q1).bind fun q3 =>
  if q3 = (-1) then
  ((fn_X12_wrongAt 1 (μ 207 14) μ).bind fun q48 =>
  if q48.1 = 0 ∨ q48.1 = 1 then
  (some (q48.1, q48.2)) else none)
  else
  (if (μ 207 21) = 32 then
  ((fn_X12_wrongAt 4 (μ 207 14) μ).bind fun q45 =>
  if q45.1 = 0 ∨ q45.1 = 1 then
  (some (q45.1, q45.2)) else none)
  else
  (ro_lt (ro_set μ 207 14 ((μ 207 14) + 1)) fun m7 =>
  (fn_X12_readsPitch m7).bind fun q9 =>
  if q9.1 = 0 then
  (some (0, q9.2))
  else
  ((fn_X12_takes 120 q9.2).bind fun q12 =>
  if q12.1 = 0 then
  (some (0, q12.2))
  else
  ((fn_X12_isDigit q12.2).bind fun q15 =>
  if q15 = 0 then
  (fj_X12_readsNote_86 q12.2)
  else
  ((fn_X12_here q12.2).bind fun q21 =>
  if q21 = 48 then
  (fj_X12_readsNote_86 q12.2)
  else
  (if ro_in (q12.2 207 21) 32 then
  (ro_lt (ro_set q12.2 223 (q12.2 207 21).toNatClampNeg q3) fun m25 =>
  if ro_in (m25 207 21) 32 then
  (ro_lt (ro_set m25 224 (m25 207 21).toNatClampNeg (m25 207 17)) fun m28 =>
  (fn_X12_here m28).bind fun q30 =>
  if ro_in (m28 207 21) 32 then
  (ro_lt (ro_set m28 225 (m28 207 21).toNatClampNeg (q30 - 48)) fun m33 =>
  if ro_in (m33 207 21) 32 then
  (ro_lt (ro_set m33 226 (m33 207 21).toNatClampNeg ((m33 207 22) - 1)) fun m36 =>
  if ro_in (m36 207 21) 32 then
  (ro_lt (ro_set m36 227 (m36 207 21).toNatClampNeg ((m36 207 23) - 1)) fun m39 =>
  ro_lt (ro_set m39 207 21 ((m39 207 21) + 1)) fun m41 =>
  ro_lt (ro_set m41 207 14 ((m41 207 14) + 1)) fun m43 =>
  some (1, m43)) else none) else none) else none) else none) else none))))))
theorem be_X12_readsNote {K : ro_K} (hK : ro_C K RX12 cX12_readsNote 2 3) (hR : ro_R K (some .boolean))   {μ : ro_Mem} {out : Int32 × ro_Mem} (hf : fn_X12_readsNote μ = some out) (hq : kQ K (some (.int out.1)) out.2) : ro_X K 0 [(0, .ref (ro_ad (kG K) 207))] [] μ := by
  unfold fn_X12_readsNote at hf
  refine ro_aload_n hK 0 rfl dX12_readsNote_0 rfl ?_
  obtain ⟨q1, e2, hf⟩ := ro_bd hf
  refine ro_callvi hK [] ml_X12_259 mv_X12_here (mt_X12_here (kl K) (kG K)  e2) sh_207 ⟨_, rfl, rfl⟩ (by decide) rfl rfl (Nat.le_of_ble_eq_true rfl) dX12_readsNote_1 ?_
  obtain ⟨q3, e4, hf⟩ := ro_bd hf
  refine ro_callsi hK [.int q1] ml_X12_266 ms_X12_voice (mt_X12_voice (kl K) (kG K)  e4) (by decide) rfl rfl (Nat.le_of_ble_eq_true rfl) dX12_readsNote_4 ?_
  refine ro_istore_n (L' := [(1, .int q3), (0, .ref (ro_ad (kG K) 207))]) hK dX12_readsNote_7 rfl (by decide) rfl ?_
  refine ro_iload_n hK 0 rfl dX12_readsNote_8 rfl ?_
  refine ro_iconst (v := (-1)) hK dX12_readsNote_9 (by decide) ?_
  refine ro_icmp_ne hK 23 dX12_readsNote_10 (by decide) (fun c5 => ?_) (fun c5 => ?_)
  · have hf := ro_ie hf c5
    refine ro_aload_n hK 1 rfl dX12_readsNote_23 rfl ?_
    refine ro_geti hK fl_X12_270 sh_207 dX12_readsNote_24 ?_
    refine ro_bipush (v := 32) hK dX12_readsNote_27 (by decide) ?_
    refine ro_icmp_ne hK 42 dX12_readsNote_29 (by decide) (fun c6 => ?_) (fun c6 => ?_)
    · have hf := ro_ie hf c6
      refine ro_aload_n hK 1 rfl dX12_readsNote_42 rfl ?_
      refine ro_aload_n hK 1 rfl dX12_readsNote_43 rfl ?_
      refine ro_geti hK fl_X12_249 sh_207 dX12_readsNote_44 ?_
      refine ro_iconst (v := 1) hK dX12_readsNote_47 (by decide) ?_
      refine ro_iadd hK dX12_readsNote_48 ?_
      obtain ⟨m7, e8, hf⟩ := ro_ld hf
      refine ro_puti hK fl_X12_249 sh_207 rfl rfl dX12_readsNote_49 ?_
      refine ro_mv e8 ?_
      refine ro_aload_n hK 1 rfl dX12_readsNote_52 rfl ?_
      obtain ⟨q9, e10, hf⟩ := ro_bd hf
      refine ro_callvi hK [] ml_X12_273 mv_X12_readsPitch (mt_X12_readsPitch (kl K) (kG K)  e10) sh_207 ⟨_, rfl, rfl⟩ (by decide) rfl rfl (Nat.le_of_ble_eq_true rfl) dX12_readsNote_53 ?_
      refine ro_if_eq hK 68 dX12_readsNote_56 (by decide) (fun c11 => ?_) (fun c11 => ?_)
      · have hf := ro_it hf c11
        refine ro_iconst (v := 0) hK dX12_readsNote_68 (by decide) ?_
        obtain rfl := Option.some.inj hf
        exact ro_zret hK hR dX12_readsNote_69 (by decide) hq
      · have hf := ro_ie hf c11
        refine ro_aload_n hK 1 rfl dX12_readsNote_59 rfl ?_
        refine ro_bipush (v := 120) hK dX12_readsNote_60 (by decide) ?_
        obtain ⟨q12, e13, hf⟩ := ro_bd hf
        refine ro_callvi hK [.int 120] ml_X12_276 mv_X12_takes (mt_X12_takes (kl K) (kG K)  e13) sh_207 ⟨_, rfl, rfl⟩ (by decide) rfl rfl (Nat.le_of_ble_eq_true rfl) dX12_readsNote_62 ?_
        refine ro_if_ne hK 70 dX12_readsNote_65 (by decide) (fun c14 => ?_) (fun c14 => ?_)
        · have hf := ro_ie hf c14
          refine ro_aload_n hK 1 rfl dX12_readsNote_70 rfl ?_
          obtain ⟨q15, e16, hf⟩ := ro_bd hf
          refine ro_callvi hK [] ml_X12_255 mv_X12_isDigit (mt_X12_isDigit (kl K) (kG K)  e16) sh_207 ⟨_, rfl, rfl⟩ (by decide) rfl rfl (Nat.le_of_ble_eq_true rfl) dX12_readsNote_71 ?_
          refine ro_if_eq hK 86 dX12_readsNote_74 (by decide) (fun c17 => ?_) (fun c17 => ?_)
          · have hf := ro_it hf c17
            refine ro_sub (L' := [(0, .ref (ro_ad (kG K) 207))]) [1] rfl ?_
            exact bj_X12_readsNote_86 hK hR  hf hq
          · have hf := ro_ie hf c17
            refine ro_aload_n hK 1 rfl dX12_readsNote_77 rfl ?_
            obtain ⟨q21, e22, hf⟩ := ro_bd hf
            refine ro_callvi hK [] ml_X12_259 mv_X12_here (mt_X12_here (kl K) (kG K)  e22) sh_207 ⟨_, rfl, rfl⟩ (by decide) rfl rfl (Nat.le_of_ble_eq_true rfl) dX12_readsNote_78 ?_
            refine ro_bipush (v := 48) hK dX12_readsNote_81 (by decide) ?_
            refine ro_icmp_ne hK 96 dX12_readsNote_83 (by decide) (fun c23 => ?_) (fun c23 => ?_)
            · have hf := ro_ie hf c23
              refine ro_aload_n hK 1 rfl dX12_readsNote_96 rfl ?_
              refine ro_getr hK fl_X12_57 sh_207 dX12_readsNote_97 ?_
              refine ro_aload_n hK 1 rfl dX12_readsNote_100 rfl ?_
              refine ro_geti hK fl_X12_270 sh_207 dX12_readsNote_101 ?_
              refine ro_iload_n hK 0 rfl dX12_readsNote_104 rfl ?_
              obtain ⟨g24, hf⟩ := ro_gd hf
              obtain ⟨m25, e26, hf⟩ := ro_ld hf
              refine ro_iast hK sh_223 g24 dX12_readsNote_105 ?_
              refine ro_mv e26 ?_
              refine ro_aload_n hK 1 rfl dX12_readsNote_106 rfl ?_
              refine ro_getr hK fl_X12_60 sh_207 dX12_readsNote_107 ?_
              refine ro_aload_n hK 1 rfl dX12_readsNote_110 rfl ?_
              refine ro_geti hK fl_X12_270 sh_207 dX12_readsNote_111 ?_
              refine ro_aload_n hK 1 rfl dX12_readsNote_114 rfl ?_
              refine ro_geti hK fl_X12_252 sh_207 dX12_readsNote_115 ?_
              obtain ⟨g27, hf⟩ := ro_gd hf
              obtain ⟨m28, e29, hf⟩ := ro_ld hf
              refine ro_iast hK sh_224 g27 dX12_readsNote_118 ?_
              refine ro_mv e29 ?_
              refine ro_aload_n hK 1 rfl dX12_readsNote_119 rfl ?_
              refine ro_getr hK fl_X12_63 sh_207 dX12_readsNote_120 ?_
              refine ro_aload_n hK 1 rfl dX12_readsNote_123 rfl ?_
              refine ro_geti hK fl_X12_270 sh_207 dX12_readsNote_124 ?_
              refine ro_aload_n hK 1 rfl dX12_readsNote_127 rfl ?_
              obtain ⟨q30, e31, hf⟩ := ro_bd hf
              refine ro_callvi hK [] ml_X12_259 mv_X12_here (mt_X12_here (kl K) (kG K)  e31) sh_207 ⟨_, rfl, rfl⟩ (by decide) rfl rfl (Nat.le_of_ble_eq_true rfl) dX12_readsNote_128 ?_
              refine ro_bipush (v := 48) hK dX12_readsNote_131 (by decide) ?_
              refine ro_isub hK dX12_readsNote_133 ?_
              obtain ⟨g32, hf⟩ := ro_gd hf
              obtain ⟨m33, e34, hf⟩ := ro_ld hf
              refine ro_iast hK sh_225 g32 dX12_readsNote_134 ?_
              refine ro_mv e34 ?_
              refine ro_aload_n hK 1 rfl dX12_readsNote_135 rfl ?_
              refine ro_getr hK fl_X12_66 sh_207 dX12_readsNote_136 ?_
              refine ro_aload_n hK 1 rfl dX12_readsNote_139 rfl ?_
              refine ro_geti hK fl_X12_270 sh_207 dX12_readsNote_140 ?_
              refine ro_aload_n hK 1 rfl dX12_readsNote_143 rfl ?_
              refine ro_geti hK fl_X12_279 sh_207 dX12_readsNote_144 ?_
              refine ro_iconst (v := 1) hK dX12_readsNote_147 (by decide) ?_
              refine ro_isub hK dX12_readsNote_148 ?_
              obtain ⟨g35, hf⟩ := ro_gd hf
              obtain ⟨m36, e37, hf⟩ := ro_ld hf
              refine ro_iast hK sh_226 g35 dX12_readsNote_149 ?_
              refine ro_mv e37 ?_
              refine ro_aload_n hK 1 rfl dX12_readsNote_150 rfl ?_
              refine ro_getr hK fl_X12_69 sh_207 dX12_readsNote_151 ?_
              refine ro_aload_n hK 1 rfl dX12_readsNote_154 rfl ?_
              refine ro_geti hK fl_X12_270 sh_207 dX12_readsNote_155 ?_
              refine ro_aload_n hK 1 rfl dX12_readsNote_158 rfl ?_
              refine ro_geti hK fl_X12_282 sh_207 dX12_readsNote_159 ?_
              refine ro_iconst (v := 1) hK dX12_readsNote_162 (by decide) ?_
              refine ro_isub hK dX12_readsNote_163 ?_
              obtain ⟨g38, hf⟩ := ro_gd hf
              obtain ⟨m39, e40, hf⟩ := ro_ld hf
              refine ro_iast hK sh_227 g38 dX12_readsNote_164 ?_
              refine ro_mv e40 ?_
              refine ro_aload_n hK 1 rfl dX12_readsNote_165 rfl ?_
              refine ro_aload_n hK 1 rfl dX12_readsNote_166 rfl ?_
              refine ro_geti hK fl_X12_270 sh_207 dX12_readsNote_167 ?_
              refine ro_iconst (v := 1) hK dX12_readsNote_170 (by decide) ?_
              refine ro_iadd hK dX12_readsNote_171 ?_
              obtain ⟨m41, e42, hf⟩ := ro_ld hf
              refine ro_puti hK fl_X12_270 sh_207 rfl rfl dX12_readsNote_172 ?_
              refine ro_mv e42 ?_
              refine ro_aload_n hK 1 rfl dX12_readsNote_175 rfl ?_
              refine ro_aload_n hK 1 rfl dX12_readsNote_176 rfl ?_
              refine ro_geti hK fl_X12_249 sh_207 dX12_readsNote_177 ?_
              refine ro_iconst (v := 1) hK dX12_readsNote_180 (by decide) ?_
              refine ro_iadd hK dX12_readsNote_181 ?_
              obtain ⟨m43, e44, hf⟩ := ro_ld hf
              refine ro_puti hK fl_X12_249 sh_207 rfl rfl dX12_readsNote_182 ?_
              refine ro_mv e44 ?_
              refine ro_iconst (v := 1) hK dX12_readsNote_185 (by decide) ?_
              obtain rfl := Option.some.inj hf
              exact ro_zret hK hR dX12_readsNote_186 (by decide) hq
            · have hf := ro_it hf c23
              refine ro_sub (L' := [(0, .ref (ro_ad (kG K) 207))]) [1] rfl ?_
              exact bj_X12_readsNote_86 hK hR  hf hq
        · have hf := ro_it hf c14
          refine ro_iconst (v := 0) hK dX12_readsNote_68 (by decide) ?_
          obtain rfl := Option.some.inj hf
          exact ro_zret hK hR dX12_readsNote_69 (by decide) hq
    · have hf := ro_it hf c6
      refine ro_aload_n hK 1 rfl dX12_readsNote_32 rfl ?_
      refine ro_iconst (v := 4) hK dX12_readsNote_33 (by decide) ?_
      refine ro_aload_n hK 1 rfl dX12_readsNote_34 rfl ?_
      refine ro_geti hK fl_X12_249 sh_207 dX12_readsNote_35 ?_
      obtain ⟨q45, e46, hf⟩ := ro_bd hf
      refine ro_callvi hK [.int 4, .int (μ 207 14)] ml_X12_263 mv_X12_wrongAt (mt_X12_wrongAt (kl K) (kG K)  e46) sh_207 ⟨_, rfl, rfl⟩ (by decide) rfl rfl (Nat.le_of_ble_eq_true rfl) dX12_readsNote_38 ?_
      obtain ⟨g47, hf⟩ := ro_gd hf
      obtain rfl := Option.some.inj hf
      exact ro_zret hK hR dX12_readsNote_41 g47 hq
  · have hf := ro_it hf c5
    refine ro_aload_n hK 1 rfl dX12_readsNote_13 rfl ?_
    refine ro_iconst (v := 1) hK dX12_readsNote_14 (by decide) ?_
    refine ro_aload_n hK 1 rfl dX12_readsNote_15 rfl ?_
    refine ro_geti hK fl_X12_249 sh_207 dX12_readsNote_16 ?_
    obtain ⟨q48, e49, hf⟩ := ro_bd hf
    refine ro_callvi hK [.int 1, .int (μ 207 14)] ml_X12_263 mv_X12_wrongAt (mt_X12_wrongAt (kl K) (kG K)  e49) sh_207 ⟨_, rfl, rfl⟩ (by decide) rfl rfl (Nat.le_of_ble_eq_true rfl) dX12_readsNote_19 ?_
    obtain ⟨g50, hf⟩ := ro_gd hf
    obtain rfl := Option.some.inj hf
    exact ro_zret hK hR dX12_readsNote_22 g50 hq
theorem mt_X12_readsNote (l : Launch) (G : ro_G)   {μ : ro_Mem} {out : Int32 × ro_Mem} (hf : fn_X12_readsNote μ = some out) : ro_MX l G yX12_readsNote cX12_readsNote 2 (some .boolean) 3 [.ref (ro_ad G 207)] μ (some (.int out.1)) out.2 := by
  refine ro_MX.of (by decide +kernel) (Nat.le_of_ble_eq_true rfl) (fun K hG hl hq hK hR => ?_)
  subst hG
  exact be_X12_readsNote hK hR  hf hq
-- ===== X12_readsSign =====
theorem dX12_readsSign_0 : decode cX12_readsSign 0 = .ok (.aload_n 0, 1) := by decide +kernel
theorem dX12_readsSign_1 : decode cX12_readsSign 1 = .ok (.invokevirtual 259, 3) := by decide +kernel
theorem dX12_readsSign_4 : decode cX12_readsSign 4 = .ok (.istore_n 1, 1) := by decide +kernel
theorem dX12_readsSign_5 : decode cX12_readsSign 5 = .ok (.iload_n 1, 1) := by decide +kernel
theorem dX12_readsSign_6 : decode cX12_readsSign 6 = .ok (.bipush 44, 2) := by decide +kernel
theorem dX12_readsSign_8 : decode cX12_readsSign 8 = .ok (.if_icmp .eq 25, 3) := by decide +kernel
theorem dX12_readsSign_11 : decode cX12_readsSign 11 = .ok (.iload_n 1, 1) := by decide +kernel
theorem dX12_readsSign_12 : decode cX12_readsSign 12 = .ok (.bipush 124, 2) := by decide +kernel
theorem dX12_readsSign_14 : decode cX12_readsSign 14 = .ok (.if_icmp .eq 19, 3) := by decide +kernel
theorem dX12_readsSign_17 : decode cX12_readsSign 17 = .ok (.iload_n 1, 1) := by decide +kernel
theorem dX12_readsSign_18 : decode cX12_readsSign 18 = .ok (.bipush 47, 2) := by decide +kernel
theorem dX12_readsSign_20 : decode cX12_readsSign 20 = .ok (.if_icmp .eq 13, 3) := by decide +kernel
theorem dX12_readsSign_23 : decode cX12_readsSign 23 = .ok (.aload_n 0, 1) := by decide +kernel
theorem dX12_readsSign_24 : decode cX12_readsSign 24 = .ok (.iconst 1, 1) := by decide +kernel
theorem dX12_readsSign_25 : decode cX12_readsSign 25 = .ok (.aload_n 0, 1) := by decide +kernel
theorem dX12_readsSign_26 : decode cX12_readsSign 26 = .ok (.getfield 249, 3) := by decide +kernel
theorem dX12_readsSign_29 : decode cX12_readsSign 29 = .ok (.invokevirtual 263, 3) := by decide +kernel
theorem dX12_readsSign_32 : decode cX12_readsSign 32 = .ok (.ireturn, 1) := by decide +kernel
theorem dX12_readsSign_33 : decode cX12_readsSign 33 = .ok (.iload_n 1, 1) := by decide +kernel
theorem dX12_readsSign_34 : decode cX12_readsSign 34 = .ok (.bipush 44, 2) := by decide +kernel
theorem dX12_readsSign_36 : decode cX12_readsSign 36 = .ok (.if_icmp .eq 12, 3) := by decide +kernel
theorem dX12_readsSign_39 : decode cX12_readsSign 39 = .ok (.aload_n 0, 1) := by decide +kernel
theorem dX12_readsSign_40 : decode cX12_readsSign 40 = .ok (.getfield 279, 3) := by decide +kernel
theorem dX12_readsSign_43 : decode cX12_readsSign 43 = .ok (.bipush 12, 2) := by decide +kernel
theorem dX12_readsSign_45 : decode cX12_readsSign 45 = .ok (.if_icmp .eq 17, 3) := by decide +kernel
theorem dX12_readsSign_48 : decode cX12_readsSign 48 = .ok (.iload_n 1, 1) := by decide +kernel
theorem dX12_readsSign_49 : decode cX12_readsSign 49 = .ok (.bipush 47, 2) := by decide +kernel
theorem dX12_readsSign_51 : decode cX12_readsSign 51 = .ok (.if_icmp .ne 22, 3) := by decide +kernel
theorem dX12_readsSign_54 : decode cX12_readsSign 54 = .ok (.aload_n 0, 1) := by decide +kernel
theorem dX12_readsSign_55 : decode cX12_readsSign 55 = .ok (.getfield 282, 3) := by decide +kernel
theorem dX12_readsSign_58 : decode cX12_readsSign 58 = .ok (.iconst 4, 1) := by decide +kernel
theorem dX12_readsSign_59 : decode cX12_readsSign 59 = .ok (.if_icmp .ne 14, 3) := by decide +kernel
theorem dX12_readsSign_62 : decode cX12_readsSign 62 = .ok (.aload_n 0, 1) := by decide +kernel
theorem dX12_readsSign_63 : decode cX12_readsSign 63 = .ok (.bipush 6, 2) := by decide +kernel
theorem dX12_readsSign_65 : decode cX12_readsSign 65 = .ok (.aload_n 0, 1) := by decide +kernel
theorem dX12_readsSign_66 : decode cX12_readsSign 66 = .ok (.getfield 249, 3) := by decide +kernel
theorem dX12_readsSign_69 : decode cX12_readsSign 69 = .ok (.invokevirtual 263, 3) := by decide +kernel
theorem dX12_readsSign_72 : decode cX12_readsSign 72 = .ok (.ireturn, 1) := by decide +kernel
theorem dX12_readsSign_73 : decode cX12_readsSign 73 = .ok (.aload_n 0, 1) := by decide +kernel
theorem dX12_readsSign_74 : decode cX12_readsSign 74 = .ok (.aload_n 0, 1) := by decide +kernel
theorem dX12_readsSign_75 : decode cX12_readsSign 75 = .ok (.getfield 279, 3) := by decide +kernel
theorem dX12_readsSign_78 : decode cX12_readsSign 78 = .ok (.iload_n 1, 1) := by decide +kernel
theorem dX12_readsSign_79 : decode cX12_readsSign 79 = .ok (.bipush 44, 2) := by decide +kernel
theorem dX12_readsSign_81 : decode cX12_readsSign 81 = .ok (.if_icmp .ne 7, 3) := by decide +kernel
theorem dX12_readsSign_84 : decode cX12_readsSign 84 = .ok (.iconst 0, 1) := by decide +kernel
theorem dX12_readsSign_85 : decode cX12_readsSign 85 = .ok (.goto 4, 3) := by decide +kernel
theorem dX12_readsSign_88 : decode cX12_readsSign 88 = .ok (.iconst 1, 1) := by decide +kernel
theorem dX12_readsSign_89 : decode cX12_readsSign 89 = .ok (.iadd, 1) := by decide +kernel
theorem dX12_readsSign_90 : decode cX12_readsSign 90 = .ok (.putfield 279, 3) := by decide +kernel
theorem dX12_readsSign_93 : decode cX12_readsSign 93 = .ok (.aload_n 0, 1) := by decide +kernel
theorem dX12_readsSign_94 : decode cX12_readsSign 94 = .ok (.aload_n 0, 1) := by decide +kernel
theorem dX12_readsSign_95 : decode cX12_readsSign 95 = .ok (.getfield 282, 3) := by decide +kernel
theorem dX12_readsSign_98 : decode cX12_readsSign 98 = .ok (.iload_n 1, 1) := by decide +kernel
theorem dX12_readsSign_99 : decode cX12_readsSign 99 = .ok (.bipush 47, 2) := by decide +kernel
theorem dX12_readsSign_101 : decode cX12_readsSign 101 = .ok (.if_icmp .ne 7, 3) := by decide +kernel
theorem dX12_readsSign_104 : decode cX12_readsSign 104 = .ok (.iconst 1, 1) := by decide +kernel
theorem dX12_readsSign_105 : decode cX12_readsSign 105 = .ok (.goto 4, 3) := by decide +kernel
theorem dX12_readsSign_108 : decode cX12_readsSign 108 = .ok (.iconst 0, 1) := by decide +kernel
theorem dX12_readsSign_109 : decode cX12_readsSign 109 = .ok (.iadd, 1) := by decide +kernel
theorem dX12_readsSign_110 : decode cX12_readsSign 110 = .ok (.putfield 282, 3) := by decide +kernel
theorem dX12_readsSign_113 : decode cX12_readsSign 113 = .ok (.aload_n 0, 1) := by decide +kernel
theorem dX12_readsSign_114 : decode cX12_readsSign 114 = .ok (.aload_n 0, 1) := by decide +kernel
theorem dX12_readsSign_115 : decode cX12_readsSign 115 = .ok (.getfield 249, 3) := by decide +kernel
theorem dX12_readsSign_118 : decode cX12_readsSign 118 = .ok (.iconst 1, 1) := by decide +kernel
theorem dX12_readsSign_119 : decode cX12_readsSign 119 = .ok (.iadd, 1) := by decide +kernel
theorem dX12_readsSign_120 : decode cX12_readsSign 120 = .ok (.putfield 249, 3) := by decide +kernel
theorem dX12_readsSign_123 : decode cX12_readsSign 123 = .ok (.iconst 1, 1) := by decide +kernel
theorem dX12_readsSign_124 : decode cX12_readsSign 124 = .ok (.ireturn, 1) := by decide +kernel
def fj_X12_readsSign_109 (t1 : Int32) (t2 : Int32) (μ : ro_Mem) : Option (Int32 × ro_Mem) :=
  ro_lt (ro_set μ 207 23 (t1 + t2)) fun m10 =>
  ro_lt (ro_set m10 207 14 ((m10 207 14) + 1)) fun m12 =>
  some (1, m12)
theorem bj_X12_readsSign_109 {K : ro_K} (hK : ro_C K RX12 cX12_readsSign 2 1) (hR : ro_R K (some .boolean)) {t1 : Int32} {t2 : Int32}   {μ : ro_Mem}  {out : Int32 × ro_Mem} (hf : fj_X12_readsSign_109 t1 t2 μ = some out) (hq : kQ K (some (.int out.1)) out.2) : ro_X K 109 [(0, .ref (ro_ad (kG K) 207))] [.int t2, .int t1, .ref (ro_ad (kG K) 207)] μ := by
  unfold fj_X12_readsSign_109 at hf
  refine ro_iadd hK dX12_readsSign_109 ?_
  obtain ⟨m10, e11, hf⟩ := ro_ld hf
  refine ro_puti hK fl_X12_282 sh_207 rfl rfl dX12_readsSign_110 ?_
  refine ro_mv e11 ?_
  refine ro_aload_n hK 0 rfl dX12_readsSign_113 rfl ?_
  refine ro_aload_n hK 0 rfl dX12_readsSign_114 rfl ?_
  refine ro_geti hK fl_X12_249 sh_207 dX12_readsSign_115 ?_
  refine ro_iconst (v := 1) hK dX12_readsSign_118 (by decide) ?_
  refine ro_iadd hK dX12_readsSign_119 ?_
  obtain ⟨m12, e13, hf⟩ := ro_ld hf
  refine ro_puti hK fl_X12_249 sh_207 rfl rfl dX12_readsSign_120 ?_
  refine ro_mv e13 ?_
  refine ro_iconst (v := 1) hK dX12_readsSign_123 (by decide) ?_
  obtain rfl := Option.some.inj hf
  exact ro_zret hK hR dX12_readsSign_124 (by decide) hq
def fj_X12_readsSign_89 (v1 : Int32) (t1 : Int32) (t2 : Int32) (μ : ro_Mem) : Option (Int32 × ro_Mem) :=
  ro_lt (ro_set μ 207 22 (t1 + t2)) fun m7 =>
  if v1 = 47 then
  (fj_X12_readsSign_109 (m7 207 23) 1 m7)
  else
  (fj_X12_readsSign_109 (m7 207 23) 0 m7)
theorem bj_X12_readsSign_89 {K : ro_K} (hK : ro_C K RX12 cX12_readsSign 2 1) (hR : ro_R K (some .boolean)) {v1 : Int32} {t1 : Int32} {t2 : Int32}   {μ : ro_Mem}  {out : Int32 × ro_Mem} (hf : fj_X12_readsSign_89 v1 t1 t2 μ = some out) (hq : kQ K (some (.int out.1)) out.2) : ro_X K 89 [(0, .ref (ro_ad (kG K) 207)), (1, .int v1)] [.int t2, .int t1, .ref (ro_ad (kG K) 207)] μ := by
  unfold fj_X12_readsSign_89 at hf
  refine ro_iadd hK dX12_readsSign_89 ?_
  obtain ⟨m7, e8, hf⟩ := ro_ld hf
  refine ro_puti hK fl_X12_279 sh_207 rfl rfl dX12_readsSign_90 ?_
  refine ro_mv e8 ?_
  refine ro_aload_n hK 0 rfl dX12_readsSign_93 rfl ?_
  refine ro_aload_n hK 0 rfl dX12_readsSign_94 rfl ?_
  refine ro_geti hK fl_X12_282 sh_207 dX12_readsSign_95 ?_
  refine ro_iload_n hK 1 rfl dX12_readsSign_98 rfl ?_
  refine ro_bipush (v := 47) hK dX12_readsSign_99 (by decide) ?_
  refine ro_icmp_ne hK 108 dX12_readsSign_101 (by decide) (fun c9 => ?_) (fun c9 => ?_)
  · have hf := ro_ie hf c9
    refine ro_iconst (v := 0) hK dX12_readsSign_108 (by decide) ?_
    refine ro_sub (L' := [(0, .ref (ro_ad (kG K) 207))]) [0] rfl ?_
    exact bj_X12_readsSign_109 hK hR  hf hq
  · have hf := ro_it hf c9
    refine ro_iconst (v := 1) hK dX12_readsSign_104 (by decide) ?_
    refine ro_goto hK 109 dX12_readsSign_105 (by decide) ?_
    refine ro_sub (L' := [(0, .ref (ro_ad (kG K) 207))]) [0] rfl ?_
    exact bj_X12_readsSign_109 hK hR  hf hq
def fj_X12_readsSign_73 (v1 : Int32) (μ : ro_Mem) : Option (Int32 × ro_Mem) :=
  if v1 = 44 then
  (fj_X12_readsSign_89 v1 (μ 207 22) 0 μ)
  else
  (fj_X12_readsSign_89 v1 (μ 207 22) 1 μ)
theorem bj_X12_readsSign_73 {K : ro_K} (hK : ro_C K RX12 cX12_readsSign 2 1) (hR : ro_R K (some .boolean)) {v1 : Int32}   {μ : ro_Mem}  {out : Int32 × ro_Mem} (hf : fj_X12_readsSign_73 v1 μ = some out) (hq : kQ K (some (.int out.1)) out.2) : ro_X K 73 [(0, .ref (ro_ad (kG K) 207)), (1, .int v1)] [] μ := by
  unfold fj_X12_readsSign_73 at hf
  refine ro_aload_n hK 0 rfl dX12_readsSign_73 rfl ?_
  refine ro_aload_n hK 0 rfl dX12_readsSign_74 rfl ?_
  refine ro_geti hK fl_X12_279 sh_207 dX12_readsSign_75 ?_
  refine ro_iload_n hK 1 rfl dX12_readsSign_78 rfl ?_
  refine ro_bipush (v := 44) hK dX12_readsSign_79 (by decide) ?_
  refine ro_icmp_ne hK 88 dX12_readsSign_81 (by decide) (fun c6 => ?_) (fun c6 => ?_)
  · have hf := ro_ie hf c6
    refine ro_iconst (v := 1) hK dX12_readsSign_88 (by decide) ?_
    exact bj_X12_readsSign_89 hK hR  hf hq
  · have hf := ro_it hf c6
    refine ro_iconst (v := 0) hK dX12_readsSign_84 (by decide) ?_
    refine ro_goto hK 89 dX12_readsSign_85 (by decide) ?_
    exact bj_X12_readsSign_89 hK hR  hf hq
def fj_X12_readsSign_62 (μ : ro_Mem) : Option (Int32 × ro_Mem) :=
  (fn_X12_wrongAt 6 (μ 207 14) μ).bind fun q15 =>
  if q15.1 = 0 ∨ q15.1 = 1 then
  (some (q15.1, q15.2)) else none
theorem bj_X12_readsSign_62 {K : ro_K} (hK : ro_C K RX12 cX12_readsSign 2 1) (hR : ro_R K (some .boolean))    {μ : ro_Mem}  {out : Int32 × ro_Mem} (hf : fj_X12_readsSign_62 μ = some out) (hq : kQ K (some (.int out.1)) out.2) : ro_X K 62 [(0, .ref (ro_ad (kG K) 207))] [] μ := by
  unfold fj_X12_readsSign_62 at hf
  refine ro_aload_n hK 0 rfl dX12_readsSign_62 rfl ?_
  refine ro_bipush (v := 6) hK dX12_readsSign_63 (by decide) ?_
  refine ro_aload_n hK 0 rfl dX12_readsSign_65 rfl ?_
  refine ro_geti hK fl_X12_249 sh_207 dX12_readsSign_66 ?_
  obtain ⟨q15, e16, hf⟩ := ro_bd hf
  refine ro_callvi hK [.int 6, .int (μ 207 14)] ml_X12_263 mv_X12_wrongAt (mt_X12_wrongAt (kl K) (kG K)  e16) sh_207 ⟨_, rfl, rfl⟩ (by decide) rfl rfl (Nat.le_of_ble_eq_true rfl) dX12_readsSign_69 ?_
  obtain ⟨g17, hf⟩ := ro_gd hf
  obtain rfl := Option.some.inj hf
  exact ro_zret hK hR dX12_readsSign_72 g17 hq
def fj_X12_readsSign_48 (v1 : Int32) (μ : ro_Mem) : Option (Int32 × ro_Mem) :=
  if v1 = 47 then
  (if (μ 207 23) = 4 then
  (fj_X12_readsSign_62 μ)
  else
  (fj_X12_readsSign_73 v1 μ))
  else
  (fj_X12_readsSign_73 v1 μ)
theorem bj_X12_readsSign_48 {K : ro_K} (hK : ro_C K RX12 cX12_readsSign 2 1) (hR : ro_R K (some .boolean)) {v1 : Int32}   {μ : ro_Mem}  {out : Int32 × ro_Mem} (hf : fj_X12_readsSign_48 v1 μ = some out) (hq : kQ K (some (.int out.1)) out.2) : ro_X K 48 [(0, .ref (ro_ad (kG K) 207)), (1, .int v1)] [] μ := by
  unfold fj_X12_readsSign_48 at hf
  refine ro_iload_n hK 1 rfl dX12_readsSign_48 rfl ?_
  refine ro_bipush (v := 47) hK dX12_readsSign_49 (by decide) ?_
  refine ro_icmp_ne hK 73 dX12_readsSign_51 (by decide) (fun c5 => ?_) (fun c5 => ?_)
  · have hf := ro_ie hf c5
    exact bj_X12_readsSign_73 hK hR  hf hq
  · have hf := ro_it hf c5
    refine ro_aload_n hK 0 rfl dX12_readsSign_54 rfl ?_
    refine ro_geti hK fl_X12_282 sh_207 dX12_readsSign_55 ?_
    refine ro_iconst (v := 4) hK dX12_readsSign_58 (by decide) ?_
    refine ro_icmp_ne hK 73 dX12_readsSign_59 (by decide) (fun c14 => ?_) (fun c14 => ?_)
    · have hf := ro_ie hf c14
      exact bj_X12_readsSign_73 hK hR  hf hq
    · have hf := ro_it hf c14
      refine ro_sub (L' := [(0, .ref (ro_ad (kG K) 207))]) [0] rfl ?_
      exact bj_X12_readsSign_62 hK hR  hf hq
def fj_X12_readsSign_33 (v1 : Int32) (μ : ro_Mem) : Option (Int32 × ro_Mem) :=
  if v1 = 44 then
  (fj_X12_readsSign_48 v1 μ)
  else
  (if (μ 207 22) = 12 then
  (fj_X12_readsSign_62 μ)
  else
  (fj_X12_readsSign_48 v1 μ))
theorem bj_X12_readsSign_33 {K : ro_K} (hK : ro_C K RX12 cX12_readsSign 2 1) (hR : ro_R K (some .boolean)) {v1 : Int32}   {μ : ro_Mem}  {out : Int32 × ro_Mem} (hf : fj_X12_readsSign_33 v1 μ = some out) (hq : kQ K (some (.int out.1)) out.2) : ro_X K 33 [(0, .ref (ro_ad (kG K) 207)), (1, .int v1)] [] μ := by
  unfold fj_X12_readsSign_33 at hf
  refine ro_iload_n hK 1 rfl dX12_readsSign_33 rfl ?_
  refine ro_bipush (v := 44) hK dX12_readsSign_34 (by decide) ?_
  refine ro_icmp_eq hK 48 dX12_readsSign_36 (by decide) (fun c4 => ?_) (fun c4 => ?_)
  · have hf := ro_it hf c4
    exact bj_X12_readsSign_48 hK hR  hf hq
  · have hf := ro_ie hf c4
    refine ro_aload_n hK 0 rfl dX12_readsSign_39 rfl ?_
    refine ro_geti hK fl_X12_279 sh_207 dX12_readsSign_40 ?_
    refine ro_bipush (v := 12) hK dX12_readsSign_43 (by decide) ?_
    refine ro_icmp_eq hK 62 dX12_readsSign_45 (by decide) (fun c18 => ?_) (fun c18 => ?_)
    · have hf := ro_it hf c18
      refine ro_sub (L' := [(0, .ref (ro_ad (kG K) 207))]) [0] rfl ?_
      exact bj_X12_readsSign_62 hK hR  hf hq
    · have hf := ro_ie hf c18
      exact bj_X12_readsSign_48 hK hR  hf hq
def fn_X12_readsSign (μ : ro_Mem) : Option (Int32 × ro_Mem) :=
  (fn_X12_here μ).bind fun q1 =>
  if q1 = 44 then
  (fj_X12_readsSign_33 q1 μ)
  else
  (if q1 = 124 then
  (fj_X12_readsSign_33 q1 μ)
  else
  (if q1 = 47 then
  (fj_X12_readsSign_33 q1 μ)
  else
  ((fn_X12_wrongAt 1 (μ 207 14) μ).bind fun q21 =>
  if q21.1 = 0 ∨ q21.1 = 1 then
  (some (q21.1, q21.2)) else none)))
theorem be_X12_readsSign {K : ro_K} (hK : ro_C K RX12 cX12_readsSign 2 1) (hR : ro_R K (some .boolean))   {μ : ro_Mem} {out : Int32 × ro_Mem} (hf : fn_X12_readsSign μ = some out) (hq : kQ K (some (.int out.1)) out.2) : ro_X K 0 [(0, .ref (ro_ad (kG K) 207))] [] μ := by
  unfold fn_X12_readsSign at hf
  refine ro_aload_n hK 0 rfl dX12_readsSign_0 rfl ?_
  obtain ⟨q1, e2, hf⟩ := ro_bd hf
  refine ro_callvi hK [] ml_X12_259 mv_X12_here (mt_X12_here (kl K) (kG K)  e2) sh_207 ⟨_, rfl, rfl⟩ (by decide) rfl rfl (Nat.le_of_ble_eq_true rfl) dX12_readsSign_1 ?_
  refine ro_istore_n (L' := [(1, .int q1), (0, .ref (ro_ad (kG K) 207))]) hK dX12_readsSign_4 rfl (by decide) rfl ?_
  refine ro_iload_n hK 0 rfl dX12_readsSign_5 rfl ?_
  refine ro_bipush (v := 44) hK dX12_readsSign_6 (by decide) ?_
  refine ro_icmp_eq hK 33 dX12_readsSign_8 (by decide) (fun c3 => ?_) (fun c3 => ?_)
  · have hf := ro_it hf c3
    refine ro_sub (L' := [(0, .ref (ro_ad (kG K) 207)), (1, .int q1)]) [1, 0] rfl ?_
    exact bj_X12_readsSign_33 hK hR  hf hq
  · have hf := ro_ie hf c3
    refine ro_iload_n hK 0 rfl dX12_readsSign_11 rfl ?_
    refine ro_bipush (v := 124) hK dX12_readsSign_12 (by decide) ?_
    refine ro_icmp_eq hK 33 dX12_readsSign_14 (by decide) (fun c19 => ?_) (fun c19 => ?_)
    · have hf := ro_it hf c19
      refine ro_sub (L' := [(0, .ref (ro_ad (kG K) 207)), (1, .int q1)]) [1, 0] rfl ?_
      exact bj_X12_readsSign_33 hK hR  hf hq
    · have hf := ro_ie hf c19
      refine ro_iload_n hK 0 rfl dX12_readsSign_17 rfl ?_
      refine ro_bipush (v := 47) hK dX12_readsSign_18 (by decide) ?_
      refine ro_icmp_eq hK 33 dX12_readsSign_20 (by decide) (fun c20 => ?_) (fun c20 => ?_)
      · have hf := ro_it hf c20
        refine ro_sub (L' := [(0, .ref (ro_ad (kG K) 207)), (1, .int q1)]) [1, 0] rfl ?_
        exact bj_X12_readsSign_33 hK hR  hf hq
      · have hf := ro_ie hf c20
        refine ro_aload_n hK 1 rfl dX12_readsSign_23 rfl ?_
        refine ro_iconst (v := 1) hK dX12_readsSign_24 (by decide) ?_
        refine ro_aload_n hK 1 rfl dX12_readsSign_25 rfl ?_
        refine ro_geti hK fl_X12_249 sh_207 dX12_readsSign_26 ?_
        obtain ⟨q21, e22, hf⟩ := ro_bd hf
        refine ro_callvi hK [.int 1, .int (μ 207 14)] ml_X12_263 mv_X12_wrongAt (mt_X12_wrongAt (kl K) (kG K)  e22) sh_207 ⟨_, rfl, rfl⟩ (by decide) rfl rfl (Nat.le_of_ble_eq_true rfl) dX12_readsSign_29 ?_
        obtain ⟨g23, hf⟩ := ro_gd hf
        obtain rfl := Option.some.inj hf
        exact ro_zret hK hR dX12_readsSign_32 g23 hq
theorem mt_X12_readsSign (l : Launch) (G : ro_G)   {μ : ro_Mem} {out : Int32 × ro_Mem} (hf : fn_X12_readsSign μ = some out) : ro_MX l G yX12_readsSign cX12_readsSign 2 (some .boolean) 1 [.ref (ro_ad G 207)] μ (some (.int out.1)) out.2 := by
  refine ro_MX.of (by decide +kernel) (Nat.le_of_ble_eq_true rfl) (fun K hG hl hq hK hR => ?_)
  subst hG
  exact be_X12_readsSign hK hR  hf hq
-- ===== X12_readsScore =====
theorem dX12_readsScore_0 : decode cX12_readsScore 0 = .ok (.aload_n 0, 1) := by decide +kernel
theorem dX12_readsScore_1 : decode cX12_readsScore 1 = .ok (.iconst 0, 1) := by decide +kernel
theorem dX12_readsScore_2 : decode cX12_readsScore 2 = .ok (.putfield 270, 3) := by decide +kernel
theorem dX12_readsScore_5 : decode cX12_readsScore 5 = .ok (.aload_n 0, 1) := by decide +kernel
theorem dX12_readsScore_6 : decode cX12_readsScore 6 = .ok (.iconst 1, 1) := by decide +kernel
theorem dX12_readsScore_7 : decode cX12_readsScore 7 = .ok (.putfield 279, 3) := by decide +kernel
theorem dX12_readsScore_10 : decode cX12_readsScore 10 = .ok (.aload_n 0, 1) := by decide +kernel
theorem dX12_readsScore_11 : decode cX12_readsScore 11 = .ok (.iconst 1, 1) := by decide +kernel
theorem dX12_readsScore_12 : decode cX12_readsScore 12 = .ok (.putfield 282, 3) := by decide +kernel
theorem dX12_readsScore_15 : decode cX12_readsScore 15 = .ok (.aload_n 0, 1) := by decide +kernel
theorem dX12_readsScore_16 : decode cX12_readsScore 16 = .ok (.invokevirtual 285, 3) := by decide +kernel
theorem dX12_readsScore_19 : decode cX12_readsScore 19 = .ok (.ifCond .ne 5, 3) := by decide +kernel
theorem dX12_readsScore_22 : decode cX12_readsScore 22 = .ok (.iconst 0, 1) := by decide +kernel
theorem dX12_readsScore_23 : decode cX12_readsScore 23 = .ok (.ireturn, 1) := by decide +kernel
theorem dX12_readsScore_24 : decode cX12_readsScore 24 = .ok (.aload_n 0, 1) := by decide +kernel
theorem dX12_readsScore_25 : decode cX12_readsScore 25 = .ok (.getfield 249, 3) := by decide +kernel
theorem dX12_readsScore_28 : decode cX12_readsScore 28 = .ok (.aload_n 0, 1) := by decide +kernel
theorem dX12_readsScore_29 : decode cX12_readsScore 29 = .ok (.getfield 288, 3) := by decide +kernel
theorem dX12_readsScore_32 : decode cX12_readsScore 32 = .ok (.if_icmp .ge 19, 3) := by decide +kernel
theorem dX12_readsScore_35 : decode cX12_readsScore 35 = .ok (.aload_n 0, 1) := by decide +kernel
theorem dX12_readsScore_36 : decode cX12_readsScore 36 = .ok (.invokevirtual 291, 3) := by decide +kernel
theorem dX12_readsScore_39 : decode cX12_readsScore 39 = .ok (.ifCond .eq 10, 3) := by decide +kernel
theorem dX12_readsScore_42 : decode cX12_readsScore 42 = .ok (.aload_n 0, 1) := by decide +kernel
theorem dX12_readsScore_43 : decode cX12_readsScore 43 = .ok (.invokevirtual 285, 3) := by decide +kernel
theorem dX12_readsScore_46 : decode cX12_readsScore 46 = .ok (.ifCond .ne (-22), 3) := by decide +kernel
theorem dX12_readsScore_49 : decode cX12_readsScore 49 = .ok (.iconst 0, 1) := by decide +kernel
theorem dX12_readsScore_50 : decode cX12_readsScore 50 = .ok (.ireturn, 1) := by decide +kernel
theorem dX12_readsScore_51 : decode cX12_readsScore 51 = .ok (.iconst 1, 1) := by decide +kernel
theorem dX12_readsScore_52 : decode cX12_readsScore 52 = .ok (.ireturn, 1) := by decide +kernel
def ok_X12_readsScore_24 (K : ro_K)  : (ro_Mem ⊕ ro_Mem) → Prop := Sum.elim (fun e => ro_X K 49 [] [] e) (fun e => ro_X K 51 [] [] e)
def fb_X12_readsScore_24  (rec : ro_Mem → Option (ro_Mem ⊕ ro_Mem)) (μ : ro_Mem) : Option (ro_Mem ⊕ ro_Mem) :=
  if (μ 207 15) ≤ (μ 207 14) then
  (some (.inr μ))
  else
  ((fn_X12_readsSign μ).bind fun q11 =>
  if q11.1 = 0 then
  (some (.inl q11.2))
  else
  ((fn_X12_readsNote q11.2).bind fun q14 =>
  if q14.1 = 0 then
  (some (.inl q14.2))
  else
  (rec q14.2)))
theorem bb_X12_readsScore_24 {K : ro_K} (hK : ro_C K RX12 cX12_readsScore 1 4) (hR : ro_R K (some .boolean))   {μ : ro_Mem} {rec : ro_Mem → Option (ro_Mem ⊕ ro_Mem)}  {q : (ro_Mem ⊕ ro_Mem)} (hrec : ∀ (s : ro_Mem) (q : (ro_Mem ⊕ ro_Mem)), rec s = some q → ok_X12_readsScore_24 K q → ro_X K 24 [(0, .ref (ro_ad (kG K) 207))] [] s) (hf : fb_X12_readsScore_24 rec μ = some q) (hq : ok_X12_readsScore_24 K q) : ro_X K 24 [(0, .ref (ro_ad (kG K) 207))] [] μ := by
  unfold fb_X12_readsScore_24 at hf
  refine ro_aload_n hK 0 rfl dX12_readsScore_24 rfl ?_
  refine ro_geti hK fl_X12_249 sh_207 dX12_readsScore_25 ?_
  refine ro_aload_n hK 0 rfl dX12_readsScore_28 rfl ?_
  refine ro_geti hK fl_X12_288 sh_207 dX12_readsScore_29 ?_
  refine ro_icmp_ge hK 51 dX12_readsScore_32 (by decide) (fun c10 => ?_) (fun c10 => ?_)
  · have hf := ro_it hf c10
    refine ro_sub (L' := []) [] rfl ?_
    obtain rfl := Option.some.inj hf
    exact hq
  · have hf := ro_ie hf c10
    refine ro_aload_n hK 0 rfl dX12_readsScore_35 rfl ?_
    obtain ⟨q11, e12, hf⟩ := ro_bd hf
    refine ro_callvi hK [] ml_X12_291 mv_X12_readsSign (mt_X12_readsSign (kl K) (kG K)  e12) sh_207 ⟨_, rfl, rfl⟩ (by decide) rfl rfl (Nat.le_of_ble_eq_true rfl) dX12_readsScore_36 ?_
    refine ro_if_eq hK 49 dX12_readsScore_39 (by decide) (fun c13 => ?_) (fun c13 => ?_)
    · have hf := ro_it hf c13
      refine ro_sub (L' := []) [] rfl ?_
      obtain rfl := Option.some.inj hf
      exact hq
    · have hf := ro_ie hf c13
      refine ro_aload_n hK 0 rfl dX12_readsScore_42 rfl ?_
      obtain ⟨q14, e15, hf⟩ := ro_bd hf
      refine ro_callvi hK [] ml_X12_285 mv_X12_readsNote (mt_X12_readsNote (kl K) (kG K)  e15) sh_207 ⟨_, rfl, rfl⟩ (by decide) rfl rfl (Nat.le_of_ble_eq_true rfl) dX12_readsScore_43 ?_
      refine ro_if_ne hK 24 dX12_readsScore_46 (by decide) (fun c16 => ?_) (fun c16 => ?_)
      · have hf := ro_ie hf c16
        exact hrec q14.2 _ hf hq
      · have hf := ro_it hf c16
        refine ro_sub (L' := []) [] rfl ?_
        obtain rfl := Option.some.inj hf
        exact hq
def fl_X12_readsScore_24  : ro_Mem → Option (ro_Mem ⊕ ro_Mem) :=
  ro_loop (fun rec s => fb_X12_readsScore_24 rec s) ro_FU
theorem lp_X12_readsScore_24 {K : ro_K} (hK : ro_C K RX12 cX12_readsScore 1 4) (hR : ro_R K (some .boolean))   {s : ro_Mem} {q : (ro_Mem ⊕ ro_Mem)} (hf : fl_X12_readsScore_24 s = some q) (hq : ok_X12_readsScore_24 K q) : ro_X K 24 [(0, .ref (ro_ad (kG K) 207))] [] s :=
  ro_loopX (b := fun rec s => fb_X12_readsScore_24 rec s) (X := fun s => ro_X K 24 [(0, .ref (ro_ad (kG K) 207))] [] s) (OK := ok_X12_readsScore_24 K) (fun rec s q hrec hb ho => bb_X12_readsScore_24 hK hR  hrec hb ho) ro_FU s q hf hq
def fn_X12_readsScore (μ : ro_Mem) : Option (Int32 × ro_Mem) :=
  ro_lt (ro_set μ 207 21 0) fun m1 =>
  ro_lt (ro_set m1 207 22 1) fun m3 =>
  ro_lt (ro_set m3 207 23 1) fun m5 =>
  (fn_X12_readsNote m5).bind fun q7 =>
  if q7.1 = 0 then
  (some (0, q7.2))
  else
  ((fl_X12_readsScore_24  q7.2).bind fun q17 =>
  q17.elim (fun e19 => some (0, e19)) (fun e20 => some (1, e20)))
theorem be_X12_readsScore {K : ro_K} (hK : ro_C K RX12 cX12_readsScore 1 4) (hR : ro_R K (some .boolean))   {μ : ro_Mem} {out : Int32 × ro_Mem} (hf : fn_X12_readsScore μ = some out) (hq : kQ K (some (.int out.1)) out.2) : ro_X K 0 [(0, .ref (ro_ad (kG K) 207))] [] μ := by
  unfold fn_X12_readsScore at hf
  refine ro_aload_n hK 0 rfl dX12_readsScore_0 rfl ?_
  refine ro_iconst (v := 0) hK dX12_readsScore_1 (by decide) ?_
  obtain ⟨m1, e2, hf⟩ := ro_ld hf
  refine ro_puti hK fl_X12_270 sh_207 rfl rfl dX12_readsScore_2 ?_
  refine ro_mv e2 ?_
  refine ro_aload_n hK 0 rfl dX12_readsScore_5 rfl ?_
  refine ro_iconst (v := 1) hK dX12_readsScore_6 (by decide) ?_
  obtain ⟨m3, e4, hf⟩ := ro_ld hf
  refine ro_puti hK fl_X12_279 sh_207 rfl rfl dX12_readsScore_7 ?_
  refine ro_mv e4 ?_
  refine ro_aload_n hK 0 rfl dX12_readsScore_10 rfl ?_
  refine ro_iconst (v := 1) hK dX12_readsScore_11 (by decide) ?_
  obtain ⟨m5, e6, hf⟩ := ro_ld hf
  refine ro_puti hK fl_X12_282 sh_207 rfl rfl dX12_readsScore_12 ?_
  refine ro_mv e6 ?_
  refine ro_aload_n hK 0 rfl dX12_readsScore_15 rfl ?_
  obtain ⟨q7, e8, hf⟩ := ro_bd hf
  refine ro_callvi hK [] ml_X12_285 mv_X12_readsNote (mt_X12_readsNote (kl K) (kG K)  e8) sh_207 ⟨_, rfl, rfl⟩ (by decide) rfl rfl (Nat.le_of_ble_eq_true rfl) dX12_readsScore_16 ?_
  refine ro_if_ne hK 24 dX12_readsScore_19 (by decide) (fun c9 => ?_) (fun c9 => ?_)
  · have hf := ro_ie hf c9
    obtain ⟨q17, e18, hf⟩ := ro_bd hf
    refine lp_X12_readsScore_24 hK hR  e18 ?_
    rcases q17 with e19 | e20
    · have hf := ro_el hf
      show ro_X K 49 [] [] e19
      refine ro_iconst (v := 0) hK dX12_readsScore_49 (by decide) ?_
      obtain rfl := Option.some.inj hf
      exact ro_zret hK hR dX12_readsScore_50 (by decide) hq
    · have hf := ro_er hf
      show ro_X K 51 [] [] e20
      refine ro_iconst (v := 1) hK dX12_readsScore_51 (by decide) ?_
      obtain rfl := Option.some.inj hf
      exact ro_zret hK hR dX12_readsScore_52 (by decide) hq
  · have hf := ro_it hf c9
    refine ro_iconst (v := 0) hK dX12_readsScore_22 (by decide) ?_
    obtain rfl := Option.some.inj hf
    exact ro_zret hK hR dX12_readsScore_23 (by decide) hq
theorem mt_X12_readsScore (l : Launch) (G : ro_G)   {μ : ro_Mem} {out : Int32 × ro_Mem} (hf : fn_X12_readsScore μ = some out) : ro_MX l G yX12_readsScore cX12_readsScore 1 (some .boolean) 4 [.ref (ro_ad G 207)] μ (some (.int out.1)) out.2 := by
  refine ro_MX.of (by decide +kernel) (Nat.le_of_ble_eq_true rfl) (fun K hG hl hq hK hR => ?_)
  subst hG
  exact be_X12_readsScore hK hR  hf hq
-- ===== X12_score =====
theorem dX12_score_0 : decode cX12_score 0 = .ok (.iload_n 1, 1) := by decide +kernel
theorem dX12_score_1 : decode cX12_score 1 = .ok (.iconst 1, 1) := by decide +kernel
theorem dX12_score_2 : decode cX12_score 2 = .ok (.sipush 200, 3) := by decide +kernel
theorem dX12_score_5 : decode cX12_score 5 = .ok (.invokestatic 215, 3) := by decide +kernel
theorem dX12_score_8 : decode cX12_score 8 = .ok (.ifCond .eq 11, 3) := by decide +kernel
theorem dX12_score_11 : decode cX12_score 11 = .ok (.iload_n 1, 1) := by decide +kernel
theorem dX12_score_12 : decode cX12_score 12 = .ok (.aload_n 0, 1) := by decide +kernel
theorem dX12_score_13 : decode cX12_score 13 = .ok (.getfield 242, 3) := by decide +kernel
theorem dX12_score_16 : decode cX12_score 16 = .ok (.if_icmp .le 5, 3) := by decide +kernel
theorem dX12_score_19 : decode cX12_score 19 = .ok (.iconst (-1), 1) := by decide +kernel
theorem dX12_score_20 : decode cX12_score 20 = .ok (.ireturn, 1) := by decide +kernel
theorem dX12_score_21 : decode cX12_score 21 = .ok (.aload_n 0, 1) := by decide +kernel
theorem dX12_score_22 : decode cX12_score 22 = .ok (.iconst 0, 1) := by decide +kernel
theorem dX12_score_23 : decode cX12_score 23 = .ok (.putfield 249, 3) := by decide +kernel
theorem dX12_score_26 : decode cX12_score 26 = .ok (.aload_n 0, 1) := by decide +kernel
theorem dX12_score_27 : decode cX12_score 27 = .ok (.iload_n 1, 1) := by decide +kernel
theorem dX12_score_28 : decode cX12_score 28 = .ok (.putfield 288, 3) := by decide +kernel
theorem dX12_score_31 : decode cX12_score 31 = .ok (.aload_n 0, 1) := by decide +kernel
theorem dX12_score_32 : decode cX12_score 32 = .ok (.invokevirtual 294, 3) := by decide +kernel
theorem dX12_score_35 : decode cX12_score 35 = .ok (.istore_n 2, 1) := by decide +kernel
theorem dX12_score_36 : decode cX12_score 36 = .ok (.aload_n 0, 1) := by decide +kernel
theorem dX12_score_37 : decode cX12_score 37 = .ok (.iconst 0, 1) := by decide +kernel
theorem dX12_score_38 : decode cX12_score 38 = .ok (.putfield 242, 3) := by decide +kernel
theorem dX12_score_41 : decode cX12_score 41 = .ok (.iload_n 2, 1) := by decide +kernel
theorem dX12_score_42 : decode cX12_score 42 = .ok (.ifCond .ne 8, 3) := by decide +kernel
theorem dX12_score_45 : decode cX12_score 45 = .ok (.aload_n 0, 1) := by decide +kernel
theorem dX12_score_46 : decode cX12_score 46 = .ok (.getfield 297, 3) := by decide +kernel
theorem dX12_score_49 : decode cX12_score 49 = .ok (.ireturn, 1) := by decide +kernel
theorem dX12_score_50 : decode cX12_score 50 = .ok (.aload_n 0, 1) := by decide +kernel
theorem dX12_score_51 : decode cX12_score 51 = .ok (.aload_n 0, 1) := by decide +kernel
theorem dX12_score_52 : decode cX12_score 52 = .ok (.getfield 270, 3) := by decide +kernel
theorem dX12_score_55 : decode cX12_score 55 = .ok (.putfield 300, 3) := by decide +kernel
theorem dX12_score_58 : decode cX12_score 58 = .ok (.aload_n 0, 1) := by decide +kernel
theorem dX12_score_59 : decode cX12_score 59 = .ok (.aload_n 0, 1) := by decide +kernel
theorem dX12_score_60 : decode cX12_score 60 = .ok (.getfield 279, 3) := by decide +kernel
theorem dX12_score_63 : decode cX12_score 63 = .ok (.putfield 303, 3) := by decide +kernel
theorem dX12_score_66 : decode cX12_score 66 = .ok (.aload_n 0, 1) := by decide +kernel
theorem dX12_score_67 : decode cX12_score 67 = .ok (.aload_n 0, 1) := by decide +kernel
theorem dX12_score_68 : decode cX12_score 68 = .ok (.getfield 282, 3) := by decide +kernel
theorem dX12_score_71 : decode cX12_score 71 = .ok (.putfield 306, 3) := by decide +kernel
theorem dX12_score_74 : decode cX12_score 74 = .ok (.iconst 0, 1) := by decide +kernel
theorem dX12_score_75 : decode cX12_score 75 = .ok (.istore_n 3, 1) := by decide +kernel
theorem dX12_score_76 : decode cX12_score 76 = .ok (.iload_n 3, 1) := by decide +kernel
theorem dX12_score_77 : decode cX12_score 77 = .ok (.aload_n 0, 1) := by decide +kernel
theorem dX12_score_78 : decode cX12_score 78 = .ok (.getfield 300, 3) := by decide +kernel
theorem dX12_score_81 : decode cX12_score 81 = .ok (.if_icmp .ge 69, 3) := by decide +kernel
theorem dX12_score_84 : decode cX12_score 84 = .ok (.aload_n 0, 1) := by decide +kernel
theorem dX12_score_85 : decode cX12_score 85 = .ok (.getfield 42, 3) := by decide +kernel
theorem dX12_score_88 : decode cX12_score 88 = .ok (.iload_n 3, 1) := by decide +kernel
theorem dX12_score_89 : decode cX12_score 89 = .ok (.aload_n 0, 1) := by decide +kernel
theorem dX12_score_90 : decode cX12_score 90 = .ok (.getfield 57, 3) := by decide +kernel
theorem dX12_score_93 : decode cX12_score 93 = .ok (.iload_n 3, 1) := by decide +kernel
theorem dX12_score_94 : decode cX12_score 94 = .ok (.iaload, 1) := by decide +kernel
theorem dX12_score_95 : decode cX12_score 95 = .ok (.iastore, 1) := by decide +kernel
theorem dX12_score_96 : decode cX12_score 96 = .ok (.aload_n 0, 1) := by decide +kernel
theorem dX12_score_97 : decode cX12_score 97 = .ok (.getfield 45, 3) := by decide +kernel
theorem dX12_score_100 : decode cX12_score 100 = .ok (.iload_n 3, 1) := by decide +kernel
theorem dX12_score_101 : decode cX12_score 101 = .ok (.aload_n 0, 1) := by decide +kernel
theorem dX12_score_102 : decode cX12_score 102 = .ok (.getfield 60, 3) := by decide +kernel
theorem dX12_score_105 : decode cX12_score 105 = .ok (.iload_n 3, 1) := by decide +kernel
theorem dX12_score_106 : decode cX12_score 106 = .ok (.iaload, 1) := by decide +kernel
theorem dX12_score_107 : decode cX12_score 107 = .ok (.iastore, 1) := by decide +kernel
theorem dX12_score_108 : decode cX12_score 108 = .ok (.aload_n 0, 1) := by decide +kernel
theorem dX12_score_109 : decode cX12_score 109 = .ok (.getfield 48, 3) := by decide +kernel
theorem dX12_score_112 : decode cX12_score 112 = .ok (.iload_n 3, 1) := by decide +kernel
theorem dX12_score_113 : decode cX12_score 113 = .ok (.aload_n 0, 1) := by decide +kernel
theorem dX12_score_114 : decode cX12_score 114 = .ok (.getfield 63, 3) := by decide +kernel
theorem dX12_score_117 : decode cX12_score 117 = .ok (.iload_n 3, 1) := by decide +kernel
theorem dX12_score_118 : decode cX12_score 118 = .ok (.iaload, 1) := by decide +kernel
theorem dX12_score_119 : decode cX12_score 119 = .ok (.iastore, 1) := by decide +kernel
theorem dX12_score_120 : decode cX12_score 120 = .ok (.aload_n 0, 1) := by decide +kernel
theorem dX12_score_121 : decode cX12_score 121 = .ok (.getfield 51, 3) := by decide +kernel
theorem dX12_score_124 : decode cX12_score 124 = .ok (.iload_n 3, 1) := by decide +kernel
theorem dX12_score_125 : decode cX12_score 125 = .ok (.aload_n 0, 1) := by decide +kernel
theorem dX12_score_126 : decode cX12_score 126 = .ok (.getfield 66, 3) := by decide +kernel
theorem dX12_score_129 : decode cX12_score 129 = .ok (.iload_n 3, 1) := by decide +kernel
theorem dX12_score_130 : decode cX12_score 130 = .ok (.iaload, 1) := by decide +kernel
theorem dX12_score_131 : decode cX12_score 131 = .ok (.iastore, 1) := by decide +kernel
theorem dX12_score_132 : decode cX12_score 132 = .ok (.aload_n 0, 1) := by decide +kernel
theorem dX12_score_133 : decode cX12_score 133 = .ok (.getfield 54, 3) := by decide +kernel
theorem dX12_score_136 : decode cX12_score 136 = .ok (.iload_n 3, 1) := by decide +kernel
theorem dX12_score_137 : decode cX12_score 137 = .ok (.aload_n 0, 1) := by decide +kernel
theorem dX12_score_138 : decode cX12_score 138 = .ok (.getfield 69, 3) := by decide +kernel
theorem dX12_score_141 : decode cX12_score 141 = .ok (.iload_n 3, 1) := by decide +kernel
theorem dX12_score_142 : decode cX12_score 142 = .ok (.iaload, 1) := by decide +kernel
theorem dX12_score_143 : decode cX12_score 143 = .ok (.iastore, 1) := by decide +kernel
theorem dX12_score_144 : decode cX12_score 144 = .ok (.iinc 3 1, 3) := by decide +kernel
theorem dX12_score_147 : decode cX12_score 147 = .ok (.goto (-71), 3) := by decide +kernel
theorem dX12_score_150 : decode cX12_score 150 = .ok (.aload_n 0, 1) := by decide +kernel
theorem dX12_score_151 : decode cX12_score 151 = .ok (.getfield 300, 3) := by decide +kernel
theorem dX12_score_154 : decode cX12_score 154 = .ok (.ireturn, 1) := by decide +kernel
def ok_X12_score_76 (K : ro_K)  : ro_Mem → Prop := fun e => ro_X K 150 [(0, .ref (ro_ad (kG K) 207))] [] e
def fb_X12_score_76  (rec : (Int32 × ro_Mem) → Option ro_Mem) (v3 : Int32) (μ : ro_Mem) : Option ro_Mem :=
  if (μ 207 18) ≤ v3 then
  (some μ)
  else
  (if ro_in v3 32 then
  (ro_lt (ro_set μ 218 v3.toNatClampNeg (μ 223 v3.toNatClampNeg)) fun m22 =>
  ro_lt (ro_set m22 219 v3.toNatClampNeg (m22 224 v3.toNatClampNeg)) fun m24 =>
  ro_lt (ro_set m24 220 v3.toNatClampNeg (m24 225 v3.toNatClampNeg)) fun m26 =>
  ro_lt (ro_set m26 221 v3.toNatClampNeg (m26 226 v3.toNatClampNeg)) fun m28 =>
  ro_lt (ro_set m28 222 v3.toNatClampNeg (m28 227 v3.toNatClampNeg)) fun m30 =>
  rec (v3 + 1, m30)) else none)
theorem bb_X12_score_76 {K : ro_K} (hK : ro_C K RX12 cX12_score 4 5) (hR : ro_R K (some .int))   {μ : ro_Mem} {rec : (Int32 × ro_Mem) → Option ro_Mem} {v3 : Int32} {q : ro_Mem} (hrec : ∀ (s : Int32 × ro_Mem) (q : ro_Mem), rec s = some q → ok_X12_score_76 K q → ro_X K 76 [(0, .ref (ro_ad (kG K) 207)), (3, .int s.1)] [] s.2) (hf : fb_X12_score_76 rec v3 μ = some q) (hq : ok_X12_score_76 K q) : ro_X K 76 [(0, .ref (ro_ad (kG K) 207)), (3, .int v3)] [] μ := by
  unfold fb_X12_score_76 at hf
  refine ro_iload_n hK 1 rfl dX12_score_76 rfl ?_
  refine ro_aload_n hK 0 rfl dX12_score_77 rfl ?_
  refine ro_geti hK fl_X12_300 sh_207 dX12_score_78 ?_
  refine ro_icmp_ge hK 150 dX12_score_81 (by decide) (fun c20 => ?_) (fun c20 => ?_)
  · have hf := ro_it hf c20
    refine ro_sub (L' := [(0, .ref (ro_ad (kG K) 207))]) [0] rfl ?_
    obtain rfl := Option.some.inj hf
    exact hq
  · have hf := ro_ie hf c20
    refine ro_aload_n hK 0 rfl dX12_score_84 rfl ?_
    refine ro_getr hK fl_X12_42 sh_207 dX12_score_85 ?_
    refine ro_iload_n hK 1 rfl dX12_score_88 rfl ?_
    refine ro_aload_n hK 0 rfl dX12_score_89 rfl ?_
    refine ro_getr hK fl_X12_57 sh_207 dX12_score_90 ?_
    refine ro_iload_n hK 1 rfl dX12_score_93 rfl ?_
    obtain ⟨g21, hf⟩ := ro_gd hf
    refine ro_iald hK sh_223 g21 dX12_score_94 ?_
    obtain ⟨m22, e23, hf⟩ := ro_ld hf
    refine ro_iast hK sh_218 g21 dX12_score_95 ?_
    refine ro_mv e23 ?_
    refine ro_aload_n hK 0 rfl dX12_score_96 rfl ?_
    refine ro_getr hK fl_X12_45 sh_207 dX12_score_97 ?_
    refine ro_iload_n hK 1 rfl dX12_score_100 rfl ?_
    refine ro_aload_n hK 0 rfl dX12_score_101 rfl ?_
    refine ro_getr hK fl_X12_60 sh_207 dX12_score_102 ?_
    refine ro_iload_n hK 1 rfl dX12_score_105 rfl ?_
    refine ro_iald hK sh_224 g21 dX12_score_106 ?_
    obtain ⟨m24, e25, hf⟩ := ro_ld hf
    refine ro_iast hK sh_219 g21 dX12_score_107 ?_
    refine ro_mv e25 ?_
    refine ro_aload_n hK 0 rfl dX12_score_108 rfl ?_
    refine ro_getr hK fl_X12_48 sh_207 dX12_score_109 ?_
    refine ro_iload_n hK 1 rfl dX12_score_112 rfl ?_
    refine ro_aload_n hK 0 rfl dX12_score_113 rfl ?_
    refine ro_getr hK fl_X12_63 sh_207 dX12_score_114 ?_
    refine ro_iload_n hK 1 rfl dX12_score_117 rfl ?_
    refine ro_iald hK sh_225 g21 dX12_score_118 ?_
    obtain ⟨m26, e27, hf⟩ := ro_ld hf
    refine ro_iast hK sh_220 g21 dX12_score_119 ?_
    refine ro_mv e27 ?_
    refine ro_aload_n hK 0 rfl dX12_score_120 rfl ?_
    refine ro_getr hK fl_X12_51 sh_207 dX12_score_121 ?_
    refine ro_iload_n hK 1 rfl dX12_score_124 rfl ?_
    refine ro_aload_n hK 0 rfl dX12_score_125 rfl ?_
    refine ro_getr hK fl_X12_66 sh_207 dX12_score_126 ?_
    refine ro_iload_n hK 1 rfl dX12_score_129 rfl ?_
    refine ro_iald hK sh_226 g21 dX12_score_130 ?_
    obtain ⟨m28, e29, hf⟩ := ro_ld hf
    refine ro_iast hK sh_221 g21 dX12_score_131 ?_
    refine ro_mv e29 ?_
    refine ro_aload_n hK 0 rfl dX12_score_132 rfl ?_
    refine ro_getr hK fl_X12_54 sh_207 dX12_score_133 ?_
    refine ro_iload_n hK 1 rfl dX12_score_136 rfl ?_
    refine ro_aload_n hK 0 rfl dX12_score_137 rfl ?_
    refine ro_getr hK fl_X12_69 sh_207 dX12_score_138 ?_
    refine ro_iload_n hK 1 rfl dX12_score_141 rfl ?_
    refine ro_iald hK sh_227 g21 dX12_score_142 ?_
    obtain ⟨m30, e31, hf⟩ := ro_ld hf
    refine ro_iast hK sh_222 g21 dX12_score_143 ?_
    refine ro_mv e31 ?_
    refine ro_iinc (v := v3 + 1) (L' := [(3, .int (v3 + 1)), (0, .ref (ro_ad (kG K) 207))]) hK 1 rfl dX12_score_144 rfl (by decide) rfl ?_
    refine ro_goto hK 76 dX12_score_147 (by decide) ?_
    refine ro_sub (L' := [(0, .ref (ro_ad (kG K) 207)), (3, .int (v3 + 1))]) [1, 0] rfl ?_
    exact hrec (v3 + 1, m30) _ hf hq
def fl_X12_score_76  : (Int32 × ro_Mem) → Option ro_Mem :=
  ro_loop (fun rec s => fb_X12_score_76 rec s.1 s.2) ro_FU
theorem lp_X12_score_76 {K : ro_K} (hK : ro_C K RX12 cX12_score 4 5) (hR : ro_R K (some .int))   {s : Int32 × ro_Mem} {q : ro_Mem} (hf : fl_X12_score_76 s = some q) (hq : ok_X12_score_76 K q) : ro_X K 76 [(0, .ref (ro_ad (kG K) 207)), (3, .int s.1)] [] s.2 :=
  ro_loopX (b := fun rec s => fb_X12_score_76 rec s.1 s.2) (X := fun s => ro_X K 76 [(0, .ref (ro_ad (kG K) 207)), (3, .int s.1)] [] s.2) (OK := ok_X12_score_76 K) (fun rec s q hrec hb ho => bb_X12_score_76 hK hR  hrec hb ho) ro_FU s q hf hq
def fn_X12_score (v1 : Int32) (μ : ro_Mem) : Option (Int32 × ro_Mem) :=
  (fn_X12_in v1 1 200).bind fun q1 =>
  if q1 = 0 then
  (some ((-1), μ))
  else
  (if v1 ≤ (μ 207 13) then
  (ro_lt (ro_set μ 207 14 0) fun m5 =>
  ro_lt (ro_set m5 207 15 v1) fun m7 =>
  (fn_X12_readsScore m7).bind fun q9 =>
  ro_lt (ro_set q9.2 207 13 0) fun m11 =>
  if q9.1 = 0 then
  (some (m11 207 16, m11))
  else
  (ro_lt (ro_set m11 207 18 (m11 207 21)) fun m14 =>
  ro_lt (ro_set m14 207 19 (m14 207 22)) fun m16 =>
  ro_lt (ro_set m16 207 20 (m16 207 23)) fun m18 =>
  (fl_X12_score_76  (0, m18)).bind fun q32 =>
  some (q32 207 18, q32)))
  else
  (some ((-1), μ)))
theorem be_X12_score {K : ro_K} (hK : ro_C K RX12 cX12_score 4 5) (hR : ro_R K (some .int)) {v1 : Int32}  {μ : ro_Mem} {out : Int32 × ro_Mem} (hf : fn_X12_score v1 μ = some out) (hq : kQ K (some (.int out.1)) out.2) : ro_X K 0 [(0, .ref (ro_ad (kG K) 207)), (1, .int v1)] [] μ := by
  unfold fn_X12_score at hf
  refine ro_iload_n hK 1 rfl dX12_score_0 rfl ?_
  refine ro_iconst (v := 1) hK dX12_score_1 (by decide) ?_
  refine ro_sipush (v := 200) hK dX12_score_2 (by decide) ?_
  obtain ⟨q1, e2, hf⟩ := ro_bd hf
  refine ro_callsi hK [.int v1, .int 1, .int 200] ml_X12_215 ms_X12_in (mt_X12_in (kl K) (kG K)  e2) (by decide) rfl rfl (Nat.le_of_ble_eq_true rfl) dX12_score_5 ?_
  refine ro_if_eq hK 19 dX12_score_8 (by decide) (fun c3 => ?_) (fun c3 => ?_)
  · have hf := ro_it hf c3
    refine ro_iconst (v := (-1)) hK dX12_score_19 (by decide) ?_
    obtain rfl := Option.some.inj hf
    exact ro_iret hK hR dX12_score_20 hq
  · have hf := ro_ie hf c3
    refine ro_iload_n hK 1 rfl dX12_score_11 rfl ?_
    refine ro_aload_n hK 0 rfl dX12_score_12 rfl ?_
    refine ro_geti hK fl_X12_242 sh_207 dX12_score_13 ?_
    refine ro_icmp_le hK 21 dX12_score_16 (by decide) (fun c4 => ?_) (fun c4 => ?_)
    · have hf := ro_it hf c4
      refine ro_aload_n hK 0 rfl dX12_score_21 rfl ?_
      refine ro_iconst (v := 0) hK dX12_score_22 (by decide) ?_
      obtain ⟨m5, e6, hf⟩ := ro_ld hf
      refine ro_puti hK fl_X12_249 sh_207 rfl rfl dX12_score_23 ?_
      refine ro_mv e6 ?_
      refine ro_aload_n hK 0 rfl dX12_score_26 rfl ?_
      refine ro_iload_n hK 1 rfl dX12_score_27 rfl ?_
      obtain ⟨m7, e8, hf⟩ := ro_ld hf
      refine ro_puti hK fl_X12_288 sh_207 rfl rfl dX12_score_28 ?_
      refine ro_mv e8 ?_
      refine ro_aload_n hK 0 rfl dX12_score_31 rfl ?_
      obtain ⟨q9, e10, hf⟩ := ro_bd hf
      refine ro_callvi hK [] ml_X12_294 mv_X12_readsScore (mt_X12_readsScore (kl K) (kG K)  e10) sh_207 ⟨_, rfl, rfl⟩ (by decide) rfl rfl (Nat.le_of_ble_eq_true rfl) dX12_score_32 ?_
      refine ro_istore_n (L' := [(2, .int q9.1), (0, .ref (ro_ad (kG K) 207)), (1, .int v1)]) hK dX12_score_35 rfl (by decide) rfl ?_
      refine ro_aload_n hK 1 rfl dX12_score_36 rfl ?_
      refine ro_iconst (v := 0) hK dX12_score_37 (by decide) ?_
      obtain ⟨m11, e12, hf⟩ := ro_ld hf
      refine ro_puti hK fl_X12_242 sh_207 rfl rfl dX12_score_38 ?_
      refine ro_mv e12 ?_
      refine ro_iload_n hK 0 rfl dX12_score_41 rfl ?_
      refine ro_if_ne hK 50 dX12_score_42 (by decide) (fun c13 => ?_) (fun c13 => ?_)
      · have hf := ro_ie hf c13
        refine ro_aload_n hK 1 rfl dX12_score_50 rfl ?_
        refine ro_aload_n hK 1 rfl dX12_score_51 rfl ?_
        refine ro_geti hK fl_X12_270 sh_207 dX12_score_52 ?_
        obtain ⟨m14, e15, hf⟩ := ro_ld hf
        refine ro_puti hK fl_X12_300 sh_207 rfl rfl dX12_score_55 ?_
        refine ro_mv e15 ?_
        refine ro_aload_n hK 1 rfl dX12_score_58 rfl ?_
        refine ro_aload_n hK 1 rfl dX12_score_59 rfl ?_
        refine ro_geti hK fl_X12_279 sh_207 dX12_score_60 ?_
        obtain ⟨m16, e17, hf⟩ := ro_ld hf
        refine ro_puti hK fl_X12_303 sh_207 rfl rfl dX12_score_63 ?_
        refine ro_mv e17 ?_
        refine ro_aload_n hK 1 rfl dX12_score_66 rfl ?_
        refine ro_aload_n hK 1 rfl dX12_score_67 rfl ?_
        refine ro_geti hK fl_X12_282 sh_207 dX12_score_68 ?_
        obtain ⟨m18, e19, hf⟩ := ro_ld hf
        refine ro_puti hK fl_X12_306 sh_207 rfl rfl dX12_score_71 ?_
        refine ro_mv e19 ?_
        refine ro_iconst (v := 0) hK dX12_score_74 (by decide) ?_
        refine ro_istore_n (L' := [(3, .int 0), (2, .int q9.1), (0, .ref (ro_ad (kG K) 207)), (1, .int v1)]) hK dX12_score_75 rfl (by decide) rfl ?_
        obtain ⟨q32, e33, hf⟩ := ro_bd hf
        refine ro_sub (L' := [(0, .ref (ro_ad (kG K) 207)), (3, .int 0)]) [2, 0] rfl ?_
        refine lp_X12_score_76 hK hR  e33 ?_
        show ro_X K 150 [(0, .ref (ro_ad (kG K) 207))] [] q32
        refine ro_aload_n hK 0 rfl dX12_score_150 rfl ?_
        refine ro_geti hK fl_X12_300 sh_207 dX12_score_151 ?_
        obtain rfl := Option.some.inj hf
        exact ro_iret hK hR dX12_score_154 hq
      · have hf := ro_it hf c13
        refine ro_aload_n hK 1 rfl dX12_score_45 rfl ?_
        refine ro_geti hK fl_X12_297 sh_207 dX12_score_46 ?_
        obtain rfl := Option.some.inj hf
        exact ro_iret hK hR dX12_score_49 hq
    · have hf := ro_ie hf c4
      refine ro_iconst (v := (-1)) hK dX12_score_19 (by decide) ?_
      obtain rfl := Option.some.inj hf
      exact ro_iret hK hR dX12_score_20 hq
theorem mt_X12_score (l : Launch) (G : ro_G) {v1 : Int32}  {μ : ro_Mem} {out : Int32 × ro_Mem} (hf : fn_X12_score v1 μ = some out) : ro_MX l G yX12_score cX12_score 4 (some .int) 5 [.ref (ro_ad G 207), .int v1] μ (some (.int out.1)) out.2 := by
  refine ro_MX.of (by decide +kernel) (Nat.le_of_ble_eq_true rfl) (fun K hG hl hq hK hR => ?_)
  subst hG
  exact be_X12_score hK hR  hf hq
-- ===== X12_isNote =====
theorem dX12_isNote_0 : decode cX12_isNote 0 = .ok (.iload_n 1, 1) := by decide +kernel
theorem dX12_isNote_1 : decode cX12_isNote 1 = .ok (.ifCond .lt 15, 3) := by decide +kernel
theorem dX12_isNote_4 : decode cX12_isNote 4 = .ok (.iload_n 1, 1) := by decide +kernel
theorem dX12_isNote_5 : decode cX12_isNote 5 = .ok (.aload_n 0, 1) := by decide +kernel
theorem dX12_isNote_6 : decode cX12_isNote 6 = .ok (.getfield 300, 3) := by decide +kernel
theorem dX12_isNote_9 : decode cX12_isNote 9 = .ok (.if_icmp .ge 7, 3) := by decide +kernel
theorem dX12_isNote_12 : decode cX12_isNote 12 = .ok (.iconst 1, 1) := by decide +kernel
theorem dX12_isNote_13 : decode cX12_isNote 13 = .ok (.goto 4, 3) := by decide +kernel
theorem dX12_isNote_16 : decode cX12_isNote 16 = .ok (.iconst 0, 1) := by decide +kernel
theorem dX12_isNote_17 : decode cX12_isNote 17 = .ok (.ireturn, 1) := by decide +kernel
def fn_X12_isNote (v1 : Int32) (μ : ro_Mem) : Option Int32 :=
  if v1 < 0 then
  (some 0)
  else
  (if (μ 207 18) ≤ v1 then
  (some 0)
  else
  (some 1))
theorem be_X12_isNote {K : ro_K} (hK : ro_C K RX12 cX12_isNote 2 0) (hR : ro_R K (some .boolean)) {v1 : Int32}  {μ : ro_Mem} {out : Int32} (hf : fn_X12_isNote v1 μ = some out) (hq : kQ K (some (.int out)) μ) : ro_X K 0 [(0, .ref (ro_ad (kG K) 207)), (1, .int v1)] [] μ := by
  unfold fn_X12_isNote at hf
  refine ro_iload_n hK 1 rfl dX12_isNote_0 rfl ?_
  refine ro_if_lt hK 16 dX12_isNote_1 (by decide) (fun c1 => ?_) (fun c1 => ?_)
  · have hf := ro_it hf c1
    refine ro_iconst (v := 0) hK dX12_isNote_16 (by decide) ?_
    obtain rfl := Option.some.inj hf
    exact ro_zret hK hR dX12_isNote_17 (by decide) hq
  · have hf := ro_ie hf c1
    refine ro_iload_n hK 1 rfl dX12_isNote_4 rfl ?_
    refine ro_aload_n hK 0 rfl dX12_isNote_5 rfl ?_
    refine ro_geti hK fl_X12_300 sh_207 dX12_isNote_6 ?_
    refine ro_icmp_ge hK 16 dX12_isNote_9 (by decide) (fun c2 => ?_) (fun c2 => ?_)
    · have hf := ro_it hf c2
      refine ro_iconst (v := 0) hK dX12_isNote_16 (by decide) ?_
      obtain rfl := Option.some.inj hf
      exact ro_zret hK hR dX12_isNote_17 (by decide) hq
    · have hf := ro_ie hf c2
      refine ro_iconst (v := 1) hK dX12_isNote_12 (by decide) ?_
      refine ro_goto hK 17 dX12_isNote_13 (by decide) ?_
      obtain rfl := Option.some.inj hf
      exact ro_zret hK hR dX12_isNote_17 (by decide) hq
theorem mt_X12_isNote (l : Launch) (G : ro_G) {v1 : Int32}  {μ : ro_Mem} {out : Int32} (hf : fn_X12_isNote v1 μ = some out) : ro_MX l G yX12_isNote cX12_isNote 2 (some .boolean) 0 [.ref (ro_ad G 207), .int v1] μ (some (.int out)) μ := by
  refine ro_MX.of (by decide +kernel) (Nat.le_of_ble_eq_true rfl) (fun K hG hl hq hK hR => ?_)
  subst hG
  exact be_X12_isNote hK hR  hf hq
-- ===== X12_note =====
theorem dX12_note_0 : decode cX12_note 0 = .ok (.aload_n 0, 1) := by decide +kernel
theorem dX12_note_1 : decode cX12_note 1 = .ok (.iload_n 1, 1) := by decide +kernel
theorem dX12_note_2 : decode cX12_note 2 = .ok (.invokevirtual 309, 3) := by decide +kernel
theorem dX12_note_5 : decode cX12_note 5 = .ok (.ifCond .ne 5, 3) := by decide +kernel
theorem dX12_note_8 : decode cX12_note 8 = .ok (.iconst (-1), 1) := by decide +kernel
theorem dX12_note_9 : decode cX12_note 9 = .ok (.ireturn, 1) := by decide +kernel
theorem dX12_note_10 : decode cX12_note 10 = .ok (.iload_n 2, 1) := by decide +kernel
theorem dX12_note_11 : decode cX12_note 11 = .ok (.tableswitch 68 0 4 #[33, 40, 47, 54, 61], 33) := by decide +kernel
theorem dX12_note_44 : decode cX12_note 44 = .ok (.aload_n 0, 1) := by decide +kernel
theorem dX12_note_45 : decode cX12_note 45 = .ok (.getfield 42, 3) := by decide +kernel
theorem dX12_note_48 : decode cX12_note 48 = .ok (.iload_n 1, 1) := by decide +kernel
theorem dX12_note_49 : decode cX12_note 49 = .ok (.iaload, 1) := by decide +kernel
theorem dX12_note_50 : decode cX12_note 50 = .ok (.ireturn, 1) := by decide +kernel
theorem dX12_note_51 : decode cX12_note 51 = .ok (.aload_n 0, 1) := by decide +kernel
theorem dX12_note_52 : decode cX12_note 52 = .ok (.getfield 45, 3) := by decide +kernel
theorem dX12_note_55 : decode cX12_note 55 = .ok (.iload_n 1, 1) := by decide +kernel
theorem dX12_note_56 : decode cX12_note 56 = .ok (.iaload, 1) := by decide +kernel
theorem dX12_note_57 : decode cX12_note 57 = .ok (.ireturn, 1) := by decide +kernel
theorem dX12_note_58 : decode cX12_note 58 = .ok (.aload_n 0, 1) := by decide +kernel
theorem dX12_note_59 : decode cX12_note 59 = .ok (.getfield 48, 3) := by decide +kernel
theorem dX12_note_62 : decode cX12_note 62 = .ok (.iload_n 1, 1) := by decide +kernel
theorem dX12_note_63 : decode cX12_note 63 = .ok (.iaload, 1) := by decide +kernel
theorem dX12_note_64 : decode cX12_note 64 = .ok (.ireturn, 1) := by decide +kernel
theorem dX12_note_65 : decode cX12_note 65 = .ok (.aload_n 0, 1) := by decide +kernel
theorem dX12_note_66 : decode cX12_note 66 = .ok (.getfield 51, 3) := by decide +kernel
theorem dX12_note_69 : decode cX12_note 69 = .ok (.iload_n 1, 1) := by decide +kernel
theorem dX12_note_70 : decode cX12_note 70 = .ok (.iaload, 1) := by decide +kernel
theorem dX12_note_71 : decode cX12_note 71 = .ok (.ireturn, 1) := by decide +kernel
theorem dX12_note_72 : decode cX12_note 72 = .ok (.aload_n 0, 1) := by decide +kernel
theorem dX12_note_73 : decode cX12_note 73 = .ok (.getfield 54, 3) := by decide +kernel
theorem dX12_note_76 : decode cX12_note 76 = .ok (.iload_n 1, 1) := by decide +kernel
theorem dX12_note_77 : decode cX12_note 77 = .ok (.iaload, 1) := by decide +kernel
theorem dX12_note_78 : decode cX12_note 78 = .ok (.ireturn, 1) := by decide +kernel
theorem dX12_note_79 : decode cX12_note 79 = .ok (.iconst (-1), 1) := by decide +kernel
theorem dX12_note_80 : decode cX12_note 80 = .ok (.ireturn, 1) := by decide +kernel
def fn_X12_note (v1 : Int32) (v2 : Int32) (μ : ro_Mem) : Option Int32 :=
  (fn_X12_isNote v1 μ).bind fun q1 =>
  if q1 = 0 then
  (some (-1))
  else
  (if v2 = 0 then
  (if ro_in v1 32 then
  (some (μ 218 v1.toNatClampNeg)) else none)
  else
  (if v2 = 1 then
  (if ro_in v1 32 then
  (some (μ 219 v1.toNatClampNeg)) else none)
  else
  (if v2 = 2 then
  (if ro_in v1 32 then
  (some (μ 220 v1.toNatClampNeg)) else none)
  else
  (if v2 = 3 then
  (if ro_in v1 32 then
  (some (μ 221 v1.toNatClampNeg)) else none)
  else
  (if v2 = 4 then
  (if ro_in v1 32 then
  (some (μ 222 v1.toNatClampNeg)) else none)
  else
  (some (-1)))))))
theorem be_X12_note {K : ro_K} (hK : ro_C K RX12 cX12_note 3 1) (hR : ro_R K (some .int)) {v1 : Int32} {v2 : Int32}  {μ : ro_Mem} {out : Int32} (hf : fn_X12_note v1 v2 μ = some out) (hq : kQ K (some (.int out)) μ) : ro_X K 0 [(0, .ref (ro_ad (kG K) 207)), (1, .int v1), (2, .int v2)] [] μ := by
  unfold fn_X12_note at hf
  refine ro_aload_n hK 0 rfl dX12_note_0 rfl ?_
  refine ro_iload_n hK 1 rfl dX12_note_1 rfl ?_
  obtain ⟨q1, e2, hf⟩ := ro_bd hf
  refine ro_callvi hK [.int v1] ml_X12_309 mv_X12_isNote (mt_X12_isNote (kl K) (kG K)  e2) sh_207 ⟨_, rfl, rfl⟩ (by decide) rfl rfl (Nat.le_of_ble_eq_true rfl) dX12_note_2 ?_
  refine ro_if_ne hK 10 dX12_note_5 (by decide) (fun c3 => ?_) (fun c3 => ?_)
  · have hf := ro_ie hf c3
    refine ro_iload_n hK 2 rfl dX12_note_10 rfl ?_
    by_cases c_0 : v2 = 0
    · have hf := ro_it hf c_0
      refine ro_tabIn hK 0 44 dX12_note_11 c_0 (by decide) (by decide) rfl (by decide) ?_
      refine ro_aload_n hK 0 rfl dX12_note_44 rfl ?_
      refine ro_getr hK fl_X12_42 sh_207 dX12_note_45 ?_
      refine ro_iload_n hK 1 rfl dX12_note_48 rfl ?_
      obtain ⟨g4, hf⟩ := ro_gd hf
      refine ro_iald hK sh_218 g4 dX12_note_49 ?_
      obtain rfl := Option.some.inj hf
      exact ro_iret hK hR dX12_note_50 hq
    have hf := ro_ie hf c_0
    by_cases c_1 : v2 = 1
    · have hf := ro_it hf c_1
      refine ro_tabIn hK 1 51 dX12_note_11 c_1 (by decide) (by decide) rfl (by decide) ?_
      refine ro_aload_n hK 0 rfl dX12_note_51 rfl ?_
      refine ro_getr hK fl_X12_45 sh_207 dX12_note_52 ?_
      refine ro_iload_n hK 1 rfl dX12_note_55 rfl ?_
      obtain ⟨g5, hf⟩ := ro_gd hf
      refine ro_iald hK sh_219 g5 dX12_note_56 ?_
      obtain rfl := Option.some.inj hf
      exact ro_iret hK hR dX12_note_57 hq
    have hf := ro_ie hf c_1
    by_cases c_2 : v2 = 2
    · have hf := ro_it hf c_2
      refine ro_tabIn hK 2 58 dX12_note_11 c_2 (by decide) (by decide) rfl (by decide) ?_
      refine ro_aload_n hK 0 rfl dX12_note_58 rfl ?_
      refine ro_getr hK fl_X12_48 sh_207 dX12_note_59 ?_
      refine ro_iload_n hK 1 rfl dX12_note_62 rfl ?_
      obtain ⟨g6, hf⟩ := ro_gd hf
      refine ro_iald hK sh_220 g6 dX12_note_63 ?_
      obtain rfl := Option.some.inj hf
      exact ro_iret hK hR dX12_note_64 hq
    have hf := ro_ie hf c_2
    by_cases c_3 : v2 = 3
    · have hf := ro_it hf c_3
      refine ro_tabIn hK 3 65 dX12_note_11 c_3 (by decide) (by decide) rfl (by decide) ?_
      refine ro_aload_n hK 0 rfl dX12_note_65 rfl ?_
      refine ro_getr hK fl_X12_51 sh_207 dX12_note_66 ?_
      refine ro_iload_n hK 1 rfl dX12_note_69 rfl ?_
      obtain ⟨g7, hf⟩ := ro_gd hf
      refine ro_iald hK sh_221 g7 dX12_note_70 ?_
      obtain rfl := Option.some.inj hf
      exact ro_iret hK hR dX12_note_71 hq
    have hf := ro_ie hf c_3
    by_cases c_4 : v2 = 4
    · have hf := ro_it hf c_4
      refine ro_tabIn hK 4 72 dX12_note_11 c_4 (by decide) (by decide) rfl (by decide) ?_
      refine ro_aload_n hK 0 rfl dX12_note_72 rfl ?_
      refine ro_getr hK fl_X12_54 sh_207 dX12_note_73 ?_
      refine ro_iload_n hK 1 rfl dX12_note_76 rfl ?_
      obtain ⟨g8, hf⟩ := ro_gd hf
      refine ro_iald hK sh_222 g8 dX12_note_77 ?_
      obtain rfl := Option.some.inj hf
      exact ro_iret hK hR dX12_note_78 hq
    have hf := ro_ie hf c_4
    have tw0 : ¬ v2.toInt = 0 := lv_neT (a := 0) c_0 rfl
    have tw1 : ¬ v2.toInt = 1 := lv_neT (a := 1) c_1 rfl
    have tw2 : ¬ v2.toInt = 2 := lv_neT (a := 2) c_2 rfl
    have tw3 : ¬ v2.toInt = 3 := lv_neT (a := 3) c_3 rfl
    have tw4 : ¬ v2.toInt = 4 := lv_neT (a := 4) c_4 rfl
    refine ro_tabOut hK 79 dX12_note_11 (by omega) (by decide) ?_
    refine ro_iconst (v := (-1)) hK dX12_note_79 (by decide) ?_
    obtain rfl := Option.some.inj hf
    exact ro_iret hK hR dX12_note_80 hq
  · have hf := ro_it hf c3
    refine ro_iconst (v := (-1)) hK dX12_note_8 (by decide) ?_
    obtain rfl := Option.some.inj hf
    exact ro_iret hK hR dX12_note_9 hq
theorem mt_X12_note (l : Launch) (G : ro_G) {v1 : Int32} {v2 : Int32}  {μ : ro_Mem} {out : Int32} (hf : fn_X12_note v1 v2 μ = some out) : ro_MX l G yX12_note cX12_note 3 (some .int) 1 [.ref (ro_ad G 207), .int v1, .int v2] μ (some (.int out)) μ := by
  refine ro_MX.of (by decide +kernel) (Nat.le_of_ble_eq_true rfl) (fun K hG hl hq hK hR => ?_)
  subst hG
  exact be_X12_note hK hR  hf hq
-- ===== X12_readsNumber =====
theorem dX12_readsNumber_0 : decode cX12_readsNumber 0 = .ok (.aload_n 0, 1) := by decide +kernel
theorem dX12_readsNumber_1 : decode cX12_readsNumber 1 = .ok (.getfield 249, 3) := by decide +kernel
theorem dX12_readsNumber_4 : decode cX12_readsNumber 4 = .ok (.istore_n 1, 1) := by decide +kernel
theorem dX12_readsNumber_5 : decode cX12_readsNumber 5 = .ok (.aload_n 0, 1) := by decide +kernel
theorem dX12_readsNumber_6 : decode cX12_readsNumber 6 = .ok (.iconst 0, 1) := by decide +kernel
theorem dX12_readsNumber_7 : decode cX12_readsNumber 7 = .ok (.putfield 252, 3) := by decide +kernel
theorem dX12_readsNumber_10 : decode cX12_readsNumber 10 = .ok (.aload_n 0, 1) := by decide +kernel
theorem dX12_readsNumber_11 : decode cX12_readsNumber 11 = .ok (.invokevirtual 255, 3) := by decide +kernel
theorem dX12_readsNumber_14 : decode cX12_readsNumber 14 = .ok (.ifCond .eq 55, 3) := by decide +kernel
theorem dX12_readsNumber_17 : decode cX12_readsNumber 17 = .ok (.aload_n 0, 1) := by decide +kernel
theorem dX12_readsNumber_18 : decode cX12_readsNumber 18 = .ok (.getfield 249, 3) := by decide +kernel
theorem dX12_readsNumber_21 : decode cX12_readsNumber 21 = .ok (.iload_n 1, 1) := by decide +kernel
theorem dX12_readsNumber_22 : decode cX12_readsNumber 22 = .ok (.iconst 5, 1) := by decide +kernel
theorem dX12_readsNumber_23 : decode cX12_readsNumber 23 = .ok (.iadd, 1) := by decide +kernel
theorem dX12_readsNumber_24 : decode cX12_readsNumber 24 = .ok (.if_icmp .ne 13, 3) := by decide +kernel
theorem dX12_readsNumber_27 : decode cX12_readsNumber 27 = .ok (.aload_n 0, 1) := by decide +kernel
theorem dX12_readsNumber_28 : decode cX12_readsNumber 28 = .ok (.iconst 2, 1) := by decide +kernel
theorem dX12_readsNumber_29 : decode cX12_readsNumber 29 = .ok (.aload_n 0, 1) := by decide +kernel
theorem dX12_readsNumber_30 : decode cX12_readsNumber 30 = .ok (.getfield 249, 3) := by decide +kernel
theorem dX12_readsNumber_33 : decode cX12_readsNumber 33 = .ok (.invokevirtual 263, 3) := by decide +kernel
theorem dX12_readsNumber_36 : decode cX12_readsNumber 36 = .ok (.ireturn, 1) := by decide +kernel
theorem dX12_readsNumber_37 : decode cX12_readsNumber 37 = .ok (.aload_n 0, 1) := by decide +kernel
theorem dX12_readsNumber_38 : decode cX12_readsNumber 38 = .ok (.bipush 10, 2) := by decide +kernel
theorem dX12_readsNumber_40 : decode cX12_readsNumber 40 = .ok (.aload_n 0, 1) := by decide +kernel
theorem dX12_readsNumber_41 : decode cX12_readsNumber 41 = .ok (.getfield 252, 3) := by decide +kernel
theorem dX12_readsNumber_44 : decode cX12_readsNumber 44 = .ok (.imul, 1) := by decide +kernel
theorem dX12_readsNumber_45 : decode cX12_readsNumber 45 = .ok (.aload_n 0, 1) := by decide +kernel
theorem dX12_readsNumber_46 : decode cX12_readsNumber 46 = .ok (.invokevirtual 259, 3) := by decide +kernel
theorem dX12_readsNumber_49 : decode cX12_readsNumber 49 = .ok (.iadd, 1) := by decide +kernel
theorem dX12_readsNumber_50 : decode cX12_readsNumber 50 = .ok (.bipush 48, 2) := by decide +kernel
theorem dX12_readsNumber_52 : decode cX12_readsNumber 52 = .ok (.isub, 1) := by decide +kernel
theorem dX12_readsNumber_53 : decode cX12_readsNumber 53 = .ok (.putfield 252, 3) := by decide +kernel
theorem dX12_readsNumber_56 : decode cX12_readsNumber 56 = .ok (.aload_n 0, 1) := by decide +kernel
theorem dX12_readsNumber_57 : decode cX12_readsNumber 57 = .ok (.aload_n 0, 1) := by decide +kernel
theorem dX12_readsNumber_58 : decode cX12_readsNumber 58 = .ok (.getfield 249, 3) := by decide +kernel
theorem dX12_readsNumber_61 : decode cX12_readsNumber 61 = .ok (.iconst 1, 1) := by decide +kernel
theorem dX12_readsNumber_62 : decode cX12_readsNumber 62 = .ok (.iadd, 1) := by decide +kernel
theorem dX12_readsNumber_63 : decode cX12_readsNumber 63 = .ok (.putfield 249, 3) := by decide +kernel
theorem dX12_readsNumber_66 : decode cX12_readsNumber 66 = .ok (.goto (-56), 3) := by decide +kernel
theorem dX12_readsNumber_69 : decode cX12_readsNumber 69 = .ok (.iconst 1, 1) := by decide +kernel
theorem dX12_readsNumber_70 : decode cX12_readsNumber 70 = .ok (.ireturn, 1) := by decide +kernel
def ok_X12_readsNumber_10 (K : ro_K) (v1 : Int32) : (ro_Mem ⊕ ro_Mem) → Prop := Sum.elim (fun e => ro_X K 27 [(0, .ref (ro_ad (kG K) 207))] [] e) (fun e => ro_X K 69 [] [] e)
def fb_X12_readsNumber_10 (v1 : Int32) (rec : ro_Mem → Option (ro_Mem ⊕ ro_Mem)) (μ : ro_Mem) : Option (ro_Mem ⊕ ro_Mem) :=
  (fn_X12_isDigit μ).bind fun q5 =>
  if q5 = 0 then
  (some (.inr μ))
  else
  (if (μ 207 14) = (v1 + 5) then
  (some (.inl μ))
  else
  ((fn_X12_here μ).bind fun q9 =>
  ro_lt (ro_set μ 207 17 (((10 * (μ 207 17)) + q9) - 48)) fun m11 =>
  ro_lt (ro_set m11 207 14 ((m11 207 14) + 1)) fun m13 =>
  rec m13))
theorem bb_X12_readsNumber_10 {K : ro_K} (hK : ro_C K RX12 cX12_readsNumber 2 2) (hR : ro_R K (some .boolean)) {v1 : Int32}  {μ : ro_Mem} {rec : ro_Mem → Option (ro_Mem ⊕ ro_Mem)}  {q : (ro_Mem ⊕ ro_Mem)} (hrec : ∀ (s : ro_Mem) (q : (ro_Mem ⊕ ro_Mem)), rec s = some q → ok_X12_readsNumber_10 K v1 q → ro_X K 10 [(0, .ref (ro_ad (kG K) 207)), (1, .int v1)] [] s) (hf : fb_X12_readsNumber_10 v1 rec μ = some q) (hq : ok_X12_readsNumber_10 K v1 q) : ro_X K 10 [(0, .ref (ro_ad (kG K) 207)), (1, .int v1)] [] μ := by
  unfold fb_X12_readsNumber_10 at hf
  refine ro_aload_n hK 0 rfl dX12_readsNumber_10 rfl ?_
  obtain ⟨q5, e6, hf⟩ := ro_bd hf
  refine ro_callvi hK [] ml_X12_255 mv_X12_isDigit (mt_X12_isDigit (kl K) (kG K)  e6) sh_207 ⟨_, rfl, rfl⟩ (by decide) rfl rfl (Nat.le_of_ble_eq_true rfl) dX12_readsNumber_11 ?_
  refine ro_if_eq hK 69 dX12_readsNumber_14 (by decide) (fun c7 => ?_) (fun c7 => ?_)
  · have hf := ro_it hf c7
    refine ro_sub (L' := []) [] rfl ?_
    obtain rfl := Option.some.inj hf
    exact hq
  · have hf := ro_ie hf c7
    refine ro_aload_n hK 0 rfl dX12_readsNumber_17 rfl ?_
    refine ro_geti hK fl_X12_249 sh_207 dX12_readsNumber_18 ?_
    refine ro_iload_n hK 1 rfl dX12_readsNumber_21 rfl ?_
    refine ro_iconst (v := 5) hK dX12_readsNumber_22 (by decide) ?_
    refine ro_iadd hK dX12_readsNumber_23 ?_
    refine ro_icmp_ne hK 37 dX12_readsNumber_24 (by decide) (fun c8 => ?_) (fun c8 => ?_)
    · have hf := ro_ie hf c8
      refine ro_aload_n hK 0 rfl dX12_readsNumber_37 rfl ?_
      refine ro_bipush (v := 10) hK dX12_readsNumber_38 (by decide) ?_
      refine ro_aload_n hK 0 rfl dX12_readsNumber_40 rfl ?_
      refine ro_geti hK fl_X12_252 sh_207 dX12_readsNumber_41 ?_
      refine ro_imul hK dX12_readsNumber_44 ?_
      refine ro_aload_n hK 0 rfl dX12_readsNumber_45 rfl ?_
      obtain ⟨q9, e10, hf⟩ := ro_bd hf
      refine ro_callvi hK [] ml_X12_259 mv_X12_here (mt_X12_here (kl K) (kG K)  e10) sh_207 ⟨_, rfl, rfl⟩ (by decide) rfl rfl (Nat.le_of_ble_eq_true rfl) dX12_readsNumber_46 ?_
      refine ro_iadd hK dX12_readsNumber_49 ?_
      refine ro_bipush (v := 48) hK dX12_readsNumber_50 (by decide) ?_
      refine ro_isub hK dX12_readsNumber_52 ?_
      obtain ⟨m11, e12, hf⟩ := ro_ld hf
      refine ro_puti hK fl_X12_252 sh_207 rfl rfl dX12_readsNumber_53 ?_
      refine ro_mv e12 ?_
      refine ro_aload_n hK 0 rfl dX12_readsNumber_56 rfl ?_
      refine ro_aload_n hK 0 rfl dX12_readsNumber_57 rfl ?_
      refine ro_geti hK fl_X12_249 sh_207 dX12_readsNumber_58 ?_
      refine ro_iconst (v := 1) hK dX12_readsNumber_61 (by decide) ?_
      refine ro_iadd hK dX12_readsNumber_62 ?_
      obtain ⟨m13, e14, hf⟩ := ro_ld hf
      refine ro_puti hK fl_X12_249 sh_207 rfl rfl dX12_readsNumber_63 ?_
      refine ro_mv e14 ?_
      refine ro_goto hK 10 dX12_readsNumber_66 (by decide) ?_
      exact hrec m13 _ hf hq
    · have hf := ro_it hf c8
      refine ro_sub (L' := [(0, .ref (ro_ad (kG K) 207))]) [0] rfl ?_
      obtain rfl := Option.some.inj hf
      exact hq
def fl_X12_readsNumber_10 (v1 : Int32) : ro_Mem → Option (ro_Mem ⊕ ro_Mem) :=
  ro_loop (fun rec s => fb_X12_readsNumber_10 v1 rec s) ro_FU
theorem lp_X12_readsNumber_10 {K : ro_K} (hK : ro_C K RX12 cX12_readsNumber 2 2) (hR : ro_R K (some .boolean)) {v1 : Int32}  {s : ro_Mem} {q : (ro_Mem ⊕ ro_Mem)} (hf : fl_X12_readsNumber_10 v1 s = some q) (hq : ok_X12_readsNumber_10 K v1 q) : ro_X K 10 [(0, .ref (ro_ad (kG K) 207)), (1, .int v1)] [] s :=
  ro_loopX (b := fun rec s => fb_X12_readsNumber_10 v1 rec s) (X := fun s => ro_X K 10 [(0, .ref (ro_ad (kG K) 207)), (1, .int v1)] [] s) (OK := ok_X12_readsNumber_10 K v1) (fun rec s q hrec hb ho => bb_X12_readsNumber_10 hK hR  hrec hb ho) ro_FU s q hf hq
def fn_X12_readsNumber (μ : ro_Mem) : Option (Int32 × ro_Mem) :=
  ro_lt (μ 207 14) fun z1 =>
  ro_lt (ro_set μ 207 17 0) fun m3 =>
  (fl_X12_readsNumber_10 z1 m3).bind fun q15 =>
  q15.elim (fun e17 => (fn_X12_wrongAt 2 (e17 207 14) e17).bind fun q19 =>
  if q19.1 = 0 ∨ q19.1 = 1 then
  (some (q19.1, q19.2)) else none) (fun e18 => some (1, e18))
theorem be_X12_readsNumber {K : ro_K} (hK : ro_C K RX12 cX12_readsNumber 2 2) (hR : ro_R K (some .boolean))   {μ : ro_Mem} {out : Int32 × ro_Mem} (hf : fn_X12_readsNumber μ = some out) (hq : kQ K (some (.int out.1)) out.2) : ro_X K 0 [(0, .ref (ro_ad (kG K) 207))] [] μ := by
  unfold fn_X12_readsNumber at hf
  refine ro_aload_n hK 0 rfl dX12_readsNumber_0 rfl ?_
  refine ro_geti hK fl_X12_249 sh_207 dX12_readsNumber_1 ?_
  obtain ⟨z1, e2, hf⟩ := ro_ld hf
  refine ro_iv e2 ?_
  refine ro_istore_n (L' := [(1, .int z1), (0, .ref (ro_ad (kG K) 207))]) hK dX12_readsNumber_4 rfl (by decide) rfl ?_
  refine ro_aload_n hK 1 rfl dX12_readsNumber_5 rfl ?_
  refine ro_iconst (v := 0) hK dX12_readsNumber_6 (by decide) ?_
  obtain ⟨m3, e4, hf⟩ := ro_ld hf
  refine ro_puti hK fl_X12_252 sh_207 rfl rfl dX12_readsNumber_7 ?_
  refine ro_mv e4 ?_
  obtain ⟨q15, e16, hf⟩ := ro_bd hf
  refine ro_sub (L' := [(0, .ref (ro_ad (kG K) 207)), (1, .int z1)]) [1, 0] rfl ?_
  refine lp_X12_readsNumber_10 hK hR  e16 ?_
  rcases q15 with e17 | e18
  · have hf := ro_el hf
    show ro_X K 27 [(0, .ref (ro_ad (kG K) 207))] [] e17
    refine ro_aload_n hK 0 rfl dX12_readsNumber_27 rfl ?_
    refine ro_iconst (v := 2) hK dX12_readsNumber_28 (by decide) ?_
    refine ro_aload_n hK 0 rfl dX12_readsNumber_29 rfl ?_
    refine ro_geti hK fl_X12_249 sh_207 dX12_readsNumber_30 ?_
    obtain ⟨q19, e20, hf⟩ := ro_bd hf
    refine ro_callvi hK [.int 2, .int (e17 207 14)] ml_X12_263 mv_X12_wrongAt (mt_X12_wrongAt (kl K) (kG K)  e20) sh_207 ⟨_, rfl, rfl⟩ (by decide) rfl rfl (Nat.le_of_ble_eq_true rfl) dX12_readsNumber_33 ?_
    obtain ⟨g21, hf⟩ := ro_gd hf
    obtain rfl := Option.some.inj hf
    exact ro_zret hK hR dX12_readsNumber_36 g21 hq
  · have hf := ro_er hf
    show ro_X K 69 [] [] e18
    refine ro_iconst (v := 1) hK dX12_readsNumber_69 (by decide) ?_
    obtain rfl := Option.some.inj hf
    exact ro_zret hK hR dX12_readsNumber_70 (by decide) hq
theorem mt_X12_readsNumber (l : Launch) (G : ro_G)   {μ : ro_Mem} {out : Int32 × ro_Mem} (hf : fn_X12_readsNumber μ = some out) : ro_MX l G yX12_readsNumber cX12_readsNumber 2 (some .boolean) 2 [.ref (ro_ad G 207)] μ (some (.int out.1)) out.2 := by
  refine ro_MX.of (by decide +kernel) (Nat.le_of_ble_eq_true rfl) (fun K hG hl hq hK hR => ?_)
  subst hG
  exact be_X12_readsNumber hK hR  hf hq
-- ===== X12_notes =====
theorem dX12_notes_0 : decode cX12_notes 0 = .ok (.aload_n 0, 1) := by decide +kernel
theorem dX12_notes_1 : decode cX12_notes 1 = .ok (.getfield 72, 3) := by decide +kernel
theorem dX12_notes_4 : decode cX12_notes 4 = .ok (.aload_n 0, 1) := by decide +kernel
theorem dX12_notes_5 : decode cX12_notes 5 = .ok (.getfield 312, 3) := by decide +kernel
theorem dX12_notes_8 : decode cX12_notes 8 = .ok (.ldc_w 315, 3) := by decide +kernel
theorem dX12_notes_11 : decode cX12_notes 11 = .ok (.iload_n 1, 1) := by decide +kernel
theorem dX12_notes_12 : decode cX12_notes 12 = .ok (.imul, 1) := by decide +kernel
theorem dX12_notes_13 : decode cX12_notes 13 = .ok (.iload_n 2, 1) := by decide +kernel
theorem dX12_notes_14 : decode cX12_notes 14 = .ok (.iadd, 1) := by decide +kernel
theorem dX12_notes_15 : decode cX12_notes 15 = .ok (.iastore, 1) := by decide +kernel
theorem dX12_notes_16 : decode cX12_notes 16 = .ok (.aload_n 0, 1) := by decide +kernel
theorem dX12_notes_17 : decode cX12_notes 17 = .ok (.aload_n 0, 1) := by decide +kernel
theorem dX12_notes_18 : decode cX12_notes 18 = .ok (.getfield 312, 3) := by decide +kernel
theorem dX12_notes_21 : decode cX12_notes 21 = .ok (.iconst 1, 1) := by decide +kernel
theorem dX12_notes_22 : decode cX12_notes 22 = .ok (.iadd, 1) := by decide +kernel
theorem dX12_notes_23 : decode cX12_notes 23 = .ok (.putfield 312, 3) := by decide +kernel
theorem dX12_notes_26 : decode cX12_notes 26 = .ok (.return_, 1) := by decide +kernel
def fn_X12_notes (v1 : Int32) (v2 : Int32) (μ : ro_Mem) : Option ro_Mem :=
  if ro_in (μ 207 35) 220 then
  (ro_lt (ro_set μ 228 (μ 207 35).toNatClampNeg ((1048576 * v1) + v2)) fun m2 =>
  ro_lt (ro_set m2 207 35 ((m2 207 35) + 1)) fun m4 =>
  some m4) else none
theorem be_X12_notes {K : ro_K} (hK : ro_C K RX12 cX12_notes 3 0) (hR : ro_R K none) {v1 : Int32} {v2 : Int32}  {μ : ro_Mem} {out : ro_Mem} (hf : fn_X12_notes v1 v2 μ = some out) (hq : kQ K none out) : ro_X K 0 [(0, .ref (ro_ad (kG K) 207)), (1, .int v1), (2, .int v2)] [] μ := by
  unfold fn_X12_notes at hf
  refine ro_aload_n hK 0 rfl dX12_notes_0 rfl ?_
  refine ro_getr hK fl_X12_72 sh_207 dX12_notes_1 ?_
  refine ro_aload_n hK 0 rfl dX12_notes_4 rfl ?_
  refine ro_geti hK fl_X12_312 sh_207 dX12_notes_5 ?_
  refine ro_ldcw hK kc_X12_315 dX12_notes_8 ?_
  refine ro_iload_n hK 1 rfl dX12_notes_11 rfl ?_
  refine ro_imul hK dX12_notes_12 ?_
  refine ro_iload_n hK 2 rfl dX12_notes_13 rfl ?_
  refine ro_iadd hK dX12_notes_14 ?_
  obtain ⟨g1, hf⟩ := ro_gd hf
  obtain ⟨m2, e3, hf⟩ := ro_ld hf
  refine ro_iast hK sh_228 g1 dX12_notes_15 ?_
  refine ro_mv e3 ?_
  refine ro_aload_n hK 0 rfl dX12_notes_16 rfl ?_
  refine ro_aload_n hK 0 rfl dX12_notes_17 rfl ?_
  refine ro_geti hK fl_X12_312 sh_207 dX12_notes_18 ?_
  refine ro_iconst (v := 1) hK dX12_notes_21 (by decide) ?_
  refine ro_iadd hK dX12_notes_22 ?_
  obtain ⟨m4, e5, hf⟩ := ro_ld hf
  refine ro_puti hK fl_X12_312 sh_207 rfl rfl dX12_notes_23 ?_
  refine ro_mv e5 ?_
  obtain rfl := Option.some.inj hf
  exact ro_vret hK hR dX12_notes_26 hq
theorem mt_X12_notes (l : Launch) (G : ro_G) {v1 : Int32} {v2 : Int32}  {μ : ro_Mem} {out : ro_Mem} (hf : fn_X12_notes v1 v2 μ = some out) : ro_MX l G yX12_notes cX12_notes 3 none 0 [.ref (ro_ad G 207), .int v1, .int v2] μ none out := by
  refine ro_MX.of (by decide +kernel) (Nat.le_of_ble_eq_true rfl) (fun K hG hl hq hK hR => ?_)
  subst hG
  exact be_X12_notes hK hR  hf hq
-- ===== X12_opens =====
theorem dX12_opens_0 : decode cX12_opens 0 = .ok (.aload_n 0, 1) := by decide +kernel
theorem dX12_opens_1 : decode cX12_opens 1 = .ok (.getfield 316, 3) := by decide +kernel
theorem dX12_opens_4 : decode cX12_opens 4 = .ok (.bipush 6, 2) := by decide +kernel
theorem dX12_opens_6 : decode cX12_opens 6 = .ok (.if_icmp .ne 13, 3) := by decide +kernel
theorem dX12_opens_9 : decode cX12_opens 9 = .ok (.aload_n 0, 1) := by decide +kernel
theorem dX12_opens_10 : decode cX12_opens 10 = .ok (.iconst 5, 1) := by decide +kernel
theorem dX12_opens_11 : decode cX12_opens 11 = .ok (.aload_n 0, 1) := by decide +kernel
theorem dX12_opens_12 : decode cX12_opens 12 = .ok (.getfield 249, 3) := by decide +kernel
theorem dX12_opens_15 : decode cX12_opens 15 = .ok (.invokevirtual 263, 3) := by decide +kernel
theorem dX12_opens_18 : decode cX12_opens 18 = .ok (.ireturn, 1) := by decide +kernel
theorem dX12_opens_19 : decode cX12_opens 19 = .ok (.aload_n 0, 1) := by decide +kernel
theorem dX12_opens_20 : decode cX12_opens 20 = .ok (.aload_n 0, 1) := by decide +kernel
theorem dX12_opens_21 : decode cX12_opens 21 = .ok (.getfield 316, 3) := by decide +kernel
theorem dX12_opens_24 : decode cX12_opens 24 = .ok (.iconst 1, 1) := by decide +kernel
theorem dX12_opens_25 : decode cX12_opens 25 = .ok (.iadd, 1) := by decide +kernel
theorem dX12_opens_26 : decode cX12_opens 26 = .ok (.putfield 316, 3) := by decide +kernel
theorem dX12_opens_29 : decode cX12_opens 29 = .ok (.aload_n 0, 1) := by decide +kernel
theorem dX12_opens_30 : decode cX12_opens 30 = .ok (.getfield 75, 3) := by decide +kernel
theorem dX12_opens_33 : decode cX12_opens 33 = .ok (.aload_n 0, 1) := by decide +kernel
theorem dX12_opens_34 : decode cX12_opens 34 = .ok (.getfield 319, 3) := by decide +kernel
theorem dX12_opens_37 : decode cX12_opens 37 = .ok (.ldc_w 315, 3) := by decide +kernel
theorem dX12_opens_40 : decode cX12_opens 40 = .ok (.iload_n 1, 1) := by decide +kernel
theorem dX12_opens_41 : decode cX12_opens 41 = .ok (.imul, 1) := by decide +kernel
theorem dX12_opens_42 : decode cX12_opens 42 = .ok (.iastore, 1) := by decide +kernel
theorem dX12_opens_43 : decode cX12_opens 43 = .ok (.aload_n 0, 1) := by decide +kernel
theorem dX12_opens_44 : decode cX12_opens 44 = .ok (.aload_n 0, 1) := by decide +kernel
theorem dX12_opens_45 : decode cX12_opens 45 = .ok (.getfield 319, 3) := by decide +kernel
theorem dX12_opens_48 : decode cX12_opens 48 = .ok (.iconst 1, 1) := by decide +kernel
theorem dX12_opens_49 : decode cX12_opens 49 = .ok (.iadd, 1) := by decide +kernel
theorem dX12_opens_50 : decode cX12_opens 50 = .ok (.putfield 319, 3) := by decide +kernel
theorem dX12_opens_53 : decode cX12_opens 53 = .ok (.aload_n 0, 1) := by decide +kernel
theorem dX12_opens_54 : decode cX12_opens 54 = .ok (.aload_n 0, 1) := by decide +kernel
theorem dX12_opens_55 : decode cX12_opens 55 = .ok (.getfield 249, 3) := by decide +kernel
theorem dX12_opens_58 : decode cX12_opens 58 = .ok (.iconst 1, 1) := by decide +kernel
theorem dX12_opens_59 : decode cX12_opens 59 = .ok (.iadd, 1) := by decide +kernel
theorem dX12_opens_60 : decode cX12_opens 60 = .ok (.putfield 249, 3) := by decide +kernel
theorem dX12_opens_63 : decode cX12_opens 63 = .ok (.iconst 1, 1) := by decide +kernel
theorem dX12_opens_64 : decode cX12_opens 64 = .ok (.ireturn, 1) := by decide +kernel
def fn_X12_opens (v1 : Int32) (μ : ro_Mem) : Option (Int32 × ro_Mem) :=
  if (μ 207 34) = 6 then
  ((fn_X12_wrongAt 5 (μ 207 14) μ).bind fun q11 =>
  if q11.1 = 0 ∨ q11.1 = 1 then
  (some (q11.1, q11.2)) else none)
  else
  (ro_lt (ro_set μ 207 34 ((μ 207 34) + 1)) fun m2 =>
  if ro_in (m2 207 36) 220 then
  (ro_lt (ro_set m2 229 (m2 207 36).toNatClampNeg (1048576 * v1)) fun m5 =>
  ro_lt (ro_set m5 207 36 ((m5 207 36) + 1)) fun m7 =>
  ro_lt (ro_set m7 207 14 ((m7 207 14) + 1)) fun m9 =>
  some (1, m9)) else none)
theorem be_X12_opens {K : ro_K} (hK : ro_C K RX12 cX12_opens 2 1) (hR : ro_R K (some .boolean)) {v1 : Int32}  {μ : ro_Mem} {out : Int32 × ro_Mem} (hf : fn_X12_opens v1 μ = some out) (hq : kQ K (some (.int out.1)) out.2) : ro_X K 0 [(0, .ref (ro_ad (kG K) 207)), (1, .int v1)] [] μ := by
  unfold fn_X12_opens at hf
  refine ro_aload_n hK 0 rfl dX12_opens_0 rfl ?_
  refine ro_geti hK fl_X12_316 sh_207 dX12_opens_1 ?_
  refine ro_bipush (v := 6) hK dX12_opens_4 (by decide) ?_
  refine ro_icmp_ne hK 19 dX12_opens_6 (by decide) (fun c1 => ?_) (fun c1 => ?_)
  · have hf := ro_ie hf c1
    refine ro_aload_n hK 0 rfl dX12_opens_19 rfl ?_
    refine ro_aload_n hK 0 rfl dX12_opens_20 rfl ?_
    refine ro_geti hK fl_X12_316 sh_207 dX12_opens_21 ?_
    refine ro_iconst (v := 1) hK dX12_opens_24 (by decide) ?_
    refine ro_iadd hK dX12_opens_25 ?_
    obtain ⟨m2, e3, hf⟩ := ro_ld hf
    refine ro_puti hK fl_X12_316 sh_207 rfl rfl dX12_opens_26 ?_
    refine ro_mv e3 ?_
    refine ro_aload_n hK 0 rfl dX12_opens_29 rfl ?_
    refine ro_getr hK fl_X12_75 sh_207 dX12_opens_30 ?_
    refine ro_aload_n hK 0 rfl dX12_opens_33 rfl ?_
    refine ro_geti hK fl_X12_319 sh_207 dX12_opens_34 ?_
    refine ro_ldcw hK kc_X12_315 dX12_opens_37 ?_
    refine ro_iload_n hK 1 rfl dX12_opens_40 rfl ?_
    refine ro_imul hK dX12_opens_41 ?_
    obtain ⟨g4, hf⟩ := ro_gd hf
    obtain ⟨m5, e6, hf⟩ := ro_ld hf
    refine ro_iast hK sh_229 g4 dX12_opens_42 ?_
    refine ro_mv e6 ?_
    refine ro_aload_n hK 0 rfl dX12_opens_43 rfl ?_
    refine ro_aload_n hK 0 rfl dX12_opens_44 rfl ?_
    refine ro_geti hK fl_X12_319 sh_207 dX12_opens_45 ?_
    refine ro_iconst (v := 1) hK dX12_opens_48 (by decide) ?_
    refine ro_iadd hK dX12_opens_49 ?_
    obtain ⟨m7, e8, hf⟩ := ro_ld hf
    refine ro_puti hK fl_X12_319 sh_207 rfl rfl dX12_opens_50 ?_
    refine ro_mv e8 ?_
    refine ro_aload_n hK 0 rfl dX12_opens_53 rfl ?_
    refine ro_aload_n hK 0 rfl dX12_opens_54 rfl ?_
    refine ro_geti hK fl_X12_249 sh_207 dX12_opens_55 ?_
    refine ro_iconst (v := 1) hK dX12_opens_58 (by decide) ?_
    refine ro_iadd hK dX12_opens_59 ?_
    obtain ⟨m9, e10, hf⟩ := ro_ld hf
    refine ro_puti hK fl_X12_249 sh_207 rfl rfl dX12_opens_60 ?_
    refine ro_mv e10 ?_
    refine ro_iconst (v := 1) hK dX12_opens_63 (by decide) ?_
    obtain rfl := Option.some.inj hf
    exact ro_zret hK hR dX12_opens_64 (by decide) hq
  · have hf := ro_it hf c1
    refine ro_aload_n hK 0 rfl dX12_opens_9 rfl ?_
    refine ro_iconst (v := 5) hK dX12_opens_10 (by decide) ?_
    refine ro_aload_n hK 0 rfl dX12_opens_11 rfl ?_
    refine ro_geti hK fl_X12_249 sh_207 dX12_opens_12 ?_
    obtain ⟨q11, e12, hf⟩ := ro_bd hf
    refine ro_callvi hK [.int 5, .int (μ 207 14)] ml_X12_263 mv_X12_wrongAt (mt_X12_wrongAt (kl K) (kG K)  e12) sh_207 ⟨_, rfl, rfl⟩ (by decide) rfl rfl (Nat.le_of_ble_eq_true rfl) dX12_opens_15 ?_
    obtain ⟨g13, hf⟩ := ro_gd hf
    obtain rfl := Option.some.inj hf
    exact ro_zret hK hR dX12_opens_18 g13 hq
theorem mt_X12_opens (l : Launch) (G : ro_G) {v1 : Int32}  {μ : ro_Mem} {out : Int32 × ro_Mem} (hf : fn_X12_opens v1 μ = some out) : ro_MX l G yX12_opens cX12_opens 2 (some .boolean) 1 [.ref (ro_ad G 207), .int v1] μ (some (.int out.1)) out.2 := by
  refine ro_MX.of (by decide +kernel) (Nat.le_of_ble_eq_true rfl) (fun K hG hl hq hK hR => ?_)
  subst hG
  exact be_X12_opens hK hR  hf hq
-- ===== X12_waitTop =====
theorem dX12_waitTop_0 : decode cX12_waitTop 0 = .ok (.aload_n 0, 1) := by decide +kernel
theorem dX12_waitTop_1 : decode cX12_waitTop 1 = .ok (.getfield 319, 3) := by decide +kernel
theorem dX12_waitTop_4 : decode cX12_waitTop 4 = .ok (.ifCond .ne 7, 3) := by decide +kernel
theorem dX12_waitTop_7 : decode cX12_waitTop 7 = .ok (.iconst (-1), 1) := by decide +kernel
theorem dX12_waitTop_8 : decode cX12_waitTop 8 = .ok (.goto 18, 3) := by decide +kernel
theorem dX12_waitTop_11 : decode cX12_waitTop 11 = .ok (.aload_n 0, 1) := by decide +kernel
theorem dX12_waitTop_12 : decode cX12_waitTop 12 = .ok (.getfield 75, 3) := by decide +kernel
theorem dX12_waitTop_15 : decode cX12_waitTop 15 = .ok (.aload_n 0, 1) := by decide +kernel
theorem dX12_waitTop_16 : decode cX12_waitTop 16 = .ok (.getfield 319, 3) := by decide +kernel
theorem dX12_waitTop_19 : decode cX12_waitTop 19 = .ok (.iconst 1, 1) := by decide +kernel
theorem dX12_waitTop_20 : decode cX12_waitTop 20 = .ok (.isub, 1) := by decide +kernel
theorem dX12_waitTop_21 : decode cX12_waitTop 21 = .ok (.iaload, 1) := by decide +kernel
theorem dX12_waitTop_22 : decode cX12_waitTop 22 = .ok (.ldc_w 315, 3) := by decide +kernel
theorem dX12_waitTop_25 : decode cX12_waitTop 25 = .ok (.idiv, 1) := by decide +kernel
theorem dX12_waitTop_26 : decode cX12_waitTop 26 = .ok (.ireturn, 1) := by decide +kernel
def fn_X12_waitTop (μ : ro_Mem) : Option Int32 :=
  if (μ 207 36) = 0 then
  (some (-1))
  else
  (if ro_in ((μ 207 36) - 1) 220 then
  (some ((μ 229 ((μ 207 36) - 1).toNatClampNeg) / 1048576)) else none)
theorem be_X12_waitTop {K : ro_K} (hK : ro_C K RX12 cX12_waitTop 1 0) (hR : ro_R K (some .int))   {μ : ro_Mem} {out : Int32} (hf : fn_X12_waitTop μ = some out) (hq : kQ K (some (.int out)) μ) : ro_X K 0 [(0, .ref (ro_ad (kG K) 207))] [] μ := by
  unfold fn_X12_waitTop at hf
  refine ro_aload_n hK 0 rfl dX12_waitTop_0 rfl ?_
  refine ro_geti hK fl_X12_319 sh_207 dX12_waitTop_1 ?_
  refine ro_if_ne hK 11 dX12_waitTop_4 (by decide) (fun c1 => ?_) (fun c1 => ?_)
  · have hf := ro_ie hf c1
    refine ro_aload_n hK 0 rfl dX12_waitTop_11 rfl ?_
    refine ro_getr hK fl_X12_75 sh_207 dX12_waitTop_12 ?_
    refine ro_aload_n hK 0 rfl dX12_waitTop_15 rfl ?_
    refine ro_geti hK fl_X12_319 sh_207 dX12_waitTop_16 ?_
    refine ro_iconst (v := 1) hK dX12_waitTop_19 (by decide) ?_
    refine ro_isub hK dX12_waitTop_20 ?_
    obtain ⟨g2, hf⟩ := ro_gd hf
    refine ro_iald hK sh_229 g2 dX12_waitTop_21 ?_
    refine ro_ldcw hK kc_X12_315 dX12_waitTop_22 ?_
    refine ro_idiv hK dX12_waitTop_25 (by decide) ?_
    obtain rfl := Option.some.inj hf
    exact ro_iret hK hR dX12_waitTop_26 hq
  · have hf := ro_it hf c1
    refine ro_iconst (v := (-1)) hK dX12_waitTop_7 (by decide) ?_
    refine ro_goto hK 26 dX12_waitTop_8 (by decide) ?_
    obtain rfl := Option.some.inj hf
    exact ro_iret hK hR dX12_waitTop_26 hq
theorem mt_X12_waitTop (l : Launch) (G : ro_G)   {μ : ro_Mem} {out : Int32} (hf : fn_X12_waitTop μ = some out) : ro_MX l G yX12_waitTop cX12_waitTop 1 (some .int) 0 [.ref (ro_ad G 207)] μ (some (.int out)) μ := by
  refine ro_MX.of (by decide +kernel) (Nat.le_of_ble_eq_true rfl) (fun K hG hl hq hK hR => ?_)
  subst hG
  exact be_X12_waitTop hK hR  hf hq
