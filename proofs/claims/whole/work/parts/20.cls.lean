-- ===== X11_sponge =====
theorem dX11_sponge_0 : decode cX11_sponge 0 = .ok (.iload_n 1, 1) := by decide +kernel
theorem dX11_sponge_1 : decode cX11_sponge 1 = .ok (.iconst 1, 1) := by decide +kernel
theorem dX11_sponge_2 : decode cX11_sponge 2 = .ok (.if_icmp .lt 18, 3) := by decide +kernel
theorem dX11_sponge_5 : decode cX11_sponge 5 = .ok (.iload_n 1, 1) := by decide +kernel
theorem dX11_sponge_6 : decode cX11_sponge 6 = .ok (.bipush 99, 2) := by decide +kernel
theorem dX11_sponge_8 : decode cX11_sponge 8 = .ok (.if_icmp .gt 12, 3) := by decide +kernel
theorem dX11_sponge_11 : decode cX11_sponge 11 = .ok (.iload_n 2, 1) := by decide +kernel
theorem dX11_sponge_12 : decode cX11_sponge 12 = .ok (.ifCond .lt 8, 3) := by decide +kernel
theorem dX11_sponge_15 : decode cX11_sponge 15 = .ok (.iload_n 2, 1) := by decide +kernel
theorem dX11_sponge_16 : decode cX11_sponge 16 = .ok (.iconst 1, 1) := by decide +kernel
theorem dX11_sponge_17 : decode cX11_sponge 17 = .ok (.if_icmp .le 5, 3) := by decide +kernel
theorem dX11_sponge_20 : decode cX11_sponge 20 = .ok (.iconst (-1), 1) := by decide +kernel
theorem dX11_sponge_21 : decode cX11_sponge 21 = .ok (.ireturn, 1) := by decide +kernel
theorem dX11_sponge_22 : decode cX11_sponge 22 = .ok (.aload_n 0, 1) := by decide +kernel
theorem dX11_sponge_23 : decode cX11_sponge 23 = .ok (.invokevirtual 176, 3) := by decide +kernel
theorem dX11_sponge_26 : decode cX11_sponge 26 = .ok (.iconst 0, 1) := by decide +kernel
theorem dX11_sponge_27 : decode cX11_sponge 27 = .ok (.istore_n 3, 1) := by decide +kernel
theorem dX11_sponge_28 : decode cX11_sponge 28 = .ok (.iconst 0, 1) := by decide +kernel
theorem dX11_sponge_29 : decode cX11_sponge 29 = .ok (.istore 4, 2) := by decide +kernel
theorem dX11_sponge_31 : decode cX11_sponge 31 = .ok (.iconst 0, 1) := by decide +kernel
theorem dX11_sponge_32 : decode cX11_sponge 32 = .ok (.istore 5, 2) := by decide +kernel
theorem dX11_sponge_34 : decode cX11_sponge 34 = .ok (.iload 5, 2) := by decide +kernel
theorem dX11_sponge_36 : decode cX11_sponge 36 = .ok (.bipush 96, 2) := by decide +kernel
theorem dX11_sponge_38 : decode cX11_sponge 38 = .ok (.if_icmp .ge 32, 3) := by decide +kernel
theorem dX11_sponge_41 : decode cX11_sponge 41 = .ok (.aload_n 0, 1) := by decide +kernel
theorem dX11_sponge_42 : decode cX11_sponge 42 = .ok (.iload 5, 2) := by decide +kernel
theorem dX11_sponge_44 : decode cX11_sponge 44 = .ok (.iload_n 1, 1) := by decide +kernel
theorem dX11_sponge_45 : decode cX11_sponge 45 = .ok (.invokevirtual 290, 3) := by decide +kernel
theorem dX11_sponge_48 : decode cX11_sponge 48 = .ok (.istore 6, 2) := by decide +kernel
theorem dX11_sponge_50 : decode cX11_sponge 50 = .ok (.iload 6, 2) := by decide +kernel
theorem dX11_sponge_52 : decode cX11_sponge 52 = .ok (.iload 4, 2) := by decide +kernel
theorem dX11_sponge_54 : decode cX11_sponge 54 = .ok (.if_icmp .le 10, 3) := by decide +kernel
theorem dX11_sponge_57 : decode cX11_sponge 57 = .ok (.iload 6, 2) := by decide +kernel
theorem dX11_sponge_59 : decode cX11_sponge 59 = .ok (.istore 4, 2) := by decide +kernel
theorem dX11_sponge_61 : decode cX11_sponge 61 = .ok (.iload 5, 2) := by decide +kernel
theorem dX11_sponge_63 : decode cX11_sponge 63 = .ok (.istore_n 3, 1) := by decide +kernel
theorem dX11_sponge_64 : decode cX11_sponge 64 = .ok (.iinc 5 1, 3) := by decide +kernel
theorem dX11_sponge_67 : decode cX11_sponge 67 = .ok (.goto (-33), 3) := by decide +kernel
theorem dX11_sponge_70 : decode cX11_sponge 70 = .ok (.iload_n 2, 1) := by decide +kernel
theorem dX11_sponge_71 : decode cX11_sponge 71 = .ok (.ifCond .ne 7, 3) := by decide +kernel
theorem dX11_sponge_74 : decode cX11_sponge 74 = .ok (.iload_n 3, 1) := by decide +kernel
theorem dX11_sponge_75 : decode cX11_sponge 75 = .ok (.goto 5, 3) := by decide +kernel
theorem dX11_sponge_78 : decode cX11_sponge 78 = .ok (.iload 4, 2) := by decide +kernel
theorem dX11_sponge_80 : decode cX11_sponge 80 = .ok (.ireturn, 1) := by decide +kernel
def ok_X11_sponge_34 (K : ro_K) (v1 : Int32) (v2 : Int32) (μ : ro_Mem) : (Int32 × Int32) → Prop := fun e => ro_X K 70 [(2, .int v2), (3, .int e.1), (4, .int e.2)] [] μ
def fb_X11_sponge_34 (v1 : Int32) (v2 : Int32) (μ : ro_Mem) (rec : (Int32 × Int32 × Int32) → Option (Int32 × Int32)) (v3 : Int32) (v4 : Int32) (v5 : Int32) : Option (Int32 × Int32) :=
  if 96 ≤ v5 then
  (some (v3, v4))
  else
  ((fn_X11_spongeWorth v5 v1 μ).bind fun q8 =>
  if q8 ≤ v4 then
  (rec (v3, v4, v5 + 1))
  else
  (rec (v5, q8, v5 + 1)))
theorem bb_X11_sponge_34 {K : ro_K} (hK : ro_C K RX11 cX11_sponge 7 6) (hR : ro_R K (some .int)) {v1 : Int32} {v2 : Int32}  {μ : ro_Mem} {rec : (Int32 × Int32 × Int32) → Option (Int32 × Int32)} {v3 : Int32} {v4 : Int32} {v5 : Int32} {q : (Int32 × Int32)} (hrec : ∀ (s : Int32 × Int32 × Int32) (q : (Int32 × Int32)), rec s = some q → ok_X11_sponge_34 K v1 v2 μ q → ro_X K 34 [(0, .ref (ro_ad (kG K) 0)), (1, .int v1), (2, .int v2), (3, .int s.1), (4, .int s.2.1), (5, .int s.2.2)] [] μ) (hf : fb_X11_sponge_34 v1 v2 μ rec v3 v4 v5 = some q) (hq : ok_X11_sponge_34 K v1 v2 μ q) : ro_X K 34 [(0, .ref (ro_ad (kG K) 0)), (1, .int v1), (2, .int v2), (3, .int v3), (4, .int v4), (5, .int v5)] [] μ := by
  unfold fb_X11_sponge_34 at hf
  refine ro_iload hK 5 rfl dX11_sponge_34 ?_
  refine ro_bipush (v := 96) hK dX11_sponge_36 (by decide) ?_
  refine ro_icmp_ge hK 70 dX11_sponge_38 (by decide) (fun c7 => ?_) (fun c7 => ?_)
  · have hf := ro_it hf c7
    refine ro_sub (L' := [(2, .int v2), (3, .int v3), (4, .int v4)]) [2, 3, 4] rfl ?_
    obtain rfl := Option.some.inj hf
    exact hq
  · have hf := ro_ie hf c7
    refine ro_aload_n hK 0 rfl dX11_sponge_41 rfl ?_
    refine ro_iload hK 5 rfl dX11_sponge_42 ?_
    refine ro_iload_n hK 1 rfl dX11_sponge_44 rfl ?_
    obtain ⟨q8, e9, hf⟩ := ro_bd hf
    refine ro_callvi hK [.int v5, .int v1] ml_X11_290 mv_X11_spongeWorth (mt_X11_spongeWorth (kl K) (kG K)  e9) sh_0 ⟨_, rfl, rfl⟩ (by decide) rfl rfl (Nat.le_of_ble_eq_true rfl) dX11_sponge_45 ?_
    refine ro_istore (L' := [(6, .int q8), (0, .ref (ro_ad (kG K) 0)), (1, .int v1), (2, .int v2), (3, .int v3), (4, .int v4), (5, .int v5)]) hK dX11_sponge_48 (by decide) rfl ?_
    refine ro_iload hK 0 rfl dX11_sponge_50 ?_
    refine ro_iload hK 5 rfl dX11_sponge_52 ?_
    refine ro_icmp_le hK 64 dX11_sponge_54 (by decide) (fun c10 => ?_) (fun c10 => ?_)
    · have hf := ro_it hf c10
      refine ro_iinc (v := v5 + 1) (L' := [(5, .int (v5 + 1)), (6, .int q8), (0, .ref (ro_ad (kG K) 0)), (1, .int v1), (2, .int v2), (3, .int v3), (4, .int v4)]) hK 6 rfl dX11_sponge_64 rfl (by decide) rfl ?_
      refine ro_goto hK 34 dX11_sponge_67 (by decide) ?_
      refine ro_sub (L' := [(0, .ref (ro_ad (kG K) 0)), (1, .int v1), (2, .int v2), (3, .int v3), (4, .int v4), (5, .int (v5 + 1))]) [2, 3, 4, 5, 6, 0] rfl ?_
      exact hrec (v3, v4, v5 + 1) _ hf hq
    · have hf := ro_ie hf c10
      refine ro_iload hK 0 rfl dX11_sponge_57 ?_
      refine ro_istore (L' := [(4, .int q8), (6, .int q8), (0, .ref (ro_ad (kG K) 0)), (1, .int v1), (2, .int v2), (3, .int v3), (5, .int v5)]) hK dX11_sponge_59 (by decide) rfl ?_
      refine ro_iload hK 6 rfl dX11_sponge_61 ?_
      refine ro_istore_n (L' := [(3, .int v5), (4, .int q8), (6, .int q8), (0, .ref (ro_ad (kG K) 0)), (1, .int v1), (2, .int v2), (5, .int v5)]) hK dX11_sponge_63 rfl (by decide) rfl ?_
      refine ro_iinc (v := v5 + 1) (L' := [(5, .int (v5 + 1)), (3, .int v5), (4, .int q8), (6, .int q8), (0, .ref (ro_ad (kG K) 0)), (1, .int v1), (2, .int v2)]) hK 6 rfl dX11_sponge_64 rfl (by decide) rfl ?_
      refine ro_goto hK 34 dX11_sponge_67 (by decide) ?_
      refine ro_sub (L' := [(0, .ref (ro_ad (kG K) 0)), (1, .int v1), (2, .int v2), (3, .int v5), (4, .int q8), (5, .int (v5 + 1))]) [4, 5, 6, 1, 2, 0] rfl ?_
      exact hrec (v5, q8, v5 + 1) _ hf hq
def fl_X11_sponge_34 (v1 : Int32) (v2 : Int32) (μ : ro_Mem) : (Int32 × Int32 × Int32) → Option (Int32 × Int32) :=
  ro_loop (fun rec s => fb_X11_sponge_34 v1 v2 μ rec s.1 s.2.1 s.2.2) ro_FU
theorem lp_X11_sponge_34 {K : ro_K} (hK : ro_C K RX11 cX11_sponge 7 6) (hR : ro_R K (some .int)) {v1 : Int32} {v2 : Int32}  {μ : ro_Mem} {s : Int32 × Int32 × Int32} {q : (Int32 × Int32)} (hf : fl_X11_sponge_34 v1 v2 μ s = some q) (hq : ok_X11_sponge_34 K v1 v2 μ q) : ro_X K 34 [(0, .ref (ro_ad (kG K) 0)), (1, .int v1), (2, .int v2), (3, .int s.1), (4, .int s.2.1), (5, .int s.2.2)] [] μ :=
  ro_loopX (b := fun rec s => fb_X11_sponge_34 v1 v2 μ rec s.1 s.2.1 s.2.2) (X := fun s => ro_X K 34 [(0, .ref (ro_ad (kG K) 0)), (1, .int v1), (2, .int v2), (3, .int s.1), (4, .int s.2.1), (5, .int s.2.2)] [] μ) (OK := ok_X11_sponge_34 K v1 v2 μ) (fun rec s q hrec hb ho => bb_X11_sponge_34 hK hR  hrec hb ho) ro_FU s q hf hq
def fn_X11_sponge (v1 : Int32) (v2 : Int32) (μ : ro_Mem) : Option (Int32 × ro_Mem) :=
  if v1 < 1 then
  (some ((-1), μ))
  else
  (if 99 < v1 then
  (some ((-1), μ))
  else
  (if v2 < 0 then
  (some ((-1), μ))
  else
  (if v2 ≤ 1 then
  ((fn_X11_refresh μ).bind fun q5 =>
  (fl_X11_sponge_34 v1 v2 q5 (0, 0, 0)).bind fun q11 =>
  if v2 = 0 then
  (some (q11.1, q5))
  else
  (some (q11.2, q5)))
  else
  (some ((-1), μ)))))
theorem be_X11_sponge {K : ro_K} (hK : ro_C K RX11 cX11_sponge 7 6) (hR : ro_R K (some .int)) {v1 : Int32} {v2 : Int32}  {μ : ro_Mem} {out : Int32 × ro_Mem} (hf : fn_X11_sponge v1 v2 μ = some out) (hq : kQ K (some (.int out.1)) out.2) : ro_X K 0 [(0, .ref (ro_ad (kG K) 0)), (1, .int v1), (2, .int v2)] [] μ := by
  unfold fn_X11_sponge at hf
  refine ro_iload_n hK 1 rfl dX11_sponge_0 rfl ?_
  refine ro_iconst (v := 1) hK dX11_sponge_1 (by decide) ?_
  refine ro_icmp_lt hK 20 dX11_sponge_2 (by decide) (fun c1 => ?_) (fun c1 => ?_)
  · have hf := ro_it hf c1
    refine ro_iconst (v := (-1)) hK dX11_sponge_20 (by decide) ?_
    obtain rfl := Option.some.inj hf
    exact ro_iret hK hR dX11_sponge_21 hq
  · have hf := ro_ie hf c1
    refine ro_iload_n hK 1 rfl dX11_sponge_5 rfl ?_
    refine ro_bipush (v := 99) hK dX11_sponge_6 (by decide) ?_
    refine ro_icmp_gt hK 20 dX11_sponge_8 (by decide) (fun c2 => ?_) (fun c2 => ?_)
    · have hf := ro_it hf c2
      refine ro_iconst (v := (-1)) hK dX11_sponge_20 (by decide) ?_
      obtain rfl := Option.some.inj hf
      exact ro_iret hK hR dX11_sponge_21 hq
    · have hf := ro_ie hf c2
      refine ro_iload_n hK 2 rfl dX11_sponge_11 rfl ?_
      refine ro_if_lt hK 20 dX11_sponge_12 (by decide) (fun c3 => ?_) (fun c3 => ?_)
      · have hf := ro_it hf c3
        refine ro_iconst (v := (-1)) hK dX11_sponge_20 (by decide) ?_
        obtain rfl := Option.some.inj hf
        exact ro_iret hK hR dX11_sponge_21 hq
      · have hf := ro_ie hf c3
        refine ro_iload_n hK 2 rfl dX11_sponge_15 rfl ?_
        refine ro_iconst (v := 1) hK dX11_sponge_16 (by decide) ?_
        refine ro_icmp_le hK 22 dX11_sponge_17 (by decide) (fun c4 => ?_) (fun c4 => ?_)
        · have hf := ro_it hf c4
          refine ro_aload_n hK 0 rfl dX11_sponge_22 rfl ?_
          obtain ⟨q5, e6, hf⟩ := ro_bd hf
          refine ro_callvv hK [] ml_X11_176 mv_X11_refresh (mt_X11_refresh (kl K) (kG K)  e6) sh_0 ⟨_, rfl, rfl⟩ (by decide) rfl rfl (Nat.le_of_ble_eq_true rfl) dX11_sponge_23 ?_
          refine ro_iconst (v := 0) hK dX11_sponge_26 (by decide) ?_
          refine ro_istore_n (L' := [(3, .int 0), (0, .ref (ro_ad (kG K) 0)), (1, .int v1), (2, .int v2)]) hK dX11_sponge_27 rfl (by decide) rfl ?_
          refine ro_iconst (v := 0) hK dX11_sponge_28 (by decide) ?_
          refine ro_istore (L' := [(4, .int 0), (3, .int 0), (0, .ref (ro_ad (kG K) 0)), (1, .int v1), (2, .int v2)]) hK dX11_sponge_29 (by decide) rfl ?_
          refine ro_iconst (v := 0) hK dX11_sponge_31 (by decide) ?_
          refine ro_istore (L' := [(5, .int 0), (4, .int 0), (3, .int 0), (0, .ref (ro_ad (kG K) 0)), (1, .int v1), (2, .int v2)]) hK dX11_sponge_32 (by decide) rfl ?_
          obtain ⟨q11, e12, hf⟩ := ro_bd hf
          refine ro_sub (L' := [(0, .ref (ro_ad (kG K) 0)), (1, .int v1), (2, .int v2), (3, .int 0), (4, .int 0), (5, .int 0)]) [3, 4, 5, 2, 1, 0] rfl ?_
          refine lp_X11_sponge_34 hK hR  e12 ?_
          show ro_X K 70 [(2, .int v2), (3, .int q11.1), (4, .int q11.2)] [] q5
          refine ro_iload_n hK 0 rfl dX11_sponge_70 rfl ?_
          refine ro_if_ne hK 78 dX11_sponge_71 (by decide) (fun c13 => ?_) (fun c13 => ?_)
          · have hf := ro_ie hf c13
            refine ro_iload hK 2 rfl dX11_sponge_78 ?_
            obtain rfl := Option.some.inj hf
            exact ro_iret hK hR dX11_sponge_80 hq
          · have hf := ro_it hf c13
            refine ro_iload_n hK 1 rfl dX11_sponge_74 rfl ?_
            refine ro_goto hK 80 dX11_sponge_75 (by decide) ?_
            obtain rfl := Option.some.inj hf
            exact ro_iret hK hR dX11_sponge_80 hq
        · have hf := ro_ie hf c4
          refine ro_iconst (v := (-1)) hK dX11_sponge_20 (by decide) ?_
          obtain rfl := Option.some.inj hf
          exact ro_iret hK hR dX11_sponge_21 hq
theorem mt_X11_sponge (l : Launch) (G : ro_G) {v1 : Int32} {v2 : Int32}  {μ : ro_Mem} {out : Int32 × ro_Mem} (hf : fn_X11_sponge v1 v2 μ = some out) : ro_MX l G yX11_sponge cX11_sponge 7 (some .int) 6 [.ref (ro_ad G 0), .int v1, .int v2] μ (some (.int out.1)) out.2 := by
  refine ro_MX.of (by decide +kernel) (Nat.le_of_ble_eq_true rfl) (fun K hG hl hq hK hR => ?_)
  subst hG
  exact be_X11_sponge hK hR  hf hq
-- ===== X11_paidFor =====
theorem dX11_paidFor_0 : decode cX11_paidFor 0 = .ok (.iload_n 1, 1) := by decide +kernel
theorem dX11_paidFor_1 : decode cX11_paidFor 1 = .ok (.iconst 4, 1) := by decide +kernel
theorem dX11_paidFor_2 : decode cX11_paidFor 2 = .ok (.if_icmp .ne 7, 3) := by decide +kernel
theorem dX11_paidFor_5 : decode cX11_paidFor 5 = .ok (.iconst 0, 1) := by decide +kernel
theorem dX11_paidFor_6 : decode cX11_paidFor 6 = .ok (.goto 4, 3) := by decide +kernel
theorem dX11_paidFor_9 : decode cX11_paidFor 9 = .ok (.iload_n 1, 1) := by decide +kernel
theorem dX11_paidFor_10 : decode cX11_paidFor 10 = .ok (.istore_n 2, 1) := by decide +kernel
theorem dX11_paidFor_11 : decode cX11_paidFor 11 = .ok (.iload_n 1, 1) := by decide +kernel
theorem dX11_paidFor_12 : decode cX11_paidFor 12 = .ok (.iconst 4, 1) := by decide +kernel
theorem dX11_paidFor_13 : decode cX11_paidFor 13 = .ok (.if_icmp .ne 7, 3) := by decide +kernel
theorem dX11_paidFor_16 : decode cX11_paidFor 16 = .ok (.iconst 3, 1) := by decide +kernel
theorem dX11_paidFor_17 : decode cX11_paidFor 17 = .ok (.goto 4, 3) := by decide +kernel
theorem dX11_paidFor_20 : decode cX11_paidFor 20 = .ok (.iload_n 1, 1) := by decide +kernel
theorem dX11_paidFor_21 : decode cX11_paidFor 21 = .ok (.istore_n 3, 1) := by decide +kernel
theorem dX11_paidFor_22 : decode cX11_paidFor 22 = .ok (.iconst 0, 1) := by decide +kernel
theorem dX11_paidFor_23 : decode cX11_paidFor 23 = .ok (.istore 4, 2) := by decide +kernel
theorem dX11_paidFor_25 : decode cX11_paidFor 25 = .ok (.iload_n 2, 1) := by decide +kernel
theorem dX11_paidFor_26 : decode cX11_paidFor 26 = .ok (.istore 5, 2) := by decide +kernel
theorem dX11_paidFor_28 : decode cX11_paidFor 28 = .ok (.iload 5, 2) := by decide +kernel
theorem dX11_paidFor_30 : decode cX11_paidFor 30 = .ok (.iload_n 3, 1) := by decide +kernel
theorem dX11_paidFor_31 : decode cX11_paidFor 31 = .ok (.if_icmp .gt 88, 3) := by decide +kernel
theorem dX11_paidFor_34 : decode cX11_paidFor 34 = .ok (.iconst 0, 1) := by decide +kernel
theorem dX11_paidFor_35 : decode cX11_paidFor 35 = .ok (.istore 6, 2) := by decide +kernel
theorem dX11_paidFor_37 : decode cX11_paidFor 37 = .ok (.iload 6, 2) := by decide +kernel
theorem dX11_paidFor_39 : decode cX11_paidFor 39 = .ok (.bipush 10, 2) := by decide +kernel
theorem dX11_paidFor_41 : decode cX11_paidFor 41 = .ok (.if_icmp .ge 72, 3) := by decide +kernel
theorem dX11_paidFor_44 : decode cX11_paidFor 44 = .ok (.aload_n 0, 1) := by decide +kernel
theorem dX11_paidFor_45 : decode cX11_paidFor 45 = .ok (.getfield 10, 3) := by decide +kernel
theorem dX11_paidFor_48 : decode cX11_paidFor 48 = .ok (.getfield 89, 3) := by decide +kernel
theorem dX11_paidFor_51 : decode cX11_paidFor 51 = .ok (.getfield 131, 3) := by decide +kernel
theorem dX11_paidFor_54 : decode cX11_paidFor 54 = .ok (.iload 5, 2) := by decide +kernel
theorem dX11_paidFor_56 : decode cX11_paidFor 56 = .ok (.bipush 10, 2) := by decide +kernel
theorem dX11_paidFor_58 : decode cX11_paidFor 58 = .ok (.imul, 1) := by decide +kernel
theorem dX11_paidFor_59 : decode cX11_paidFor 59 = .ok (.iload 6, 2) := by decide +kernel
theorem dX11_paidFor_61 : decode cX11_paidFor 61 = .ok (.iadd, 1) := by decide +kernel
theorem dX11_paidFor_62 : decode cX11_paidFor 62 = .ok (.iaload, 1) := by decide +kernel
theorem dX11_paidFor_63 : decode cX11_paidFor 63 = .ok (.istore 7, 2) := by decide +kernel
theorem dX11_paidFor_65 : decode cX11_paidFor 65 = .ok (.iload 7, 2) := by decide +kernel
theorem dX11_paidFor_67 : decode cX11_paidFor 67 = .ok (.bipush 96, 2) := by decide +kernel
theorem dX11_paidFor_69 : decode cX11_paidFor 69 = .ok (.if_icmp .ge 38, 3) := by decide +kernel
theorem dX11_paidFor_72 : decode cX11_paidFor 72 = .ok (.aload_n 0, 1) := by decide +kernel
theorem dX11_paidFor_73 : decode cX11_paidFor 73 = .ok (.getfield 47, 3) := by decide +kernel
theorem dX11_paidFor_76 : decode cX11_paidFor 76 = .ok (.getfield 356, 3) := by decide +kernel
theorem dX11_paidFor_79 : decode cX11_paidFor 79 = .ok (.iload 5, 2) := by decide +kernel
theorem dX11_paidFor_81 : decode cX11_paidFor 81 = .ok (.bipush 96, 2) := by decide +kernel
theorem dX11_paidFor_83 : decode cX11_paidFor 83 = .ok (.imul, 1) := by decide +kernel
theorem dX11_paidFor_84 : decode cX11_paidFor 84 = .ok (.iload 7, 2) := by decide +kernel
theorem dX11_paidFor_86 : decode cX11_paidFor 86 = .ok (.iadd, 1) := by decide +kernel
theorem dX11_paidFor_87 : decode cX11_paidFor 87 = .ok (.iaload, 1) := by decide +kernel
theorem dX11_paidFor_88 : decode cX11_paidFor 88 = .ok (.ifCond .ne 19, 3) := by decide +kernel
theorem dX11_paidFor_91 : decode cX11_paidFor 91 = .ok (.iload 4, 2) := by decide +kernel
theorem dX11_paidFor_93 : decode cX11_paidFor 93 = .ok (.aload_n 0, 1) := by decide +kernel
theorem dX11_paidFor_94 : decode cX11_paidFor 94 = .ok (.getfield 10, 3) := by decide +kernel
theorem dX11_paidFor_97 : decode cX11_paidFor 97 = .ok (.iload 7, 2) := by decide +kernel
theorem dX11_paidFor_99 : decode cX11_paidFor 99 = .ok (.iload 5, 2) := by decide +kernel
theorem dX11_paidFor_101 : decode cX11_paidFor 101 = .ok (.invokevirtual 381, 3) := by decide +kernel
theorem dX11_paidFor_104 : decode cX11_paidFor 104 = .ok (.iadd, 1) := by decide +kernel
theorem dX11_paidFor_105 : decode cX11_paidFor 105 = .ok (.istore 4, 2) := by decide +kernel
theorem dX11_paidFor_107 : decode cX11_paidFor 107 = .ok (.iinc 6 1, 3) := by decide +kernel
theorem dX11_paidFor_110 : decode cX11_paidFor 110 = .ok (.goto (-73), 3) := by decide +kernel
theorem dX11_paidFor_113 : decode cX11_paidFor 113 = .ok (.iinc 5 1, 3) := by decide +kernel
theorem dX11_paidFor_116 : decode cX11_paidFor 116 = .ok (.goto (-88), 3) := by decide +kernel
theorem dX11_paidFor_119 : decode cX11_paidFor 119 = .ok (.iload 4, 2) := by decide +kernel
theorem dX11_paidFor_121 : decode cX11_paidFor 121 = .ok (.ireturn, 1) := by decide +kernel
def ok_X11_paidFor_28 (K : ro_K) (v3 : Int32) : (Int32 × ro_Mem) → Prop := fun e => ro_X K 119 [(4, .int e.1)] [] e.2
def ok_X11_paidFor_37 (K : ro_K) (v3 : Int32) (v5 : Int32) : (Int32 × ro_Mem) → Prop := fun e => ro_X K 113 [(0, .ref (ro_ad (kG K) 0)), (3, .int v3), (4, .int e.1), (5, .int v5)] [] e.2
def fb_X11_paidFor_37 (v3 : Int32) (v5 : Int32) (rec : (Int32 × Int32 × ro_Mem) → Option (Int32 × ro_Mem)) (v4 : Int32) (v6 : Int32) (μ : ro_Mem) : Option (Int32 × ro_Mem) :=
  if 10 ≤ v6 then
  (some (v4, μ))
  else
  (if ro_in ((v5 * 10) + v6) 40 then
  (ro_lt (μ 11 ((v5 * 10) + v6).toNatClampNeg) fun z6 =>
  if 96 ≤ z6 then
  (rec (v4, v6 + 1, μ))
  else
  (if ro_in ((v5 * 96) + z6) 384 then
  (if (μ 65 ((v5 * 96) + z6).toNatClampNeg) = 0 then
  ((fn_X9_payFor z6 v5 μ).bind fun q11 =>
  ro_lt (v4 + q11.1) fun z13 =>
  rec (z13, v6 + 1, q11.2))
  else
  (rec (v4, v6 + 1, μ))) else none)) else none)
theorem bb_X11_paidFor_37 {K : ro_K} (hK : ro_C K RX11 cX11_paidFor 8 4) (hR : ro_R K (some .int)) {v3 : Int32} {v5 : Int32}  {μ : ro_Mem} {rec : (Int32 × Int32 × ro_Mem) → Option (Int32 × ro_Mem)} {v4 : Int32} {v6 : Int32} {q : (Int32 × ro_Mem)} (hrec : ∀ (s : Int32 × Int32 × ro_Mem) (q : (Int32 × ro_Mem)), rec s = some q → ok_X11_paidFor_37 K v3 v5 q → ro_X K 37 [(0, .ref (ro_ad (kG K) 0)), (3, .int v3), (4, .int s.1), (5, .int v5), (6, .int s.2.1)] [] s.2.2) (hf : fb_X11_paidFor_37 v3 v5 rec v4 v6 μ = some q) (hq : ok_X11_paidFor_37 K v3 v5 q) : ro_X K 37 [(0, .ref (ro_ad (kG K) 0)), (3, .int v3), (4, .int v4), (5, .int v5), (6, .int v6)] [] μ := by
  unfold fb_X11_paidFor_37 at hf
  refine ro_iload hK 4 rfl dX11_paidFor_37 ?_
  refine ro_bipush (v := 10) hK dX11_paidFor_39 (by decide) ?_
  refine ro_icmp_ge hK 113 dX11_paidFor_41 (by decide) (fun c4 => ?_) (fun c4 => ?_)
  · have hf := ro_it hf c4
    refine ro_sub (L' := [(0, .ref (ro_ad (kG K) 0)), (3, .int v3), (4, .int v4), (5, .int v5)]) [0, 1, 2, 3] rfl ?_
    obtain rfl := Option.some.inj hf
    exact hq
  · have hf := ro_ie hf c4
    refine ro_aload_n hK 0 rfl dX11_paidFor_44 rfl ?_
    refine ro_getr hK fl_X11_10 sh_0 dX11_paidFor_45 ?_
    refine ro_getr hK fl_X11_89 sh_1 dX11_paidFor_48 ?_
    refine ro_getr hK fl_X11_131 sh_2 dX11_paidFor_51 ?_
    refine ro_iload hK 3 rfl dX11_paidFor_54 ?_
    refine ro_bipush (v := 10) hK dX11_paidFor_56 (by decide) ?_
    refine ro_imul hK dX11_paidFor_58 ?_
    refine ro_iload hK 4 rfl dX11_paidFor_59 ?_
    refine ro_iadd hK dX11_paidFor_61 ?_
    obtain ⟨g5, hf⟩ := ro_gd hf
    refine ro_iald hK sh_11 g5 dX11_paidFor_62 ?_
    obtain ⟨z6, e7, hf⟩ := ro_ld hf
    refine ro_iv e7 ?_
    refine ro_istore (L' := [(7, .int z6), (0, .ref (ro_ad (kG K) 0)), (3, .int v3), (4, .int v4), (5, .int v5), (6, .int v6)]) hK dX11_paidFor_63 (by decide) rfl ?_
    refine ro_iload hK 0 rfl dX11_paidFor_65 ?_
    refine ro_bipush (v := 96) hK dX11_paidFor_67 (by decide) ?_
    refine ro_icmp_ge hK 107 dX11_paidFor_69 (by decide) (fun c8 => ?_) (fun c8 => ?_)
    · have hf := ro_it hf c8
      refine ro_iinc (v := v6 + 1) (L' := [(6, .int (v6 + 1)), (7, .int z6), (0, .ref (ro_ad (kG K) 0)), (3, .int v3), (4, .int v4), (5, .int v5)]) hK 5 rfl dX11_paidFor_107 rfl (by decide) rfl ?_
      refine ro_goto hK 37 dX11_paidFor_110 (by decide) ?_
      refine ro_sub (L' := [(0, .ref (ro_ad (kG K) 0)), (3, .int v3), (4, .int v4), (5, .int v5), (6, .int (v6 + 1))]) [2, 3, 4, 5, 0] rfl ?_
      exact hrec (v4, v6 + 1, μ) _ hf hq
    · have hf := ro_ie hf c8
      refine ro_aload_n hK 1 rfl dX11_paidFor_72 rfl ?_
      refine ro_getr hK fl_X11_47 sh_0 dX11_paidFor_73 ?_
      refine ro_getr hK fl_X11_356 sh_62 dX11_paidFor_76 ?_
      refine ro_iload hK 4 rfl dX11_paidFor_79 ?_
      refine ro_bipush (v := 96) hK dX11_paidFor_81 (by decide) ?_
      refine ro_imul hK dX11_paidFor_83 ?_
      refine ro_iload hK 0 rfl dX11_paidFor_84 ?_
      refine ro_iadd hK dX11_paidFor_86 ?_
      obtain ⟨g9, hf⟩ := ro_gd hf
      refine ro_iald hK sh_65 g9 dX11_paidFor_87 ?_
      refine ro_if_ne hK 107 dX11_paidFor_88 (by decide) (fun c10 => ?_) (fun c10 => ?_)
      · have hf := ro_ie hf c10
        refine ro_iinc (v := v6 + 1) (L' := [(6, .int (v6 + 1)), (7, .int z6), (0, .ref (ro_ad (kG K) 0)), (3, .int v3), (4, .int v4), (5, .int v5)]) hK 5 rfl dX11_paidFor_107 rfl (by decide) rfl ?_
        refine ro_goto hK 37 dX11_paidFor_110 (by decide) ?_
        refine ro_sub (L' := [(0, .ref (ro_ad (kG K) 0)), (3, .int v3), (4, .int v4), (5, .int v5), (6, .int (v6 + 1))]) [2, 3, 4, 5, 0] rfl ?_
        exact hrec (v4, v6 + 1, μ) _ hf hq
      · have hf := ro_it hf c10
        refine ro_iload hK 3 rfl dX11_paidFor_91 ?_
        refine ro_aload_n hK 1 rfl dX11_paidFor_93 rfl ?_
        refine ro_getr hK fl_X11_10 sh_0 dX11_paidFor_94 ?_
        refine ro_iload hK 0 rfl dX11_paidFor_97 ?_
        refine ro_iload hK 4 rfl dX11_paidFor_99 ?_
        obtain ⟨q11, e12, hf⟩ := ro_bd hf
        refine ro_callvi hK [.int z6, .int v5] ml_X11_381 mv_X9_payFor (mt_X9_payFor (kl K) (kG K)  e12) sh_1 ⟨_, rfl, rfl⟩ (by decide) rfl rfl (Nat.le_of_ble_eq_true rfl) dX11_paidFor_101 ?_
        refine ro_iadd hK dX11_paidFor_104 ?_
        obtain ⟨z13, e14, hf⟩ := ro_ld hf
        refine ro_iv e14 ?_
        refine ro_istore (L' := [(4, .int z13), (7, .int z6), (0, .ref (ro_ad (kG K) 0)), (3, .int v3), (5, .int v5), (6, .int v6)]) hK dX11_paidFor_105 (by decide) rfl ?_
        refine ro_iinc (v := v6 + 1) (L' := [(6, .int (v6 + 1)), (4, .int z13), (7, .int z6), (0, .ref (ro_ad (kG K) 0)), (3, .int v3), (5, .int v5)]) hK 5 rfl dX11_paidFor_107 rfl (by decide) rfl ?_
        refine ro_goto hK 37 dX11_paidFor_110 (by decide) ?_
        refine ro_sub (L' := [(0, .ref (ro_ad (kG K) 0)), (3, .int v3), (4, .int z13), (5, .int v5), (6, .int (v6 + 1))]) [3, 4, 1, 5, 0] rfl ?_
        exact hrec (z13, v6 + 1, q11.2) _ hf hq
def fl_X11_paidFor_37 (v3 : Int32) (v5 : Int32) : (Int32 × Int32 × ro_Mem) → Option (Int32 × ro_Mem) :=
  ro_loop (fun rec s => fb_X11_paidFor_37 v3 v5 rec s.1 s.2.1 s.2.2) ro_FU
theorem lp_X11_paidFor_37 {K : ro_K} (hK : ro_C K RX11 cX11_paidFor 8 4) (hR : ro_R K (some .int)) {v3 : Int32} {v5 : Int32}  {s : Int32 × Int32 × ro_Mem} {q : (Int32 × ro_Mem)} (hf : fl_X11_paidFor_37 v3 v5 s = some q) (hq : ok_X11_paidFor_37 K v3 v5 q) : ro_X K 37 [(0, .ref (ro_ad (kG K) 0)), (3, .int v3), (4, .int s.1), (5, .int v5), (6, .int s.2.1)] [] s.2.2 :=
  ro_loopX (b := fun rec s => fb_X11_paidFor_37 v3 v5 rec s.1 s.2.1 s.2.2) (X := fun s => ro_X K 37 [(0, .ref (ro_ad (kG K) 0)), (3, .int v3), (4, .int s.1), (5, .int v5), (6, .int s.2.1)] [] s.2.2) (OK := ok_X11_paidFor_37 K v3 v5) (fun rec s q hrec hb ho => bb_X11_paidFor_37 hK hR  hrec hb ho) ro_FU s q hf hq
def fb_X11_paidFor_28 (v3 : Int32) (rec : (Int32 × Int32 × ro_Mem) → Option (Int32 × ro_Mem)) (v4 : Int32) (v5 : Int32) (μ : ro_Mem) : Option (Int32 × ro_Mem) :=
  if v3 < v5 then
  (some (v4, μ))
  else
  ((fl_X11_paidFor_37 v3 v5 (v4, 0, μ)).bind fun q15 =>
  rec (q15.1, v5 + 1, q15.2))
theorem bb_X11_paidFor_28 {K : ro_K} (hK : ro_C K RX11 cX11_paidFor 8 4) (hR : ro_R K (some .int)) {v3 : Int32}  {μ : ro_Mem} {rec : (Int32 × Int32 × ro_Mem) → Option (Int32 × ro_Mem)} {v4 : Int32} {v5 : Int32} {q : (Int32 × ro_Mem)} (hrec : ∀ (s : Int32 × Int32 × ro_Mem) (q : (Int32 × ro_Mem)), rec s = some q → ok_X11_paidFor_28 K v3 q → ro_X K 28 [(0, .ref (ro_ad (kG K) 0)), (3, .int v3), (4, .int s.1), (5, .int s.2.1)] [] s.2.2) (hf : fb_X11_paidFor_28 v3 rec v4 v5 μ = some q) (hq : ok_X11_paidFor_28 K v3 q) : ro_X K 28 [(0, .ref (ro_ad (kG K) 0)), (3, .int v3), (4, .int v4), (5, .int v5)] [] μ := by
  unfold fb_X11_paidFor_28 at hf
  refine ro_iload hK 3 rfl dX11_paidFor_28 ?_
  refine ro_iload_n hK 1 rfl dX11_paidFor_30 rfl ?_
  refine ro_icmp_gt hK 119 dX11_paidFor_31 (by decide) (fun c3 => ?_) (fun c3 => ?_)
  · have hf := ro_it hf c3
    refine ro_sub (L' := [(4, .int v4)]) [2] rfl ?_
    obtain rfl := Option.some.inj hf
    exact hq
  · have hf := ro_ie hf c3
    refine ro_iconst (v := 0) hK dX11_paidFor_34 (by decide) ?_
    refine ro_istore (L' := [(6, .int 0), (0, .ref (ro_ad (kG K) 0)), (3, .int v3), (4, .int v4), (5, .int v5)]) hK dX11_paidFor_35 (by decide) rfl ?_
    obtain ⟨q15, e16, hf⟩ := ro_bd hf
    refine ro_sub (L' := [(0, .ref (ro_ad (kG K) 0)), (3, .int v3), (4, .int v4), (5, .int v5), (6, .int 0)]) [1, 2, 3, 4, 0] rfl ?_
    refine lp_X11_paidFor_37 hK hR  e16 ?_
    show ro_X K 113 [(0, .ref (ro_ad (kG K) 0)), (3, .int v3), (4, .int q15.1), (5, .int v5)] [] q15.2
    refine ro_iinc (v := v5 + 1) (L' := [(5, .int (v5 + 1)), (0, .ref (ro_ad (kG K) 0)), (3, .int v3), (4, .int q15.1)]) hK 3 rfl dX11_paidFor_113 rfl (by decide) rfl ?_
    refine ro_goto hK 28 dX11_paidFor_116 (by decide) ?_
    refine ro_sub (L' := [(0, .ref (ro_ad (kG K) 0)), (3, .int v3), (4, .int q15.1), (5, .int (v5 + 1))]) [1, 2, 3, 0] rfl ?_
    exact hrec (q15.1, v5 + 1, q15.2) _ hf hq
def fl_X11_paidFor_28 (v3 : Int32) : (Int32 × Int32 × ro_Mem) → Option (Int32 × ro_Mem) :=
  ro_loop (fun rec s => fb_X11_paidFor_28 v3 rec s.1 s.2.1 s.2.2) ro_FU
theorem lp_X11_paidFor_28 {K : ro_K} (hK : ro_C K RX11 cX11_paidFor 8 4) (hR : ro_R K (some .int)) {v3 : Int32}  {s : Int32 × Int32 × ro_Mem} {q : (Int32 × ro_Mem)} (hf : fl_X11_paidFor_28 v3 s = some q) (hq : ok_X11_paidFor_28 K v3 q) : ro_X K 28 [(0, .ref (ro_ad (kG K) 0)), (3, .int v3), (4, .int s.1), (5, .int s.2.1)] [] s.2.2 :=
  ro_loopX (b := fun rec s => fb_X11_paidFor_28 v3 rec s.1 s.2.1 s.2.2) (X := fun s => ro_X K 28 [(0, .ref (ro_ad (kG K) 0)), (3, .int v3), (4, .int s.1), (5, .int s.2.1)] [] s.2.2) (OK := ok_X11_paidFor_28 K v3) (fun rec s q hrec hb ho => bb_X11_paidFor_28 hK hR  hrec hb ho) ro_FU s q hf hq
def fj_X11_paidFor_21 (v2 : Int32) (t0 : Int32) (μ : ro_Mem) : Option (Int32 × ro_Mem) :=
  (fl_X11_paidFor_28 t0 (0, v2, μ)).bind fun q17 =>
  some (q17.1, q17.2)
theorem bj_X11_paidFor_21 {K : ro_K} (hK : ro_C K RX11 cX11_paidFor 8 4) (hR : ro_R K (some .int)) {v2 : Int32} {t0 : Int32}   {μ : ro_Mem}  {out : Int32 × ro_Mem} (hf : fj_X11_paidFor_21 v2 t0 μ = some out) (hq : kQ K (some (.int out.1)) out.2) : ro_X K 21 [(0, .ref (ro_ad (kG K) 0)), (2, .int v2)] [.int t0] μ := by
  unfold fj_X11_paidFor_21 at hf
  refine ro_istore_n (L' := [(3, .int t0), (0, .ref (ro_ad (kG K) 0)), (2, .int v2)]) hK dX11_paidFor_21 rfl (by decide) rfl ?_
  refine ro_iconst (v := 0) hK dX11_paidFor_22 (by decide) ?_
  refine ro_istore (L' := [(4, .int 0), (3, .int t0), (0, .ref (ro_ad (kG K) 0)), (2, .int v2)]) hK dX11_paidFor_23 (by decide) rfl ?_
  refine ro_iload_n hK 3 rfl dX11_paidFor_25 rfl ?_
  refine ro_istore (L' := [(5, .int v2), (4, .int 0), (3, .int t0), (0, .ref (ro_ad (kG K) 0)), (2, .int v2)]) hK dX11_paidFor_26 (by decide) rfl ?_
  obtain ⟨q17, e18, hf⟩ := ro_bd hf
  refine ro_sub (L' := [(0, .ref (ro_ad (kG K) 0)), (3, .int t0), (4, .int 0), (5, .int v2)]) [3, 2, 1, 0] rfl ?_
  refine lp_X11_paidFor_28 hK hR  e18 ?_
  show ro_X K 119 [(4, .int q17.1)] [] q17.2
  refine ro_iload hK 0 rfl dX11_paidFor_119 ?_
  obtain rfl := Option.some.inj hf
  exact ro_iret hK hR dX11_paidFor_121 hq
def fj_X11_paidFor_10 (v1 : Int32) (t0 : Int32) (μ : ro_Mem) : Option (Int32 × ro_Mem) :=
  if v1 = 4 then
  (fj_X11_paidFor_21 t0 3 μ)
  else
  (fj_X11_paidFor_21 t0 v1 μ)
theorem bj_X11_paidFor_10 {K : ro_K} (hK : ro_C K RX11 cX11_paidFor 8 4) (hR : ro_R K (some .int)) {v1 : Int32} {t0 : Int32}   {μ : ro_Mem}  {out : Int32 × ro_Mem} (hf : fj_X11_paidFor_10 v1 t0 μ = some out) (hq : kQ K (some (.int out.1)) out.2) : ro_X K 10 [(0, .ref (ro_ad (kG K) 0)), (1, .int v1)] [.int t0] μ := by
  unfold fj_X11_paidFor_10 at hf
  refine ro_istore_n (L' := [(2, .int t0), (0, .ref (ro_ad (kG K) 0)), (1, .int v1)]) hK dX11_paidFor_10 rfl (by decide) rfl ?_
  refine ro_iload_n hK 2 rfl dX11_paidFor_11 rfl ?_
  refine ro_iconst (v := 4) hK dX11_paidFor_12 (by decide) ?_
  refine ro_icmp_ne hK 20 dX11_paidFor_13 (by decide) (fun c2 => ?_) (fun c2 => ?_)
  · have hf := ro_ie hf c2
    refine ro_iload_n hK 2 rfl dX11_paidFor_20 rfl ?_
    refine ro_sub (L' := [(0, .ref (ro_ad (kG K) 0)), (2, .int t0)]) [1, 0] rfl ?_
    exact bj_X11_paidFor_21 hK hR  hf hq
  · have hf := ro_it hf c2
    refine ro_iconst (v := 3) hK dX11_paidFor_16 (by decide) ?_
    refine ro_goto hK 21 dX11_paidFor_17 (by decide) ?_
    refine ro_sub (L' := [(0, .ref (ro_ad (kG K) 0)), (2, .int t0)]) [1, 0] rfl ?_
    exact bj_X11_paidFor_21 hK hR  hf hq
def fn_X11_paidFor (v1 : Int32) (μ : ro_Mem) : Option (Int32 × ro_Mem) :=
  if v1 = 4 then
  (fj_X11_paidFor_10 v1 0 μ)
  else
  (fj_X11_paidFor_10 v1 v1 μ)
theorem be_X11_paidFor {K : ro_K} (hK : ro_C K RX11 cX11_paidFor 8 4) (hR : ro_R K (some .int)) {v1 : Int32}  {μ : ro_Mem} {out : Int32 × ro_Mem} (hf : fn_X11_paidFor v1 μ = some out) (hq : kQ K (some (.int out.1)) out.2) : ro_X K 0 [(0, .ref (ro_ad (kG K) 0)), (1, .int v1)] [] μ := by
  unfold fn_X11_paidFor at hf
  refine ro_iload_n hK 1 rfl dX11_paidFor_0 rfl ?_
  refine ro_iconst (v := 4) hK dX11_paidFor_1 (by decide) ?_
  refine ro_icmp_ne hK 9 dX11_paidFor_2 (by decide) (fun c1 => ?_) (fun c1 => ?_)
  · have hf := ro_ie hf c1
    refine ro_iload_n hK 1 rfl dX11_paidFor_9 rfl ?_
    exact bj_X11_paidFor_10 hK hR  hf hq
  · have hf := ro_it hf c1
    refine ro_iconst (v := 0) hK dX11_paidFor_5 (by decide) ?_
    refine ro_goto hK 10 dX11_paidFor_6 (by decide) ?_
    exact bj_X11_paidFor_10 hK hR  hf hq
theorem mt_X11_paidFor (l : Launch) (G : ro_G) {v1 : Int32}  {μ : ro_Mem} {out : Int32 × ro_Mem} (hf : fn_X11_paidFor v1 μ = some out) : ro_MX l G yX11_paidFor cX11_paidFor 8 (some .int) 4 [.ref (ro_ad G 0), .int v1] μ (some (.int out.1)) out.2 := by
  refine ro_MX.of (by decide +kernel) (Nat.le_of_ble_eq_true rfl) (fun K hG hl hq hK hR => ?_)
  subst hG
  exact be_X11_paidFor hK hR  hf hq
-- ===== X11_paid =====
theorem dX11_paid_0 : decode cX11_paid 0 = .ok (.iload_n 1, 1) := by decide +kernel
theorem dX11_paid_1 : decode cX11_paid 1 = .ok (.invokestatic 182, 3) := by decide +kernel
theorem dX11_paid_4 : decode cX11_paid 4 = .ok (.ifCond .ne 5, 3) := by decide +kernel
theorem dX11_paid_7 : decode cX11_paid 7 = .ok (.iconst (-1), 1) := by decide +kernel
theorem dX11_paid_8 : decode cX11_paid 8 = .ok (.ireturn, 1) := by decide +kernel
theorem dX11_paid_9 : decode cX11_paid 9 = .ok (.aload_n 0, 1) := by decide +kernel
theorem dX11_paid_10 : decode cX11_paid 10 = .ok (.invokevirtual 176, 3) := by decide +kernel
theorem dX11_paid_13 : decode cX11_paid 13 = .ok (.aload_n 0, 1) := by decide +kernel
theorem dX11_paid_14 : decode cX11_paid 14 = .ok (.iload_n 1, 1) := by decide +kernel
theorem dX11_paid_15 : decode cX11_paid 15 = .ok (.invokevirtual 293, 3) := by decide +kernel
theorem dX11_paid_18 : decode cX11_paid 18 = .ok (.ireturn, 1) := by decide +kernel
def fn_X11_paid (v1 : Int32) (μ : ro_Mem) : Option (Int32 × ro_Mem) :=
  (fn_X11_isActOrAll v1).bind fun q1 =>
  if q1 = 0 then
  (some ((-1), μ))
  else
  ((fn_X11_refresh μ).bind fun q4 =>
  (fn_X11_paidFor v1 q4).bind fun q6 =>
  some (q6.1, q6.2))
theorem be_X11_paid {K : ro_K} (hK : ro_C K RX11 cX11_paid 2 6) (hR : ro_R K (some .int)) {v1 : Int32}  {μ : ro_Mem} {out : Int32 × ro_Mem} (hf : fn_X11_paid v1 μ = some out) (hq : kQ K (some (.int out.1)) out.2) : ro_X K 0 [(0, .ref (ro_ad (kG K) 0)), (1, .int v1)] [] μ := by
  unfold fn_X11_paid at hf
  refine ro_iload_n hK 1 rfl dX11_paid_0 rfl ?_
  obtain ⟨q1, e2, hf⟩ := ro_bd hf
  refine ro_callsi hK [.int v1] ml_X11_182 ms_X11_isActOrAll (mt_X11_isActOrAll (kl K) (kG K)  e2) (by decide) rfl rfl (Nat.le_of_ble_eq_true rfl) dX11_paid_1 ?_
  refine ro_if_ne hK 9 dX11_paid_4 (by decide) (fun c3 => ?_) (fun c3 => ?_)
  · have hf := ro_ie hf c3
    refine ro_aload_n hK 0 rfl dX11_paid_9 rfl ?_
    obtain ⟨q4, e5, hf⟩ := ro_bd hf
    refine ro_callvv hK [] ml_X11_176 mv_X11_refresh (mt_X11_refresh (kl K) (kG K)  e5) sh_0 ⟨_, rfl, rfl⟩ (by decide) rfl rfl (Nat.le_of_ble_eq_true rfl) dX11_paid_10 ?_
    refine ro_aload_n hK 0 rfl dX11_paid_13 rfl ?_
    refine ro_iload_n hK 1 rfl dX11_paid_14 rfl ?_
    obtain ⟨q6, e7, hf⟩ := ro_bd hf
    refine ro_callvi hK [.int v1] ml_X11_293 mv_X11_paidFor (mt_X11_paidFor (kl K) (kG K)  e7) sh_0 ⟨_, rfl, rfl⟩ (by decide) rfl rfl (Nat.le_of_ble_eq_true rfl) dX11_paid_15 ?_
    obtain rfl := Option.some.inj hf
    exact ro_iret hK hR dX11_paid_18 hq
  · have hf := ro_it hf c3
    refine ro_iconst (v := (-1)) hK dX11_paid_7 (by decide) ?_
    obtain rfl := Option.some.inj hf
    exact ro_iret hK hR dX11_paid_8 hq
theorem mt_X11_paid (l : Launch) (G : ro_G) {v1 : Int32}  {μ : ro_Mem} {out : Int32 × ro_Mem} (hf : fn_X11_paid v1 μ = some out) : ro_MX l G yX11_paid cX11_paid 2 (some .int) 6 [.ref (ro_ad G 0), .int v1] μ (some (.int out.1)) out.2 := by
  refine ro_MX.of (by decide +kernel) (Nat.le_of_ble_eq_true rfl) (fun K hG hl hq hK hR => ?_)
  subst hG
  exact be_X11_paid hK hR  hf hq
-- ===== X11_perform =====
theorem dX11_perform_0 : decode cX11_perform 0 = .ok (.aload_n 0, 1) := by decide +kernel
theorem dX11_perform_1 : decode cX11_perform 1 = .ok (.getfield 10, 3) := by decide +kernel
theorem dX11_perform_4 : decode cX11_perform 4 = .ok (.getfield 147, 3) := by decide +kernel
theorem dX11_perform_7 : decode cX11_perform 7 = .ok (.getfield 158, 3) := by decide +kernel
theorem dX11_perform_10 : decode cX11_perform 10 = .ok (.ifCond .ne 5, 3) := by decide +kernel
theorem dX11_perform_13 : decode cX11_perform 13 = .ok (.iconst (-1), 1) := by decide +kernel
theorem dX11_perform_14 : decode cX11_perform 14 = .ok (.ireturn, 1) := by decide +kernel
theorem dX11_perform_15 : decode cX11_perform 15 = .ok (.aload_n 0, 1) := by decide +kernel
theorem dX11_perform_16 : decode cX11_perform 16 = .ok (.invokevirtual 176, 3) := by decide +kernel
theorem dX11_perform_19 : decode cX11_perform 19 = .ok (.aload_n 0, 1) := by decide +kernel
theorem dX11_perform_20 : decode cX11_perform 20 = .ok (.getfield 10, 3) := by decide +kernel
theorem dX11_perform_23 : decode cX11_perform 23 = .ok (.getfield 89, 3) := by decide +kernel
theorem dX11_perform_26 : decode cX11_perform 26 = .ok (.astore_n 1, 1) := by decide +kernel
theorem dX11_perform_27 : decode cX11_perform 27 = .ok (.aload_n 1, 1) := by decide +kernel
theorem dX11_perform_28 : decode cX11_perform 28 = .ok (.dup, 1) := by decide +kernel
theorem dX11_perform_29 : decode cX11_perform 29 = .ok (.getfield 296, 3) := by decide +kernel
theorem dX11_perform_32 : decode cX11_perform 32 = .ok (.aload_n 0, 1) := by decide +kernel
theorem dX11_perform_33 : decode cX11_perform 33 = .ok (.iconst 4, 1) := by decide +kernel
theorem dX11_perform_34 : decode cX11_perform 34 = .ok (.invokevirtual 293, 3) := by decide +kernel
theorem dX11_perform_37 : decode cX11_perform 37 = .ok (.iadd, 1) := by decide +kernel
theorem dX11_perform_38 : decode cX11_perform 38 = .ok (.putfield 296, 3) := by decide +kernel
theorem dX11_perform_41 : decode cX11_perform 41 = .ok (.iconst 0, 1) := by decide +kernel
theorem dX11_perform_42 : decode cX11_perform 42 = .ok (.istore_n 2, 1) := by decide +kernel
theorem dX11_perform_43 : decode cX11_perform 43 = .ok (.iload_n 2, 1) := by decide +kernel
theorem dX11_perform_44 : decode cX11_perform 44 = .ok (.bipush 10, 2) := by decide +kernel
theorem dX11_perform_46 : decode cX11_perform 46 = .ok (.if_icmp .ge 36, 3) := by decide +kernel
theorem dX11_perform_49 : decode cX11_perform 49 = .ok (.aload_n 1, 1) := by decide +kernel
theorem dX11_perform_50 : decode cX11_perform 50 = .ok (.getfield 299, 3) := by decide +kernel
theorem dX11_perform_53 : decode cX11_perform 53 = .ok (.iload_n 2, 1) := by decide +kernel
theorem dX11_perform_54 : decode cX11_perform 54 = .ok (.dup2, 1) := by decide +kernel
theorem dX11_perform_55 : decode cX11_perform 55 = .ok (.iaload, 1) := by decide +kernel
theorem dX11_perform_56 : decode cX11_perform 56 = .ok (.aload_n 1, 1) := by decide +kernel
theorem dX11_perform_57 : decode cX11_perform 57 = .ok (.iload_n 2, 1) := by decide +kernel
theorem dX11_perform_58 : decode cX11_perform 58 = .ok (.invokevirtual 125, 3) := by decide +kernel
theorem dX11_perform_61 : decode cX11_perform 61 = .ok (.ifCond .eq 12, 3) := by decide +kernel
theorem dX11_perform_64 : decode cX11_perform 64 = .ok (.aload_n 0, 1) := by decide +kernel
theorem dX11_perform_65 : decode cX11_perform 65 = .ok (.iload_n 2, 1) := by decide +kernel
theorem dX11_perform_66 : decode cX11_perform 66 = .ok (.iconst 4, 1) := by decide +kernel
theorem dX11_perform_67 : decode cX11_perform 67 = .ok (.invokevirtual 188, 3) := by decide +kernel
theorem dX11_perform_70 : decode cX11_perform 70 = .ok (.goto 4, 3) := by decide +kernel
theorem dX11_perform_73 : decode cX11_perform 73 = .ok (.iconst 0, 1) := by decide +kernel
theorem dX11_perform_74 : decode cX11_perform 74 = .ok (.iadd, 1) := by decide +kernel
theorem dX11_perform_75 : decode cX11_perform 75 = .ok (.iastore, 1) := by decide +kernel
theorem dX11_perform_76 : decode cX11_perform 76 = .ok (.iinc 2 1, 3) := by decide +kernel
theorem dX11_perform_79 : decode cX11_perform 79 = .ok (.goto (-36), 3) := by decide +kernel
theorem dX11_perform_82 : decode cX11_perform 82 = .ok (.iconst 0, 1) := by decide +kernel
theorem dX11_perform_83 : decode cX11_perform 83 = .ok (.istore_n 2, 1) := by decide +kernel
theorem dX11_perform_84 : decode cX11_perform 84 = .ok (.iload_n 2, 1) := by decide +kernel
theorem dX11_perform_85 : decode cX11_perform 85 = .ok (.bipush 16, 2) := by decide +kernel
theorem dX11_perform_87 : decode cX11_perform 87 = .ok (.if_icmp .ge 27, 3) := by decide +kernel
theorem dX11_perform_90 : decode cX11_perform 90 = .ok (.aload_n 1, 1) := by decide +kernel
theorem dX11_perform_91 : decode cX11_perform 91 = .ok (.getfield 302, 3) := by decide +kernel
theorem dX11_perform_94 : decode cX11_perform 94 = .ok (.iload_n 2, 1) := by decide +kernel
theorem dX11_perform_95 : decode cX11_perform 95 = .ok (.dup2, 1) := by decide +kernel
theorem dX11_perform_96 : decode cX11_perform 96 = .ok (.iaload, 1) := by decide +kernel
theorem dX11_perform_97 : decode cX11_perform 97 = .ok (.aload_n 0, 1) := by decide +kernel
theorem dX11_perform_98 : decode cX11_perform 98 = .ok (.getfield 47, 3) := by decide +kernel
theorem dX11_perform_101 : decode cX11_perform 101 = .ok (.getfield 194, 3) := by decide +kernel
theorem dX11_perform_104 : decode cX11_perform 104 = .ok (.iload_n 2, 1) := by decide +kernel
theorem dX11_perform_105 : decode cX11_perform 105 = .ok (.iaload, 1) := by decide +kernel
theorem dX11_perform_106 : decode cX11_perform 106 = .ok (.iadd, 1) := by decide +kernel
theorem dX11_perform_107 : decode cX11_perform 107 = .ok (.iastore, 1) := by decide +kernel
theorem dX11_perform_108 : decode cX11_perform 108 = .ok (.iinc 2 1, 3) := by decide +kernel
theorem dX11_perform_111 : decode cX11_perform 111 = .ok (.goto (-27), 3) := by decide +kernel
theorem dX11_perform_114 : decode cX11_perform 114 = .ok (.iconst 0, 1) := by decide +kernel
theorem dX11_perform_115 : decode cX11_perform 115 = .ok (.istore_n 2, 1) := by decide +kernel
theorem dX11_perform_116 : decode cX11_perform 116 = .ok (.iload_n 2, 1) := by decide +kernel
theorem dX11_perform_117 : decode cX11_perform 117 = .ok (.bipush 32, 2) := by decide +kernel
theorem dX11_perform_119 : decode cX11_perform 119 = .ok (.if_icmp .ge 27, 3) := by decide +kernel
theorem dX11_perform_122 : decode cX11_perform 122 = .ok (.aload_n 1, 1) := by decide +kernel
theorem dX11_perform_123 : decode cX11_perform 123 = .ok (.getfield 305, 3) := by decide +kernel
theorem dX11_perform_126 : decode cX11_perform 126 = .ok (.iload_n 2, 1) := by decide +kernel
theorem dX11_perform_127 : decode cX11_perform 127 = .ok (.dup2, 1) := by decide +kernel
theorem dX11_perform_128 : decode cX11_perform 128 = .ok (.iaload, 1) := by decide +kernel
theorem dX11_perform_129 : decode cX11_perform 129 = .ok (.aload_n 0, 1) := by decide +kernel
theorem dX11_perform_130 : decode cX11_perform 130 = .ok (.getfield 47, 3) := by decide +kernel
theorem dX11_perform_133 : decode cX11_perform 133 = .ok (.getfield 191, 3) := by decide +kernel
theorem dX11_perform_136 : decode cX11_perform 136 = .ok (.iload_n 2, 1) := by decide +kernel
theorem dX11_perform_137 : decode cX11_perform 137 = .ok (.iaload, 1) := by decide +kernel
theorem dX11_perform_138 : decode cX11_perform 138 = .ok (.iadd, 1) := by decide +kernel
theorem dX11_perform_139 : decode cX11_perform 139 = .ok (.iastore, 1) := by decide +kernel
theorem dX11_perform_140 : decode cX11_perform 140 = .ok (.iinc 2 1, 3) := by decide +kernel
theorem dX11_perform_143 : decode cX11_perform 143 = .ok (.goto (-27), 3) := by decide +kernel
theorem dX11_perform_146 : decode cX11_perform 146 = .ok (.aload_n 0, 1) := by decide +kernel
theorem dX11_perform_147 : decode cX11_perform 147 = .ok (.getfield 10, 3) := by decide +kernel
theorem dX11_perform_150 : decode cX11_perform 150 = .ok (.aload_n 0, 1) := by decide +kernel
theorem dX11_perform_151 : decode cX11_perform 151 = .ok (.getfield 47, 3) := by decide +kernel
theorem dX11_perform_154 : decode cX11_perform 154 = .ok (.invokevirtual 308, 3) := by decide +kernel
theorem dX11_perform_157 : decode cX11_perform 157 = .ok (.aload_n 1, 1) := by decide +kernel
theorem dX11_perform_158 : decode cX11_perform 158 = .ok (.dup, 1) := by decide +kernel
theorem dX11_perform_159 : decode cX11_perform 159 = .ok (.getfield 312, 3) := by decide +kernel
theorem dX11_perform_162 : decode cX11_perform 162 = .ok (.iconst 1, 1) := by decide +kernel
theorem dX11_perform_163 : decode cX11_perform 163 = .ok (.iadd, 1) := by decide +kernel
theorem dX11_perform_164 : decode cX11_perform 164 = .ok (.putfield 312, 3) := by decide +kernel
theorem dX11_perform_167 : decode cX11_perform 167 = .ok (.aload_n 0, 1) := by decide +kernel
theorem dX11_perform_168 : decode cX11_perform 168 = .ok (.iconst 1, 1) := by decide +kernel
theorem dX11_perform_169 : decode cX11_perform 169 = .ok (.putfield 51, 3) := by decide +kernel
theorem dX11_perform_172 : decode cX11_perform 172 = .ok (.aload_n 0, 1) := by decide +kernel
theorem dX11_perform_173 : decode cX11_perform 173 = .ok (.getfield 47, 3) := by decide +kernel
theorem dX11_perform_176 : decode cX11_perform 176 = .ok (.invokevirtual 315, 3) := by decide +kernel
theorem dX11_perform_179 : decode cX11_perform 179 = .ok (.ireturn, 1) := by decide +kernel
def ok_X11_perform_43 (K : ro_K)  : ro_Mem → Prop := fun e => ro_X K 82 [(0, .ref (ro_ad (kG K) 0)), (1, .ref (ro_ad (kG K) 2))] [] e
def fb_X11_perform_43  (rec : (Int32 × ro_Mem) → Option ro_Mem) (v2 : Int32) (μ : ro_Mem) : Option ro_Mem :=
  if 10 ≤ v2 then
  (some μ)
  else
  (if ro_in v2 10 then
  ((fn_X1_isGuest 2 v2 μ).bind fun q11 =>
  if q11 = 0 then
  (ro_lt (ro_set μ 12 v2.toNatClampNeg ((μ 12 v2.toNatClampNeg) + 0)) fun m14 =>
  rec (v2 + 1, m14))
  else
  ((fn_X11_wetOfGuest v2 4 μ).bind fun q16 =>
  ro_lt (ro_set μ 12 v2.toNatClampNeg ((μ 12 v2.toNatClampNeg) + q16)) fun m18 =>
  rec (v2 + 1, m18))) else none)
theorem bb_X11_perform_43 {K : ro_K} (hK : ro_C K RX11 cX11_perform 3 6) (hR : ro_R K (some .int))   {μ : ro_Mem} {rec : (Int32 × ro_Mem) → Option ro_Mem} {v2 : Int32} {q : ro_Mem} (hrec : ∀ (s : Int32 × ro_Mem) (q : ro_Mem), rec s = some q → ok_X11_perform_43 K q → ro_X K 43 [(0, .ref (ro_ad (kG K) 0)), (1, .ref (ro_ad (kG K) 2)), (2, .int s.1)] [] s.2) (hf : fb_X11_perform_43 rec v2 μ = some q) (hq : ok_X11_perform_43 K q) : ro_X K 43 [(0, .ref (ro_ad (kG K) 0)), (1, .ref (ro_ad (kG K) 2)), (2, .int v2)] [] μ := by
  unfold fb_X11_perform_43 at hf
  refine ro_iload_n hK 2 rfl dX11_perform_43 rfl ?_
  refine ro_bipush (v := 10) hK dX11_perform_44 (by decide) ?_
  refine ro_icmp_ge hK 82 dX11_perform_46 (by decide) (fun c9 => ?_) (fun c9 => ?_)
  · have hf := ro_it hf c9
    refine ro_sub (L' := [(0, .ref (ro_ad (kG K) 0)), (1, .ref (ro_ad (kG K) 2))]) [0, 1] rfl ?_
    obtain rfl := Option.some.inj hf
    exact hq
  · have hf := ro_ie hf c9
    refine ro_aload_n hK 1 rfl dX11_perform_49 rfl ?_
    refine ro_getr hK fl_X11_299 sh_2 dX11_perform_50 ?_
    refine ro_iload_n hK 2 rfl dX11_perform_53 rfl ?_
    refine ro_dup2 hK dX11_perform_54 rfl rfl ?_
    obtain ⟨g10, hf⟩ := ro_gd hf
    refine ro_iald hK sh_12 g10 dX11_perform_55 ?_
    refine ro_aload_n hK 1 rfl dX11_perform_56 rfl ?_
    refine ro_iload_n hK 2 rfl dX11_perform_57 rfl ?_
    obtain ⟨q11, e12, hf⟩ := ro_bd hf
    refine ro_callvi hK [.int v2] ml_X11_125 mv_X1_isGuest (mt_X1_isGuest (kl K) (kG K) sh_2 e12) sh_2 ⟨_, rfl, rfl⟩ (by decide) rfl rfl (Nat.le_of_ble_eq_true rfl) dX11_perform_58 ?_
    refine ro_if_eq hK 73 dX11_perform_61 (by decide) (fun c13 => ?_) (fun c13 => ?_)
    · have hf := ro_it hf c13
      refine ro_iconst (v := 0) hK dX11_perform_73 (by decide) ?_
      refine ro_iadd hK dX11_perform_74 ?_
      obtain ⟨m14, e15, hf⟩ := ro_ld hf
      refine ro_iast hK sh_12 g10 dX11_perform_75 ?_
      refine ro_mv e15 ?_
      refine ro_iinc (v := v2 + 1) (L' := [(2, .int (v2 + 1)), (0, .ref (ro_ad (kG K) 0)), (1, .ref (ro_ad (kG K) 2))]) hK 2 rfl dX11_perform_76 rfl (by decide) rfl ?_
      refine ro_goto hK 43 dX11_perform_79 (by decide) ?_
      refine ro_sub (L' := [(0, .ref (ro_ad (kG K) 0)), (1, .ref (ro_ad (kG K) 2)), (2, .int (v2 + 1))]) [1, 2, 0] rfl ?_
      exact hrec (v2 + 1, m14) _ hf hq
    · have hf := ro_ie hf c13
      refine ro_aload_n hK 0 rfl dX11_perform_64 rfl ?_
      refine ro_iload_n hK 2 rfl dX11_perform_65 rfl ?_
      refine ro_iconst (v := 4) hK dX11_perform_66 (by decide) ?_
      obtain ⟨q16, e17, hf⟩ := ro_bd hf
      refine ro_callvi hK [.int v2, .int 4] ml_X11_188 mv_X11_wetOfGuest (mt_X11_wetOfGuest (kl K) (kG K)  e17) sh_0 ⟨_, rfl, rfl⟩ (by decide) rfl rfl (Nat.le_of_ble_eq_true rfl) dX11_perform_67 ?_
      refine ro_goto hK 74 dX11_perform_70 (by decide) ?_
      refine ro_iadd hK dX11_perform_74 ?_
      obtain ⟨m18, e19, hf⟩ := ro_ld hf
      refine ro_iast hK sh_12 g10 dX11_perform_75 ?_
      refine ro_mv e19 ?_
      refine ro_iinc (v := v2 + 1) (L' := [(2, .int (v2 + 1)), (0, .ref (ro_ad (kG K) 0)), (1, .ref (ro_ad (kG K) 2))]) hK 2 rfl dX11_perform_76 rfl (by decide) rfl ?_
      refine ro_goto hK 43 dX11_perform_79 (by decide) ?_
      refine ro_sub (L' := [(0, .ref (ro_ad (kG K) 0)), (1, .ref (ro_ad (kG K) 2)), (2, .int (v2 + 1))]) [1, 2, 0] rfl ?_
      exact hrec (v2 + 1, m18) _ hf hq
def fl_X11_perform_43  : (Int32 × ro_Mem) → Option ro_Mem :=
  ro_loop (fun rec s => fb_X11_perform_43 rec s.1 s.2) ro_FU
theorem lp_X11_perform_43 {K : ro_K} (hK : ro_C K RX11 cX11_perform 3 6) (hR : ro_R K (some .int))   {s : Int32 × ro_Mem} {q : ro_Mem} (hf : fl_X11_perform_43 s = some q) (hq : ok_X11_perform_43 K q) : ro_X K 43 [(0, .ref (ro_ad (kG K) 0)), (1, .ref (ro_ad (kG K) 2)), (2, .int s.1)] [] s.2 :=
  ro_loopX (b := fun rec s => fb_X11_perform_43 rec s.1 s.2) (X := fun s => ro_X K 43 [(0, .ref (ro_ad (kG K) 0)), (1, .ref (ro_ad (kG K) 2)), (2, .int s.1)] [] s.2) (OK := ok_X11_perform_43 K) (fun rec s q hrec hb ho => bb_X11_perform_43 hK hR  hrec hb ho) ro_FU s q hf hq
def ok_X11_perform_84 (K : ro_K)  : ro_Mem → Prop := fun e => ro_X K 114 [(0, .ref (ro_ad (kG K) 0)), (1, .ref (ro_ad (kG K) 2))] [] e
def fb_X11_perform_84  (rec : (Int32 × ro_Mem) → Option ro_Mem) (v2 : Int32) (μ : ro_Mem) : Option ro_Mem :=
  if 16 ≤ v2 then
  (some μ)
  else
  (if ro_in v2 16 then
  (ro_lt (ro_set μ 13 v2.toNatClampNeg ((μ 13 v2.toNatClampNeg) + (μ 67 v2.toNatClampNeg))) fun m24 =>
  rec (v2 + 1, m24)) else none)
theorem bb_X11_perform_84 {K : ro_K} (hK : ro_C K RX11 cX11_perform 3 6) (hR : ro_R K (some .int))   {μ : ro_Mem} {rec : (Int32 × ro_Mem) → Option ro_Mem} {v2 : Int32} {q : ro_Mem} (hrec : ∀ (s : Int32 × ro_Mem) (q : ro_Mem), rec s = some q → ok_X11_perform_84 K q → ro_X K 84 [(0, .ref (ro_ad (kG K) 0)), (1, .ref (ro_ad (kG K) 2)), (2, .int s.1)] [] s.2) (hf : fb_X11_perform_84 rec v2 μ = some q) (hq : ok_X11_perform_84 K q) : ro_X K 84 [(0, .ref (ro_ad (kG K) 0)), (1, .ref (ro_ad (kG K) 2)), (2, .int v2)] [] μ := by
  unfold fb_X11_perform_84 at hf
  refine ro_iload_n hK 2 rfl dX11_perform_84 rfl ?_
  refine ro_bipush (v := 16) hK dX11_perform_85 (by decide) ?_
  refine ro_icmp_ge hK 114 dX11_perform_87 (by decide) (fun c22 => ?_) (fun c22 => ?_)
  · have hf := ro_it hf c22
    refine ro_sub (L' := [(0, .ref (ro_ad (kG K) 0)), (1, .ref (ro_ad (kG K) 2))]) [0, 1] rfl ?_
    obtain rfl := Option.some.inj hf
    exact hq
  · have hf := ro_ie hf c22
    refine ro_aload_n hK 1 rfl dX11_perform_90 rfl ?_
    refine ro_getr hK fl_X11_302 sh_2 dX11_perform_91 ?_
    refine ro_iload_n hK 2 rfl dX11_perform_94 rfl ?_
    refine ro_dup2 hK dX11_perform_95 rfl rfl ?_
    obtain ⟨g23, hf⟩ := ro_gd hf
    refine ro_iald hK sh_13 g23 dX11_perform_96 ?_
    refine ro_aload_n hK 0 rfl dX11_perform_97 rfl ?_
    refine ro_getr hK fl_X11_47 sh_0 dX11_perform_98 ?_
    refine ro_getr hK fl_X11_194 sh_62 dX11_perform_101 ?_
    refine ro_iload_n hK 2 rfl dX11_perform_104 rfl ?_
    refine ro_iald hK sh_67 g23 dX11_perform_105 ?_
    refine ro_iadd hK dX11_perform_106 ?_
    obtain ⟨m24, e25, hf⟩ := ro_ld hf
    refine ro_iast hK sh_13 g23 dX11_perform_107 ?_
    refine ro_mv e25 ?_
    refine ro_iinc (v := v2 + 1) (L' := [(2, .int (v2 + 1)), (0, .ref (ro_ad (kG K) 0)), (1, .ref (ro_ad (kG K) 2))]) hK 2 rfl dX11_perform_108 rfl (by decide) rfl ?_
    refine ro_goto hK 84 dX11_perform_111 (by decide) ?_
    refine ro_sub (L' := [(0, .ref (ro_ad (kG K) 0)), (1, .ref (ro_ad (kG K) 2)), (2, .int (v2 + 1))]) [1, 2, 0] rfl ?_
    exact hrec (v2 + 1, m24) _ hf hq
def fl_X11_perform_84  : (Int32 × ro_Mem) → Option ro_Mem :=
  ro_loop (fun rec s => fb_X11_perform_84 rec s.1 s.2) ro_FU
theorem lp_X11_perform_84 {K : ro_K} (hK : ro_C K RX11 cX11_perform 3 6) (hR : ro_R K (some .int))   {s : Int32 × ro_Mem} {q : ro_Mem} (hf : fl_X11_perform_84 s = some q) (hq : ok_X11_perform_84 K q) : ro_X K 84 [(0, .ref (ro_ad (kG K) 0)), (1, .ref (ro_ad (kG K) 2)), (2, .int s.1)] [] s.2 :=
  ro_loopX (b := fun rec s => fb_X11_perform_84 rec s.1 s.2) (X := fun s => ro_X K 84 [(0, .ref (ro_ad (kG K) 0)), (1, .ref (ro_ad (kG K) 2)), (2, .int s.1)] [] s.2) (OK := ok_X11_perform_84 K) (fun rec s q hrec hb ho => bb_X11_perform_84 hK hR  hrec hb ho) ro_FU s q hf hq
def ok_X11_perform_116 (K : ro_K)  : ro_Mem → Prop := fun e => ro_X K 146 [(0, .ref (ro_ad (kG K) 0)), (1, .ref (ro_ad (kG K) 2))] [] e
def fb_X11_perform_116  (rec : (Int32 × ro_Mem) → Option ro_Mem) (v2 : Int32) (μ : ro_Mem) : Option ro_Mem :=
  if 32 ≤ v2 then
  (some μ)
  else
  (if ro_in v2 32 then
  (ro_lt (ro_set μ 14 v2.toNatClampNeg ((μ 14 v2.toNatClampNeg) + (μ 66 v2.toNatClampNeg))) fun m30 =>
  rec (v2 + 1, m30)) else none)
theorem bb_X11_perform_116 {K : ro_K} (hK : ro_C K RX11 cX11_perform 3 6) (hR : ro_R K (some .int))   {μ : ro_Mem} {rec : (Int32 × ro_Mem) → Option ro_Mem} {v2 : Int32} {q : ro_Mem} (hrec : ∀ (s : Int32 × ro_Mem) (q : ro_Mem), rec s = some q → ok_X11_perform_116 K q → ro_X K 116 [(0, .ref (ro_ad (kG K) 0)), (1, .ref (ro_ad (kG K) 2)), (2, .int s.1)] [] s.2) (hf : fb_X11_perform_116 rec v2 μ = some q) (hq : ok_X11_perform_116 K q) : ro_X K 116 [(0, .ref (ro_ad (kG K) 0)), (1, .ref (ro_ad (kG K) 2)), (2, .int v2)] [] μ := by
  unfold fb_X11_perform_116 at hf
  refine ro_iload_n hK 2 rfl dX11_perform_116 rfl ?_
  refine ro_bipush (v := 32) hK dX11_perform_117 (by decide) ?_
  refine ro_icmp_ge hK 146 dX11_perform_119 (by decide) (fun c28 => ?_) (fun c28 => ?_)
  · have hf := ro_it hf c28
    refine ro_sub (L' := [(0, .ref (ro_ad (kG K) 0)), (1, .ref (ro_ad (kG K) 2))]) [0, 1] rfl ?_
    obtain rfl := Option.some.inj hf
    exact hq
  · have hf := ro_ie hf c28
    refine ro_aload_n hK 1 rfl dX11_perform_122 rfl ?_
    refine ro_getr hK fl_X11_305 sh_2 dX11_perform_123 ?_
    refine ro_iload_n hK 2 rfl dX11_perform_126 rfl ?_
    refine ro_dup2 hK dX11_perform_127 rfl rfl ?_
    obtain ⟨g29, hf⟩ := ro_gd hf
    refine ro_iald hK sh_14 g29 dX11_perform_128 ?_
    refine ro_aload_n hK 0 rfl dX11_perform_129 rfl ?_
    refine ro_getr hK fl_X11_47 sh_0 dX11_perform_130 ?_
    refine ro_getr hK fl_X11_191 sh_62 dX11_perform_133 ?_
    refine ro_iload_n hK 2 rfl dX11_perform_136 rfl ?_
    refine ro_iald hK sh_66 g29 dX11_perform_137 ?_
    refine ro_iadd hK dX11_perform_138 ?_
    obtain ⟨m30, e31, hf⟩ := ro_ld hf
    refine ro_iast hK sh_14 g29 dX11_perform_139 ?_
    refine ro_mv e31 ?_
    refine ro_iinc (v := v2 + 1) (L' := [(2, .int (v2 + 1)), (0, .ref (ro_ad (kG K) 0)), (1, .ref (ro_ad (kG K) 2))]) hK 2 rfl dX11_perform_140 rfl (by decide) rfl ?_
    refine ro_goto hK 116 dX11_perform_143 (by decide) ?_
    refine ro_sub (L' := [(0, .ref (ro_ad (kG K) 0)), (1, .ref (ro_ad (kG K) 2)), (2, .int (v2 + 1))]) [1, 2, 0] rfl ?_
    exact hrec (v2 + 1, m30) _ hf hq
def fl_X11_perform_116  : (Int32 × ro_Mem) → Option ro_Mem :=
  ro_loop (fun rec s => fb_X11_perform_116 rec s.1 s.2) ro_FU
theorem lp_X11_perform_116 {K : ro_K} (hK : ro_C K RX11 cX11_perform 3 6) (hR : ro_R K (some .int))   {s : Int32 × ro_Mem} {q : ro_Mem} (hf : fl_X11_perform_116 s = some q) (hq : ok_X11_perform_116 K q) : ro_X K 116 [(0, .ref (ro_ad (kG K) 0)), (1, .ref (ro_ad (kG K) 2)), (2, .int s.1)] [] s.2 :=
  ro_loopX (b := fun rec s => fb_X11_perform_116 rec s.1 s.2) (X := fun s => ro_X K 116 [(0, .ref (ro_ad (kG K) 0)), (1, .ref (ro_ad (kG K) 2)), (2, .int s.1)] [] s.2) (OK := ok_X11_perform_116 K) (fun rec s q hrec hb ho => bb_X11_perform_116 hK hR  hrec hb ho) ro_FU s q hf hq
def fn_X11_perform (μ : ro_Mem) : Option (Int32 × ro_Mem) :=
  if ro_sh (ro_rf μ 1 1) = (0, 5) then
  (if (μ (ro_rf μ 1 1) 5) = 0 then
  (some ((-1), μ))
  else
  ((fn_X11_refresh μ).bind fun q3 =>
  (fn_X11_paidFor 4 q3).bind fun q5 =>
  ro_lt (ro_set q5.2 2 13 ((q3 2 13) + q5.1)) fun m7 =>
  (fl_X11_perform_43  (0, m7)).bind fun q20 =>
  (fl_X11_perform_84  (0, q20)).bind fun q26 =>
  (fl_X11_perform_116  (0, q26)).bind fun q32 =>
  (fn_X9_growMould q32).bind fun q34 =>
  ro_lt (ro_set q34 2 12 ((q34 2 12) + 1)) fun m36 =>
  ro_lt (ro_set m36 0 7 1) fun m38 =>
  (fn_X0_houseWet m38).bind fun q40 =>
  some (q40, m38))) else none
theorem be_X11_perform {K : ro_K} (hK : ro_C K RX11 cX11_perform 3 6) (hR : ro_R K (some .int))   {μ : ro_Mem} {out : Int32 × ro_Mem} (hf : fn_X11_perform μ = some out) (hq : kQ K (some (.int out.1)) out.2) : ro_X K 0 [(0, .ref (ro_ad (kG K) 0))] [] μ := by
  unfold fn_X11_perform at hf
  refine ro_aload_n hK 0 rfl dX11_perform_0 rfl ?_
  refine ro_getr hK fl_X11_10 sh_0 dX11_perform_1 ?_
  obtain ⟨g1, hf⟩ := ro_gd hf
  refine ro_getm hK fl_X11_147 sh_1 dX11_perform_4 ?_
  refine ro_geti hK fl_X11_158 g1 dX11_perform_7 ?_
  refine ro_if_ne hK 15 dX11_perform_10 (by decide) (fun c2 => ?_) (fun c2 => ?_)
  · have hf := ro_ie hf c2
    refine ro_aload_n hK 0 rfl dX11_perform_15 rfl ?_
    obtain ⟨q3, e4, hf⟩ := ro_bd hf
    refine ro_callvv hK [] ml_X11_176 mv_X11_refresh (mt_X11_refresh (kl K) (kG K)  e4) sh_0 ⟨_, rfl, rfl⟩ (by decide) rfl rfl (Nat.le_of_ble_eq_true rfl) dX11_perform_16 ?_
    refine ro_aload_n hK 0 rfl dX11_perform_19 rfl ?_
    refine ro_getr hK fl_X11_10 sh_0 dX11_perform_20 ?_
    refine ro_getr hK fl_X11_89 sh_1 dX11_perform_23 ?_
    refine ro_astore_n (L' := [(1, .ref (ro_ad (kG K) 2)), (0, .ref (ro_ad (kG K) 0))]) hK dX11_perform_26 rfl (by decide) rfl ?_
    refine ro_aload_n hK 0 rfl dX11_perform_27 rfl ?_
    refine ro_dup hK dX11_perform_28 rfl ?_
    refine ro_geti hK fl_X11_296 sh_2 dX11_perform_29 ?_
    refine ro_aload_n hK 1 rfl dX11_perform_32 rfl ?_
    refine ro_iconst (v := 4) hK dX11_perform_33 (by decide) ?_
    obtain ⟨q5, e6, hf⟩ := ro_bd hf
    refine ro_callvi hK [.int 4] ml_X11_293 mv_X11_paidFor (mt_X11_paidFor (kl K) (kG K)  e6) sh_0 ⟨_, rfl, rfl⟩ (by decide) rfl rfl (Nat.le_of_ble_eq_true rfl) dX11_perform_34 ?_
    refine ro_iadd hK dX11_perform_37 ?_
    obtain ⟨m7, e8, hf⟩ := ro_ld hf
    refine ro_puti hK fl_X11_296 sh_2 rfl rfl dX11_perform_38 ?_
    refine ro_mv e8 ?_
    refine ro_iconst (v := 0) hK dX11_perform_41 (by decide) ?_
    refine ro_istore_n (L' := [(2, .int 0), (1, .ref (ro_ad (kG K) 2)), (0, .ref (ro_ad (kG K) 0))]) hK dX11_perform_42 rfl (by decide) rfl ?_
    obtain ⟨q20, e21, hf⟩ := ro_bd hf
    refine ro_sub (L' := [(0, .ref (ro_ad (kG K) 0)), (1, .ref (ro_ad (kG K) 2)), (2, .int 0)]) [2, 1, 0] rfl ?_
    refine lp_X11_perform_43 hK hR  e21 ?_
    show ro_X K 82 [(0, .ref (ro_ad (kG K) 0)), (1, .ref (ro_ad (kG K) 2))] [] q20
    refine ro_iconst (v := 0) hK dX11_perform_82 (by decide) ?_
    refine ro_istore_n (L' := [(2, .int 0), (0, .ref (ro_ad (kG K) 0)), (1, .ref (ro_ad (kG K) 2))]) hK dX11_perform_83 rfl (by decide) rfl ?_
    obtain ⟨q26, e27, hf⟩ := ro_bd hf
    refine ro_sub (L' := [(0, .ref (ro_ad (kG K) 0)), (1, .ref (ro_ad (kG K) 2)), (2, .int 0)]) [1, 2, 0] rfl ?_
    refine lp_X11_perform_84 hK hR  e27 ?_
    show ro_X K 114 [(0, .ref (ro_ad (kG K) 0)), (1, .ref (ro_ad (kG K) 2))] [] q26
    refine ro_iconst (v := 0) hK dX11_perform_114 (by decide) ?_
    refine ro_istore_n (L' := [(2, .int 0), (0, .ref (ro_ad (kG K) 0)), (1, .ref (ro_ad (kG K) 2))]) hK dX11_perform_115 rfl (by decide) rfl ?_
    obtain ⟨q32, e33, hf⟩ := ro_bd hf
    refine ro_sub (L' := [(0, .ref (ro_ad (kG K) 0)), (1, .ref (ro_ad (kG K) 2)), (2, .int 0)]) [1, 2, 0] rfl ?_
    refine lp_X11_perform_116 hK hR  e33 ?_
    show ro_X K 146 [(0, .ref (ro_ad (kG K) 0)), (1, .ref (ro_ad (kG K) 2))] [] q32
    refine ro_aload_n hK 0 rfl dX11_perform_146 rfl ?_
    refine ro_getr hK fl_X11_10 sh_0 dX11_perform_147 ?_
    refine ro_aload_n hK 0 rfl dX11_perform_150 rfl ?_
    refine ro_getr hK fl_X11_47 sh_0 dX11_perform_151 ?_
    obtain ⟨q34, e35, hf⟩ := ro_bd hf
    refine ro_callvv hK [.ref (ro_ad (kG K) 62)] ml_X11_308 mv_X9_growMould (mt_X9_growMould (kl K) (kG K)  e35) sh_1 ⟨_, rfl, rfl⟩ (by decide) rfl rfl (Nat.le_of_ble_eq_true rfl) dX11_perform_154 ?_
    refine ro_aload_n hK 1 rfl dX11_perform_157 rfl ?_
    refine ro_dup hK dX11_perform_158 rfl ?_
    refine ro_geti hK fl_X11_312 sh_2 dX11_perform_159 ?_
    refine ro_iconst (v := 1) hK dX11_perform_162 (by decide) ?_
    refine ro_iadd hK dX11_perform_163 ?_
    obtain ⟨m36, e37, hf⟩ := ro_ld hf
    refine ro_puti hK fl_X11_312 sh_2 rfl rfl dX11_perform_164 ?_
    refine ro_mv e37 ?_
    refine ro_aload_n hK 0 rfl dX11_perform_167 rfl ?_
    refine ro_iconst (v := 1) hK dX11_perform_168 (by decide) ?_
    obtain ⟨m38, e39, hf⟩ := ro_ld hf
    refine ro_putz hK fl_X11_51 sh_0 (by decide) dX11_perform_169 ?_
    refine ro_mv e39 ?_
    refine ro_aload_n hK 0 rfl dX11_perform_172 rfl ?_
    refine ro_getr hK fl_X11_47 sh_0 dX11_perform_173 ?_
    obtain ⟨q40, e41, hf⟩ := ro_bd hf
    refine ro_callvi hK [] ml_X11_315 mv_X0_houseWet (mt_X0_houseWet (kl K) (kG K)  e41) sh_62 ⟨_, rfl, rfl⟩ (by decide) rfl rfl (Nat.le_of_ble_eq_true rfl) dX11_perform_176 ?_
    obtain rfl := Option.some.inj hf
    exact ro_iret hK hR dX11_perform_179 hq
  · have hf := ro_it hf c2
    refine ro_iconst (v := (-1)) hK dX11_perform_13 (by decide) ?_
    obtain rfl := Option.some.inj hf
    exact ro_iret hK hR dX11_perform_14 hq
theorem mt_X11_perform (l : Launch) (G : ro_G)   {μ : ro_Mem} {out : Int32 × ro_Mem} (hf : fn_X11_perform μ = some out) : ro_MX l G yX11_perform cX11_perform 3 (some .int) 6 [.ref (ro_ad G 0)] μ (some (.int out.1)) out.2 := by
  refine ro_MX.of (by decide +kernel) (Nat.le_of_ble_eq_true rfl) (fun K hG hl hq hK hR => ?_)
  subst hG
  exact be_X11_perform hK hR  hf hq
-- ===== X11_soFar =====
theorem dX11_soFar_0 : decode cX11_soFar 0 = .ok (.aload_n 0, 1) := by decide +kernel
theorem dX11_soFar_1 : decode cX11_soFar 1 = .ok (.getfield 10, 3) := by decide +kernel
theorem dX11_soFar_4 : decode cX11_soFar 4 = .ok (.getfield 89, 3) := by decide +kernel
theorem dX11_soFar_7 : decode cX11_soFar 7 = .ok (.astore_n 2, 1) := by decide +kernel
theorem dX11_soFar_8 : decode cX11_soFar 8 = .ok (.iload_n 1, 1) := by decide +kernel
theorem dX11_soFar_9 : decode cX11_soFar 9 = .ok (.ifCond .ne 8, 3) := by decide +kernel
theorem dX11_soFar_12 : decode cX11_soFar 12 = .ok (.aload_n 2, 1) := by decide +kernel
theorem dX11_soFar_13 : decode cX11_soFar 13 = .ok (.getfield 312, 3) := by decide +kernel
theorem dX11_soFar_16 : decode cX11_soFar 16 = .ok (.ireturn, 1) := by decide +kernel
theorem dX11_soFar_17 : decode cX11_soFar 17 = .ok (.iload_n 1, 1) := by decide +kernel
theorem dX11_soFar_18 : decode cX11_soFar 18 = .ok (.iconst 1, 1) := by decide +kernel
theorem dX11_soFar_19 : decode cX11_soFar 19 = .ok (.if_icmp .ne 8, 3) := by decide +kernel
theorem dX11_soFar_22 : decode cX11_soFar 22 = .ok (.aload_n 2, 1) := by decide +kernel
theorem dX11_soFar_23 : decode cX11_soFar 23 = .ok (.getfield 296, 3) := by decide +kernel
theorem dX11_soFar_26 : decode cX11_soFar 26 = .ok (.ireturn, 1) := by decide +kernel
theorem dX11_soFar_27 : decode cX11_soFar 27 = .ok (.iload_n 1, 1) := by decide +kernel
theorem dX11_soFar_28 : decode cX11_soFar 28 = .ok (.bipush 10, 2) := by decide +kernel
theorem dX11_soFar_30 : decode cX11_soFar 30 = .ok (.if_icmp .lt 30, 3) := by decide +kernel
theorem dX11_soFar_33 : decode cX11_soFar 33 = .ok (.iload_n 1, 1) := by decide +kernel
theorem dX11_soFar_34 : decode cX11_soFar 34 = .ok (.bipush 20, 2) := by decide +kernel
theorem dX11_soFar_36 : decode cX11_soFar 36 = .ok (.if_icmp .ge 24, 3) := by decide +kernel
theorem dX11_soFar_39 : decode cX11_soFar 39 = .ok (.aload_n 2, 1) := by decide +kernel
theorem dX11_soFar_40 : decode cX11_soFar 40 = .ok (.iload_n 1, 1) := by decide +kernel
theorem dX11_soFar_41 : decode cX11_soFar 41 = .ok (.bipush 10, 2) := by decide +kernel
theorem dX11_soFar_43 : decode cX11_soFar 43 = .ok (.isub, 1) := by decide +kernel
theorem dX11_soFar_44 : decode cX11_soFar 44 = .ok (.invokevirtual 125, 3) := by decide +kernel
theorem dX11_soFar_47 : decode cX11_soFar 47 = .ok (.ifCond .eq 13, 3) := by decide +kernel
theorem dX11_soFar_50 : decode cX11_soFar 50 = .ok (.aload_n 2, 1) := by decide +kernel
theorem dX11_soFar_51 : decode cX11_soFar 51 = .ok (.getfield 299, 3) := by decide +kernel
theorem dX11_soFar_54 : decode cX11_soFar 54 = .ok (.iload_n 1, 1) := by decide +kernel
theorem dX11_soFar_55 : decode cX11_soFar 55 = .ok (.bipush 10, 2) := by decide +kernel
theorem dX11_soFar_57 : decode cX11_soFar 57 = .ok (.isub, 1) := by decide +kernel
theorem dX11_soFar_58 : decode cX11_soFar 58 = .ok (.iaload, 1) := by decide +kernel
theorem dX11_soFar_59 : decode cX11_soFar 59 = .ok (.ireturn, 1) := by decide +kernel
theorem dX11_soFar_60 : decode cX11_soFar 60 = .ok (.iload_n 1, 1) := by decide +kernel
theorem dX11_soFar_61 : decode cX11_soFar 61 = .ok (.bipush 20, 2) := by decide +kernel
theorem dX11_soFar_63 : decode cX11_soFar 63 = .ok (.if_icmp .lt 19, 3) := by decide +kernel
theorem dX11_soFar_66 : decode cX11_soFar 66 = .ok (.iload_n 1, 1) := by decide +kernel
theorem dX11_soFar_67 : decode cX11_soFar 67 = .ok (.bipush 36, 2) := by decide +kernel
theorem dX11_soFar_69 : decode cX11_soFar 69 = .ok (.if_icmp .ge 13, 3) := by decide +kernel
theorem dX11_soFar_72 : decode cX11_soFar 72 = .ok (.aload_n 2, 1) := by decide +kernel
theorem dX11_soFar_73 : decode cX11_soFar 73 = .ok (.getfield 302, 3) := by decide +kernel
theorem dX11_soFar_76 : decode cX11_soFar 76 = .ok (.iload_n 1, 1) := by decide +kernel
theorem dX11_soFar_77 : decode cX11_soFar 77 = .ok (.bipush 20, 2) := by decide +kernel
theorem dX11_soFar_79 : decode cX11_soFar 79 = .ok (.isub, 1) := by decide +kernel
theorem dX11_soFar_80 : decode cX11_soFar 80 = .ok (.iaload, 1) := by decide +kernel
theorem dX11_soFar_81 : decode cX11_soFar 81 = .ok (.ireturn, 1) := by decide +kernel
theorem dX11_soFar_82 : decode cX11_soFar 82 = .ok (.iload_n 1, 1) := by decide +kernel
theorem dX11_soFar_83 : decode cX11_soFar 83 = .ok (.bipush 40, 2) := by decide +kernel
theorem dX11_soFar_85 : decode cX11_soFar 85 = .ok (.if_icmp .lt 19, 3) := by decide +kernel
theorem dX11_soFar_88 : decode cX11_soFar 88 = .ok (.iload_n 1, 1) := by decide +kernel
theorem dX11_soFar_89 : decode cX11_soFar 89 = .ok (.bipush 72, 2) := by decide +kernel
theorem dX11_soFar_91 : decode cX11_soFar 91 = .ok (.if_icmp .ge 13, 3) := by decide +kernel
theorem dX11_soFar_94 : decode cX11_soFar 94 = .ok (.aload_n 2, 1) := by decide +kernel
theorem dX11_soFar_95 : decode cX11_soFar 95 = .ok (.getfield 305, 3) := by decide +kernel
theorem dX11_soFar_98 : decode cX11_soFar 98 = .ok (.iload_n 1, 1) := by decide +kernel
theorem dX11_soFar_99 : decode cX11_soFar 99 = .ok (.bipush 40, 2) := by decide +kernel
theorem dX11_soFar_101 : decode cX11_soFar 101 = .ok (.isub, 1) := by decide +kernel
theorem dX11_soFar_102 : decode cX11_soFar 102 = .ok (.iaload, 1) := by decide +kernel
theorem dX11_soFar_103 : decode cX11_soFar 103 = .ok (.ireturn, 1) := by decide +kernel
theorem dX11_soFar_104 : decode cX11_soFar 104 = .ok (.iconst (-1), 1) := by decide +kernel
theorem dX11_soFar_105 : decode cX11_soFar 105 = .ok (.ireturn, 1) := by decide +kernel
def fj_X11_soFar_82 (v1 : Int32) (μ : ro_Mem) : Option Int32 :=
  if v1 < 40 then
  (some (-1))
  else
  (if 72 ≤ v1 then
  (some (-1))
  else
  (if ro_in (v1 - 40) 32 then
  (some (μ 14 (v1 - 40).toNatClampNeg)) else none))
theorem bj_X11_soFar_82 {K : ro_K} (hK : ro_C K RX11 cX11_soFar 3 1) (hR : ro_R K (some .int)) {v1 : Int32}   {μ : ro_Mem}  {out : Int32} (hf : fj_X11_soFar_82 v1 μ = some out) (hq : kQ K (some (.int out)) μ) : ro_X K 82 [(1, .int v1), (2, .ref (ro_ad (kG K) 2))] [] μ := by
  unfold fj_X11_soFar_82 at hf
  refine ro_iload_n hK 0 rfl dX11_soFar_82 rfl ?_
  refine ro_bipush (v := 40) hK dX11_soFar_83 (by decide) ?_
  refine ro_icmp_lt hK 104 dX11_soFar_85 (by decide) (fun c5 => ?_) (fun c5 => ?_)
  · have hf := ro_it hf c5
    refine ro_iconst (v := (-1)) hK dX11_soFar_104 (by decide) ?_
    obtain rfl := Option.some.inj hf
    exact ro_iret hK hR dX11_soFar_105 hq
  · have hf := ro_ie hf c5
    refine ro_iload_n hK 0 rfl dX11_soFar_88 rfl ?_
    refine ro_bipush (v := 72) hK dX11_soFar_89 (by decide) ?_
    refine ro_icmp_ge hK 104 dX11_soFar_91 (by decide) (fun c6 => ?_) (fun c6 => ?_)
    · have hf := ro_it hf c6
      refine ro_iconst (v := (-1)) hK dX11_soFar_104 (by decide) ?_
      obtain rfl := Option.some.inj hf
      exact ro_iret hK hR dX11_soFar_105 hq
    · have hf := ro_ie hf c6
      refine ro_aload_n hK 1 rfl dX11_soFar_94 rfl ?_
      refine ro_getr hK fl_X11_305 sh_2 dX11_soFar_95 ?_
      refine ro_iload_n hK 0 rfl dX11_soFar_98 rfl ?_
      refine ro_bipush (v := 40) hK dX11_soFar_99 (by decide) ?_
      refine ro_isub hK dX11_soFar_101 ?_
      obtain ⟨g7, hf⟩ := ro_gd hf
      refine ro_iald hK sh_14 g7 dX11_soFar_102 ?_
      obtain rfl := Option.some.inj hf
      exact ro_iret hK hR dX11_soFar_103 hq
def fj_X11_soFar_60 (v1 : Int32) (μ : ro_Mem) : Option Int32 :=
  if v1 < 20 then
  (fj_X11_soFar_82 v1 μ)
  else
  (if 36 ≤ v1 then
  (fj_X11_soFar_82 v1 μ)
  else
  (if ro_in (v1 - 20) 16 then
  (some (μ 13 (v1 - 20).toNatClampNeg)) else none))
theorem bj_X11_soFar_60 {K : ro_K} (hK : ro_C K RX11 cX11_soFar 3 1) (hR : ro_R K (some .int)) {v1 : Int32}   {μ : ro_Mem}  {out : Int32} (hf : fj_X11_soFar_60 v1 μ = some out) (hq : kQ K (some (.int out)) μ) : ro_X K 60 [(1, .int v1), (2, .ref (ro_ad (kG K) 2))] [] μ := by
  unfold fj_X11_soFar_60 at hf
  refine ro_iload_n hK 0 rfl dX11_soFar_60 rfl ?_
  refine ro_bipush (v := 20) hK dX11_soFar_61 (by decide) ?_
  refine ro_icmp_lt hK 82 dX11_soFar_63 (by decide) (fun c4 => ?_) (fun c4 => ?_)
  · have hf := ro_it hf c4
    exact bj_X11_soFar_82 hK hR  hf hq
  · have hf := ro_ie hf c4
    refine ro_iload_n hK 0 rfl dX11_soFar_66 rfl ?_
    refine ro_bipush (v := 36) hK dX11_soFar_67 (by decide) ?_
    refine ro_icmp_ge hK 82 dX11_soFar_69 (by decide) (fun c8 => ?_) (fun c8 => ?_)
    · have hf := ro_it hf c8
      exact bj_X11_soFar_82 hK hR  hf hq
    · have hf := ro_ie hf c8
      refine ro_aload_n hK 1 rfl dX11_soFar_72 rfl ?_
      refine ro_getr hK fl_X11_302 sh_2 dX11_soFar_73 ?_
      refine ro_iload_n hK 0 rfl dX11_soFar_76 rfl ?_
      refine ro_bipush (v := 20) hK dX11_soFar_77 (by decide) ?_
      refine ro_isub hK dX11_soFar_79 ?_
      obtain ⟨g9, hf⟩ := ro_gd hf
      refine ro_iald hK sh_13 g9 dX11_soFar_80 ?_
      obtain rfl := Option.some.inj hf
      exact ro_iret hK hR dX11_soFar_81 hq
def fn_X11_soFar (v1 : Int32) (μ : ro_Mem) : Option Int32 :=
  if v1 = 0 then
  (some (μ 2 12))
  else
  (if v1 = 1 then
  (some (μ 2 13))
  else
  (if v1 < 10 then
  (fj_X11_soFar_60 v1 μ)
  else
  (if 20 ≤ v1 then
  (fj_X11_soFar_60 v1 μ)
  else
  ((fn_X1_isGuest 2 (v1 - 10) μ).bind fun q11 =>
  if q11 = 0 then
  (fj_X11_soFar_60 v1 μ)
  else
  (if ro_in (v1 - 10) 10 then
  (some (μ 12 (v1 - 10).toNatClampNeg)) else none)))))
theorem be_X11_soFar {K : ro_K} (hK : ro_C K RX11 cX11_soFar 3 1) (hR : ro_R K (some .int)) {v1 : Int32}  {μ : ro_Mem} {out : Int32} (hf : fn_X11_soFar v1 μ = some out) (hq : kQ K (some (.int out)) μ) : ro_X K 0 [(0, .ref (ro_ad (kG K) 0)), (1, .int v1)] [] μ := by
  unfold fn_X11_soFar at hf
  refine ro_aload_n hK 0 rfl dX11_soFar_0 rfl ?_
  refine ro_getr hK fl_X11_10 sh_0 dX11_soFar_1 ?_
  refine ro_getr hK fl_X11_89 sh_1 dX11_soFar_4 ?_
  refine ro_astore_n (L' := [(2, .ref (ro_ad (kG K) 2)), (0, .ref (ro_ad (kG K) 0)), (1, .int v1)]) hK dX11_soFar_7 rfl (by decide) rfl ?_
  refine ro_iload_n hK 2 rfl dX11_soFar_8 rfl ?_
  refine ro_if_ne hK 17 dX11_soFar_9 (by decide) (fun c1 => ?_) (fun c1 => ?_)
  · have hf := ro_ie hf c1
    refine ro_iload_n hK 2 rfl dX11_soFar_17 rfl ?_
    refine ro_iconst (v := 1) hK dX11_soFar_18 (by decide) ?_
    refine ro_icmp_ne hK 27 dX11_soFar_19 (by decide) (fun c2 => ?_) (fun c2 => ?_)
    · have hf := ro_ie hf c2
      refine ro_iload_n hK 2 rfl dX11_soFar_27 rfl ?_
      refine ro_bipush (v := 10) hK dX11_soFar_28 (by decide) ?_
      refine ro_icmp_lt hK 60 dX11_soFar_30 (by decide) (fun c3 => ?_) (fun c3 => ?_)
      · have hf := ro_it hf c3
        refine ro_sub (L' := [(1, .int v1), (2, .ref (ro_ad (kG K) 2))]) [2, 0] rfl ?_
        exact bj_X11_soFar_60 hK hR  hf hq
      · have hf := ro_ie hf c3
        refine ro_iload_n hK 2 rfl dX11_soFar_33 rfl ?_
        refine ro_bipush (v := 20) hK dX11_soFar_34 (by decide) ?_
        refine ro_icmp_ge hK 60 dX11_soFar_36 (by decide) (fun c10 => ?_) (fun c10 => ?_)
        · have hf := ro_it hf c10
          refine ro_sub (L' := [(1, .int v1), (2, .ref (ro_ad (kG K) 2))]) [2, 0] rfl ?_
          exact bj_X11_soFar_60 hK hR  hf hq
        · have hf := ro_ie hf c10
          refine ro_aload_n hK 0 rfl dX11_soFar_39 rfl ?_
          refine ro_iload_n hK 2 rfl dX11_soFar_40 rfl ?_
          refine ro_bipush (v := 10) hK dX11_soFar_41 (by decide) ?_
          refine ro_isub hK dX11_soFar_43 ?_
          obtain ⟨q11, e12, hf⟩ := ro_bd hf
          refine ro_callvi hK [.int (v1 - 10)] ml_X11_125 mv_X1_isGuest (mt_X1_isGuest (kl K) (kG K) sh_2 e12) sh_2 ⟨_, rfl, rfl⟩ (by decide) rfl rfl (Nat.le_of_ble_eq_true rfl) dX11_soFar_44 ?_
          refine ro_if_eq hK 60 dX11_soFar_47 (by decide) (fun c13 => ?_) (fun c13 => ?_)
          · have hf := ro_it hf c13
            refine ro_sub (L' := [(1, .int v1), (2, .ref (ro_ad (kG K) 2))]) [2, 0] rfl ?_
            exact bj_X11_soFar_60 hK hR  hf hq
          · have hf := ro_ie hf c13
            refine ro_aload_n hK 0 rfl dX11_soFar_50 rfl ?_
            refine ro_getr hK fl_X11_299 sh_2 dX11_soFar_51 ?_
            refine ro_iload_n hK 2 rfl dX11_soFar_54 rfl ?_
            refine ro_bipush (v := 10) hK dX11_soFar_55 (by decide) ?_
            refine ro_isub hK dX11_soFar_57 ?_
            obtain ⟨g14, hf⟩ := ro_gd hf
            refine ro_iald hK sh_12 g14 dX11_soFar_58 ?_
            obtain rfl := Option.some.inj hf
            exact ro_iret hK hR dX11_soFar_59 hq
    · have hf := ro_it hf c2
      refine ro_aload_n hK 0 rfl dX11_soFar_22 rfl ?_
      refine ro_geti hK fl_X11_296 sh_2 dX11_soFar_23 ?_
      obtain rfl := Option.some.inj hf
      exact ro_iret hK hR dX11_soFar_26 hq
  · have hf := ro_it hf c1
    refine ro_aload_n hK 0 rfl dX11_soFar_12 rfl ?_
    refine ro_geti hK fl_X11_312 sh_2 dX11_soFar_13 ?_
    obtain rfl := Option.some.inj hf
    exact ro_iret hK hR dX11_soFar_16 hq
theorem mt_X11_soFar (l : Launch) (G : ro_G) {v1 : Int32}  {μ : ro_Mem} {out : Int32} (hf : fn_X11_soFar v1 μ = some out) : ro_MX l G yX11_soFar cX11_soFar 3 (some .int) 1 [.ref (ro_ad G 0), .int v1] μ (some (.int out)) μ := by
  refine ro_MX.of (by decide +kernel) (Nat.le_of_ble_eq_true rfl) (fun K hG hl hq hK hR => ?_)
  subst hG
  exact be_X11_soFar hK hR  hf hq
-- ===== X11_seed =====
theorem dX11_seed_0 : decode cX11_seed 0 = .ok (.iload_n 1, 1) := by decide +kernel
theorem dX11_seed_1 : decode cX11_seed 1 = .ok (.ifCond .lt 10, 3) := by decide +kernel
theorem dX11_seed_4 : decode cX11_seed 4 = .ok (.iload_n 1, 1) := by decide +kernel
theorem dX11_seed_5 : decode cX11_seed 5 = .ok (.ldc_w 318, 3) := by decide +kernel
theorem dX11_seed_8 : decode cX11_seed 8 = .ok (.if_icmp .le 5, 3) := by decide +kernel
theorem dX11_seed_11 : decode cX11_seed 11 = .ok (.iconst 0, 1) := by decide +kernel
theorem dX11_seed_12 : decode cX11_seed 12 = .ok (.ireturn, 1) := by decide +kernel
theorem dX11_seed_13 : decode cX11_seed 13 = .ok (.aload_n 0, 1) := by decide +kernel
theorem dX11_seed_14 : decode cX11_seed 14 = .ok (.getfield 10, 3) := by decide +kernel
theorem dX11_seed_17 : decode cX11_seed 17 = .ok (.getfield 89, 3) := by decide +kernel
theorem dX11_seed_20 : decode cX11_seed 20 = .ok (.iload_n 1, 1) := by decide +kernel
theorem dX11_seed_21 : decode cX11_seed 21 = .ok (.putfield 319, 3) := by decide +kernel
theorem dX11_seed_24 : decode cX11_seed 24 = .ok (.iconst 1, 1) := by decide +kernel
theorem dX11_seed_25 : decode cX11_seed 25 = .ok (.ireturn, 1) := by decide +kernel
def fn_X11_seed (v1 : Int32) (μ : ro_Mem) : Option (Int32 × ro_Mem) :=
  if v1 < 0 then
  (some (0, μ))
  else
  (if v1 ≤ 65535 then
  (ro_lt (ro_set μ 2 17 v1) fun m3 =>
  some (1, m3))
  else
  (some (0, μ)))
theorem be_X11_seed {K : ro_K} (hK : ro_C K RX11 cX11_seed 2 0) (hR : ro_R K (some .boolean)) {v1 : Int32}  {μ : ro_Mem} {out : Int32 × ro_Mem} (hf : fn_X11_seed v1 μ = some out) (hq : kQ K (some (.int out.1)) out.2) : ro_X K 0 [(0, .ref (ro_ad (kG K) 0)), (1, .int v1)] [] μ := by
  unfold fn_X11_seed at hf
  refine ro_iload_n hK 1 rfl dX11_seed_0 rfl ?_
  refine ro_if_lt hK 11 dX11_seed_1 (by decide) (fun c1 => ?_) (fun c1 => ?_)
  · have hf := ro_it hf c1
    refine ro_iconst (v := 0) hK dX11_seed_11 (by decide) ?_
    obtain rfl := Option.some.inj hf
    exact ro_zret hK hR dX11_seed_12 (by decide) hq
  · have hf := ro_ie hf c1
    refine ro_iload_n hK 1 rfl dX11_seed_4 rfl ?_
    refine ro_ldcw hK kc_X11_318 dX11_seed_5 ?_
    refine ro_icmp_le hK 13 dX11_seed_8 (by decide) (fun c2 => ?_) (fun c2 => ?_)
    · have hf := ro_it hf c2
      refine ro_aload_n hK 0 rfl dX11_seed_13 rfl ?_
      refine ro_getr hK fl_X11_10 sh_0 dX11_seed_14 ?_
      refine ro_getr hK fl_X11_89 sh_1 dX11_seed_17 ?_
      refine ro_iload_n hK 1 rfl dX11_seed_20 rfl ?_
      obtain ⟨m3, e4, hf⟩ := ro_ld hf
      refine ro_puti hK fl_X11_319 sh_2 rfl rfl dX11_seed_21 ?_
      refine ro_mv e4 ?_
      refine ro_iconst (v := 1) hK dX11_seed_24 (by decide) ?_
      obtain rfl := Option.some.inj hf
      exact ro_zret hK hR dX11_seed_25 (by decide) hq
    · have hf := ro_ie hf c2
      refine ro_iconst (v := 0) hK dX11_seed_11 (by decide) ?_
      obtain rfl := Option.some.inj hf
      exact ro_zret hK hR dX11_seed_12 (by decide) hq
theorem mt_X11_seed (l : Launch) (G : ro_G) {v1 : Int32}  {μ : ro_Mem} {out : Int32 × ro_Mem} (hf : fn_X11_seed v1 μ = some out) : ro_MX l G yX11_seed cX11_seed 2 (some .boolean) 0 [.ref (ro_ad G 0), .int v1] μ (some (.int out.1)) out.2 := by
  refine ro_MX.of (by decide +kernel) (Nat.le_of_ble_eq_true rfl) (fun K hG hl hq hK hR => ?_)
  subst hG
  exact be_X11_seed hK hR  hf hq
-- ===== X11_draw =====
theorem dX11_draw_0 : decode cX11_draw 0 = .ok (.aload_n 0, 1) := by decide +kernel
theorem dX11_draw_1 : decode cX11_draw 1 = .ok (.getfield 10, 3) := by decide +kernel
theorem dX11_draw_4 : decode cX11_draw 4 = .ok (.getfield 89, 3) := by decide +kernel
theorem dX11_draw_7 : decode cX11_draw 7 = .ok (.astore_n 1, 1) := by decide +kernel
theorem dX11_draw_8 : decode cX11_draw 8 = .ok (.iconst 0, 1) := by decide +kernel
theorem dX11_draw_9 : decode cX11_draw 9 = .ok (.istore_n 2, 1) := by decide +kernel
theorem dX11_draw_10 : decode cX11_draw 10 = .ok (.iconst 0, 1) := by decide +kernel
theorem dX11_draw_11 : decode cX11_draw 11 = .ok (.istore_n 3, 1) := by decide +kernel
theorem dX11_draw_12 : decode cX11_draw 12 = .ok (.iload_n 3, 1) := by decide +kernel
theorem dX11_draw_13 : decode cX11_draw 13 = .ok (.iconst 4, 1) := by decide +kernel
theorem dX11_draw_14 : decode cX11_draw 14 = .ok (.if_icmp .ge 51, 3) := by decide +kernel
theorem dX11_draw_17 : decode cX11_draw 17 = .ok (.aload_n 1, 1) := by decide +kernel
theorem dX11_draw_18 : decode cX11_draw 18 = .ok (.sipush 25173, 3) := by decide +kernel
theorem dX11_draw_21 : decode cX11_draw 21 = .ok (.aload_n 1, 1) := by decide +kernel
theorem dX11_draw_22 : decode cX11_draw 22 = .ok (.getfield 319, 3) := by decide +kernel
theorem dX11_draw_25 : decode cX11_draw 25 = .ok (.imul, 1) := by decide +kernel
theorem dX11_draw_26 : decode cX11_draw 26 = .ok (.sipush 13849, 3) := by decide +kernel
theorem dX11_draw_29 : decode cX11_draw 29 = .ok (.iadd, 1) := by decide +kernel
theorem dX11_draw_30 : decode cX11_draw 30 = .ok (.ldc_w 318, 3) := by decide +kernel
theorem dX11_draw_33 : decode cX11_draw 33 = .ok (.iand, 1) := by decide +kernel
theorem dX11_draw_34 : decode cX11_draw 34 = .ok (.putfield 319, 3) := by decide +kernel
theorem dX11_draw_37 : decode cX11_draw 37 = .ok (.aload_n 1, 1) := by decide +kernel
theorem dX11_draw_38 : decode cX11_draw 38 = .ok (.getfield 118, 3) := by decide +kernel
theorem dX11_draw_41 : decode cX11_draw 41 = .ok (.iload_n 3, 1) := by decide +kernel
theorem dX11_draw_42 : decode cX11_draw 42 = .ok (.aload_n 1, 1) := by decide +kernel
theorem dX11_draw_43 : decode cX11_draw 43 = .ok (.getfield 319, 3) := by decide +kernel
theorem dX11_draw_46 : decode cX11_draw 46 = .ok (.bipush 10, 2) := by decide +kernel
theorem dX11_draw_48 : decode cX11_draw 48 = .ok (.irem, 1) := by decide +kernel
theorem dX11_draw_49 : decode cX11_draw 49 = .ok (.iastore, 1) := by decide +kernel
theorem dX11_draw_50 : decode cX11_draw 50 = .ok (.iload_n 2, 1) := by decide +kernel
theorem dX11_draw_51 : decode cX11_draw 51 = .ok (.aload_n 1, 1) := by decide +kernel
theorem dX11_draw_52 : decode cX11_draw 52 = .ok (.getfield 118, 3) := by decide +kernel
theorem dX11_draw_55 : decode cX11_draw 55 = .ok (.iload_n 3, 1) := by decide +kernel
theorem dX11_draw_56 : decode cX11_draw 56 = .ok (.iaload, 1) := by decide +kernel
theorem dX11_draw_57 : decode cX11_draw 57 = .ok (.iadd, 1) := by decide +kernel
theorem dX11_draw_58 : decode cX11_draw 58 = .ok (.istore_n 2, 1) := by decide +kernel
theorem dX11_draw_59 : decode cX11_draw 59 = .ok (.iinc 3 1, 3) := by decide +kernel
theorem dX11_draw_62 : decode cX11_draw 62 = .ok (.goto (-50), 3) := by decide +kernel
theorem dX11_draw_65 : decode cX11_draw 65 = .ok (.aload_n 0, 1) := by decide +kernel
theorem dX11_draw_66 : decode cX11_draw 66 = .ok (.iconst 1, 1) := by decide +kernel
theorem dX11_draw_67 : decode cX11_draw 67 = .ok (.putfield 51, 3) := by decide +kernel
theorem dX11_draw_70 : decode cX11_draw 70 = .ok (.iload_n 2, 1) := by decide +kernel
theorem dX11_draw_71 : decode cX11_draw 71 = .ok (.ireturn, 1) := by decide +kernel
def ok_X11_draw_12 (K : ro_K)  : (Int32 × ro_Mem) → Prop := fun e => ro_X K 65 [(0, .ref (ro_ad (kG K) 0)), (2, .int e.1)] [] e.2
def fb_X11_draw_12  (rec : (Int32 × Int32 × ro_Mem) → Option (Int32 × ro_Mem)) (v2 : Int32) (v3 : Int32) (μ : ro_Mem) : Option (Int32 × ro_Mem) :=
  if 4 ≤ v3 then
  (some (v2, μ))
  else
  (ro_lt (ro_set μ 2 17 (((25173 * (μ 2 17)) + 13849) &&& 65535)) fun m2 =>
  if ro_in v3 4 then
  (ro_lt (ro_set m2 9 v3.toNatClampNeg (ro_rem (m2 2 17) 10)) fun m5 =>
  ro_lt (v2 + (m5 9 v3.toNatClampNeg)) fun z7 =>
  rec (z7, v3 + 1, m5)) else none)
theorem bb_X11_draw_12 {K : ro_K} (hK : ro_C K RX11 cX11_draw 4 0) (hR : ro_R K (some .int))   {μ : ro_Mem} {rec : (Int32 × Int32 × ro_Mem) → Option (Int32 × ro_Mem)} {v2 : Int32} {v3 : Int32} {q : (Int32 × ro_Mem)} (hrec : ∀ (s : Int32 × Int32 × ro_Mem) (q : (Int32 × ro_Mem)), rec s = some q → ok_X11_draw_12 K q → ro_X K 12 [(0, .ref (ro_ad (kG K) 0)), (1, .ref (ro_ad (kG K) 2)), (2, .int s.1), (3, .int s.2.1)] [] s.2.2) (hf : fb_X11_draw_12 rec v2 v3 μ = some q) (hq : ok_X11_draw_12 K q) : ro_X K 12 [(0, .ref (ro_ad (kG K) 0)), (1, .ref (ro_ad (kG K) 2)), (2, .int v2), (3, .int v3)] [] μ := by
  unfold fb_X11_draw_12 at hf
  refine ro_iload_n hK 3 rfl dX11_draw_12 rfl ?_
  refine ro_iconst (v := 4) hK dX11_draw_13 (by decide) ?_
  refine ro_icmp_ge hK 65 dX11_draw_14 (by decide) (fun c1 => ?_) (fun c1 => ?_)
  · have hf := ro_it hf c1
    refine ro_sub (L' := [(0, .ref (ro_ad (kG K) 0)), (2, .int v2)]) [0, 2] rfl ?_
    obtain rfl := Option.some.inj hf
    exact hq
  · have hf := ro_ie hf c1
    refine ro_aload_n hK 1 rfl dX11_draw_17 rfl ?_
    refine ro_sipush (v := 25173) hK dX11_draw_18 (by decide) ?_
    refine ro_aload_n hK 1 rfl dX11_draw_21 rfl ?_
    refine ro_geti hK fl_X11_319 sh_2 dX11_draw_22 ?_
    refine ro_imul hK dX11_draw_25 ?_
    refine ro_sipush (v := 13849) hK dX11_draw_26 (by decide) ?_
    refine ro_iadd hK dX11_draw_29 ?_
    refine ro_ldcw hK kc_X11_318 dX11_draw_30 ?_
    refine ro_iand hK dX11_draw_33 ?_
    obtain ⟨m2, e3, hf⟩ := ro_ld hf
    refine ro_puti hK fl_X11_319 sh_2 rfl rfl dX11_draw_34 ?_
    refine ro_mv e3 ?_
    refine ro_aload_n hK 1 rfl dX11_draw_37 rfl ?_
    refine ro_getr hK fl_X11_118 sh_2 dX11_draw_38 ?_
    refine ro_iload_n hK 3 rfl dX11_draw_41 rfl ?_
    refine ro_aload_n hK 1 rfl dX11_draw_42 rfl ?_
    refine ro_geti hK fl_X11_319 sh_2 dX11_draw_43 ?_
    refine ro_bipush (v := 10) hK dX11_draw_46 (by decide) ?_
    refine ro_irem hK dX11_draw_48 (by decide) ?_
    obtain ⟨g4, hf⟩ := ro_gd hf
    obtain ⟨m5, e6, hf⟩ := ro_ld hf
    refine ro_iast hK sh_9 g4 dX11_draw_49 ?_
    refine ro_mv e6 ?_
    refine ro_iload_n hK 2 rfl dX11_draw_50 rfl ?_
    refine ro_aload_n hK 1 rfl dX11_draw_51 rfl ?_
    refine ro_getr hK fl_X11_118 sh_2 dX11_draw_52 ?_
    refine ro_iload_n hK 3 rfl dX11_draw_55 rfl ?_
    refine ro_iald hK sh_9 g4 dX11_draw_56 ?_
    refine ro_iadd hK dX11_draw_57 ?_
    obtain ⟨z7, e8, hf⟩ := ro_ld hf
    refine ro_iv e8 ?_
    refine ro_istore_n (L' := [(2, .int z7), (0, .ref (ro_ad (kG K) 0)), (1, .ref (ro_ad (kG K) 2)), (3, .int v3)]) hK dX11_draw_58 rfl (by decide) rfl ?_
    refine ro_iinc (v := v3 + 1) (L' := [(3, .int (v3 + 1)), (2, .int z7), (0, .ref (ro_ad (kG K) 0)), (1, .ref (ro_ad (kG K) 2))]) hK 3 rfl dX11_draw_59 rfl (by decide) rfl ?_
    refine ro_goto hK 12 dX11_draw_62 (by decide) ?_
    refine ro_sub (L' := [(0, .ref (ro_ad (kG K) 0)), (1, .ref (ro_ad (kG K) 2)), (2, .int z7), (3, .int (v3 + 1))]) [2, 3, 1, 0] rfl ?_
    exact hrec (z7, v3 + 1, m5) _ hf hq
def fl_X11_draw_12  : (Int32 × Int32 × ro_Mem) → Option (Int32 × ro_Mem) :=
  ro_loop (fun rec s => fb_X11_draw_12 rec s.1 s.2.1 s.2.2) ro_FU
theorem lp_X11_draw_12 {K : ro_K} (hK : ro_C K RX11 cX11_draw 4 0) (hR : ro_R K (some .int))   {s : Int32 × Int32 × ro_Mem} {q : (Int32 × ro_Mem)} (hf : fl_X11_draw_12 s = some q) (hq : ok_X11_draw_12 K q) : ro_X K 12 [(0, .ref (ro_ad (kG K) 0)), (1, .ref (ro_ad (kG K) 2)), (2, .int s.1), (3, .int s.2.1)] [] s.2.2 :=
  ro_loopX (b := fun rec s => fb_X11_draw_12 rec s.1 s.2.1 s.2.2) (X := fun s => ro_X K 12 [(0, .ref (ro_ad (kG K) 0)), (1, .ref (ro_ad (kG K) 2)), (2, .int s.1), (3, .int s.2.1)] [] s.2.2) (OK := ok_X11_draw_12 K) (fun rec s q hrec hb ho => bb_X11_draw_12 hK hR  hrec hb ho) ro_FU s q hf hq
def fn_X11_draw (μ : ro_Mem) : Option (Int32 × ro_Mem) :=
  (fl_X11_draw_12  (0, 0, μ)).bind fun q9 =>
  ro_lt (ro_set q9.2 0 7 1) fun m11 =>
  some (q9.1, m11)
theorem be_X11_draw {K : ro_K} (hK : ro_C K RX11 cX11_draw 4 0) (hR : ro_R K (some .int))   {μ : ro_Mem} {out : Int32 × ro_Mem} (hf : fn_X11_draw μ = some out) (hq : kQ K (some (.int out.1)) out.2) : ro_X K 0 [(0, .ref (ro_ad (kG K) 0))] [] μ := by
  unfold fn_X11_draw at hf
  refine ro_aload_n hK 0 rfl dX11_draw_0 rfl ?_
  refine ro_getr hK fl_X11_10 sh_0 dX11_draw_1 ?_
  refine ro_getr hK fl_X11_89 sh_1 dX11_draw_4 ?_
  refine ro_astore_n (L' := [(1, .ref (ro_ad (kG K) 2)), (0, .ref (ro_ad (kG K) 0))]) hK dX11_draw_7 rfl (by decide) rfl ?_
  refine ro_iconst (v := 0) hK dX11_draw_8 (by decide) ?_
  refine ro_istore_n (L' := [(2, .int 0), (1, .ref (ro_ad (kG K) 2)), (0, .ref (ro_ad (kG K) 0))]) hK dX11_draw_9 rfl (by decide) rfl ?_
  refine ro_iconst (v := 0) hK dX11_draw_10 (by decide) ?_
  refine ro_istore_n (L' := [(3, .int 0), (2, .int 0), (1, .ref (ro_ad (kG K) 2)), (0, .ref (ro_ad (kG K) 0))]) hK dX11_draw_11 rfl (by decide) rfl ?_
  obtain ⟨q9, e10, hf⟩ := ro_bd hf
  refine ro_sub (L' := [(0, .ref (ro_ad (kG K) 0)), (1, .ref (ro_ad (kG K) 2)), (2, .int 0), (3, .int 0)]) [3, 2, 1, 0] rfl ?_
  refine lp_X11_draw_12 hK hR  e10 ?_
  show ro_X K 65 [(0, .ref (ro_ad (kG K) 0)), (2, .int q9.1)] [] q9.2
  refine ro_aload_n hK 0 rfl dX11_draw_65 rfl ?_
  refine ro_iconst (v := 1) hK dX11_draw_66 (by decide) ?_
  obtain ⟨m11, e12, hf⟩ := ro_ld hf
  refine ro_putz hK fl_X11_51 sh_0 (by decide) dX11_draw_67 ?_
  refine ro_mv e12 ?_
  refine ro_iload_n hK 1 rfl dX11_draw_70 rfl ?_
  obtain rfl := Option.some.inj hf
  exact ro_iret hK hR dX11_draw_71 hq
theorem mt_X11_draw (l : Launch) (G : ro_G)   {μ : ro_Mem} {out : Int32 × ro_Mem} (hf : fn_X11_draw μ = some out) : ro_MX l G yX11_draw cX11_draw 4 (some .int) 0 [.ref (ro_ad G 0)] μ (some (.int out.1)) out.2 := by
  refine ro_MX.of (by decide +kernel) (Nat.le_of_ble_eq_true rfl) (fun K hG hl hq hK hR => ?_)
  subst hG
  exact be_X11_draw hK hR  hf hq
-- ===== X11_keep =====
theorem dX11_keep_0 : decode cX11_keep 0 = .ok (.aload_n 0, 1) := by decide +kernel
theorem dX11_keep_1 : decode cX11_keep 1 = .ok (.getfield 19, 3) := by decide +kernel
theorem dX11_keep_4 : decode cX11_keep 4 = .ok (.aload_n 0, 1) := by decide +kernel
theorem dX11_keep_5 : decode cX11_keep 5 = .ok (.getfield 10, 3) := by decide +kernel
theorem dX11_keep_8 : decode cX11_keep 8 = .ok (.getfield 89, 3) := by decide +kernel
theorem dX11_keep_11 : decode cX11_keep 11 = .ok (.invokevirtual 322, 3) := by decide +kernel
theorem dX11_keep_14 : decode cX11_keep 14 = .ok (.aload_n 0, 1) := by decide +kernel
theorem dX11_keep_15 : decode cX11_keep 15 = .ok (.iconst 1, 1) := by decide +kernel
theorem dX11_keep_16 : decode cX11_keep 16 = .ok (.putfield 326, 3) := by decide +kernel
theorem dX11_keep_19 : decode cX11_keep 19 = .ok (.aload_n 0, 1) := by decide +kernel
theorem dX11_keep_20 : decode cX11_keep 20 = .ok (.getfield 19, 3) := by decide +kernel
theorem dX11_keep_23 : decode cX11_keep 23 = .ok (.getfield 312, 3) := by decide +kernel
theorem dX11_keep_26 : decode cX11_keep 26 = .ok (.ireturn, 1) := by decide +kernel
def fn_X11_keep (μ : ro_Mem) : Option (Int32 × ro_Mem) :=
  (fn_X1_copyFrom 31 2 μ).bind fun q1 =>
  ro_lt (ro_set q1 0 2 1) fun m3 =>
  some (m3 31 12, m3)
theorem be_X11_keep {K : ro_K} (hK : ro_C K RX11 cX11_keep 1 2) (hR : ro_R K (some .int))   {μ : ro_Mem} {out : Int32 × ro_Mem} (hf : fn_X11_keep μ = some out) (hq : kQ K (some (.int out.1)) out.2) : ro_X K 0 [(0, .ref (ro_ad (kG K) 0))] [] μ := by
  unfold fn_X11_keep at hf
  refine ro_aload_n hK 0 rfl dX11_keep_0 rfl ?_
  refine ro_getr hK fl_X11_19 sh_0 dX11_keep_1 ?_
  refine ro_aload_n hK 0 rfl dX11_keep_4 rfl ?_
  refine ro_getr hK fl_X11_10 sh_0 dX11_keep_5 ?_
  refine ro_getr hK fl_X11_89 sh_1 dX11_keep_8 ?_
  obtain ⟨q1, e2, hf⟩ := ro_bd hf
  refine ro_callvv hK [.ref (ro_ad (kG K) 2)] ml_X11_322 mv_X1_copyFrom (mt_X1_copyFrom (kl K) (kG K) sh_31 sh_2 e2) sh_31 ⟨_, rfl, rfl⟩ (by decide) rfl rfl (Nat.le_of_ble_eq_true rfl) dX11_keep_11 ?_
  refine ro_aload_n hK 0 rfl dX11_keep_14 rfl ?_
  refine ro_iconst (v := 1) hK dX11_keep_15 (by decide) ?_
  obtain ⟨m3, e4, hf⟩ := ro_ld hf
  refine ro_putz hK fl_X11_326 sh_0 (by decide) dX11_keep_16 ?_
  refine ro_mv e4 ?_
  refine ro_aload_n hK 0 rfl dX11_keep_19 rfl ?_
  refine ro_getr hK fl_X11_19 sh_0 dX11_keep_20 ?_
  refine ro_geti hK fl_X11_312 sh_31 dX11_keep_23 ?_
  obtain rfl := Option.some.inj hf
  exact ro_iret hK hR dX11_keep_26 hq
theorem mt_X11_keep (l : Launch) (G : ro_G)   {μ : ro_Mem} {out : Int32 × ro_Mem} (hf : fn_X11_keep μ = some out) : ro_MX l G yX11_keep cX11_keep 1 (some .int) 2 [.ref (ro_ad G 0)] μ (some (.int out.1)) out.2 := by
  refine ro_MX.of (by decide +kernel) (Nat.le_of_ble_eq_true rfl) (fun K hG hl hq hK hR => ?_)
  subst hG
  exact be_X11_keep hK hR  hf hq
-- ===== X11_undo =====
theorem dX11_undo_0 : decode cX11_undo 0 = .ok (.aload_n 0, 1) := by decide +kernel
theorem dX11_undo_1 : decode cX11_undo 1 = .ok (.getfield 326, 3) := by decide +kernel
theorem dX11_undo_4 : decode cX11_undo 4 = .ok (.ifCond .ne 5, 3) := by decide +kernel
theorem dX11_undo_7 : decode cX11_undo 7 = .ok (.iconst 0, 1) := by decide +kernel
theorem dX11_undo_8 : decode cX11_undo 8 = .ok (.ireturn, 1) := by decide +kernel
theorem dX11_undo_9 : decode cX11_undo 9 = .ok (.aload_n 0, 1) := by decide +kernel
theorem dX11_undo_10 : decode cX11_undo 10 = .ok (.getfield 10, 3) := by decide +kernel
theorem dX11_undo_13 : decode cX11_undo 13 = .ok (.getfield 89, 3) := by decide +kernel
theorem dX11_undo_16 : decode cX11_undo 16 = .ok (.aload_n 0, 1) := by decide +kernel
theorem dX11_undo_17 : decode cX11_undo 17 = .ok (.getfield 19, 3) := by decide +kernel
theorem dX11_undo_20 : decode cX11_undo 20 = .ok (.invokevirtual 322, 3) := by decide +kernel
theorem dX11_undo_23 : decode cX11_undo 23 = .ok (.aload_n 0, 1) := by decide +kernel
theorem dX11_undo_24 : decode cX11_undo 24 = .ok (.iconst 1, 1) := by decide +kernel
theorem dX11_undo_25 : decode cX11_undo 25 = .ok (.putfield 51, 3) := by decide +kernel
theorem dX11_undo_28 : decode cX11_undo 28 = .ok (.iconst 1, 1) := by decide +kernel
theorem dX11_undo_29 : decode cX11_undo 29 = .ok (.ireturn, 1) := by decide +kernel
def fn_X11_undo (μ : ro_Mem) : Option (Int32 × ro_Mem) :=
  if (μ 0 2) = 0 then
  (some (0, μ))
  else
  ((fn_X1_copyFrom 2 31 μ).bind fun q2 =>
  ro_lt (ro_set q2 0 7 1) fun m4 =>
  some (1, m4))
theorem be_X11_undo {K : ro_K} (hK : ro_C K RX11 cX11_undo 1 2) (hR : ro_R K (some .boolean))   {μ : ro_Mem} {out : Int32 × ro_Mem} (hf : fn_X11_undo μ = some out) (hq : kQ K (some (.int out.1)) out.2) : ro_X K 0 [(0, .ref (ro_ad (kG K) 0))] [] μ := by
  unfold fn_X11_undo at hf
  refine ro_aload_n hK 0 rfl dX11_undo_0 rfl ?_
  refine ro_geti hK fl_X11_326 sh_0 dX11_undo_1 ?_
  refine ro_if_ne hK 9 dX11_undo_4 (by decide) (fun c1 => ?_) (fun c1 => ?_)
  · have hf := ro_ie hf c1
    refine ro_aload_n hK 0 rfl dX11_undo_9 rfl ?_
    refine ro_getr hK fl_X11_10 sh_0 dX11_undo_10 ?_
    refine ro_getr hK fl_X11_89 sh_1 dX11_undo_13 ?_
    refine ro_aload_n hK 0 rfl dX11_undo_16 rfl ?_
    refine ro_getr hK fl_X11_19 sh_0 dX11_undo_17 ?_
    obtain ⟨q2, e3, hf⟩ := ro_bd hf
    refine ro_callvv hK [.ref (ro_ad (kG K) 31)] ml_X11_322 mv_X1_copyFrom (mt_X1_copyFrom (kl K) (kG K) sh_2 sh_31 e3) sh_2 ⟨_, rfl, rfl⟩ (by decide) rfl rfl (Nat.le_of_ble_eq_true rfl) dX11_undo_20 ?_
    refine ro_aload_n hK 0 rfl dX11_undo_23 rfl ?_
    refine ro_iconst (v := 1) hK dX11_undo_24 (by decide) ?_
    obtain ⟨m4, e5, hf⟩ := ro_ld hf
    refine ro_putz hK fl_X11_51 sh_0 (by decide) dX11_undo_25 ?_
    refine ro_mv e5 ?_
    refine ro_iconst (v := 1) hK dX11_undo_28 (by decide) ?_
    obtain rfl := Option.some.inj hf
    exact ro_zret hK hR dX11_undo_29 (by decide) hq
  · have hf := ro_it hf c1
    refine ro_iconst (v := 0) hK dX11_undo_7 (by decide) ?_
    obtain rfl := Option.some.inj hf
    exact ro_zret hK hR dX11_undo_8 (by decide) hq
theorem mt_X11_undo (l : Launch) (G : ro_G)   {μ : ro_Mem} {out : Int32 × ro_Mem} (hf : fn_X11_undo μ = some out) : ro_MX l G yX11_undo cX11_undo 1 (some .boolean) 2 [.ref (ro_ad G 0)] μ (some (.int out.1)) out.2 := by
  refine ro_MX.of (by decide +kernel) (Nat.le_of_ble_eq_true rfl) (fun K hG hl hq hK hR => ?_)
  subst hG
  exact be_X11_undo hK hR  hf hq
-- ===== X11_check =====
theorem dX11_check_0 : decode cX11_check 0 = .ok (.iload_n 1, 1) := by decide +kernel
theorem dX11_check_1 : decode cX11_check 1 = .ok (.invokestatic 115, 3) := by decide +kernel
theorem dX11_check_4 : decode cX11_check 4 = .ok (.ifCond .eq 36, 3) := by decide +kernel
theorem dX11_check_7 : decode cX11_check 7 = .ok (.iload_n 2, 1) := by decide +kernel
theorem dX11_check_8 : decode cX11_check 8 = .ok (.ifCond .lt 32, 3) := by decide +kernel
theorem dX11_check_11 : decode cX11_check 11 = .ok (.iload_n 2, 1) := by decide +kernel
theorem dX11_check_12 : decode cX11_check 12 = .ok (.bipush 8, 2) := by decide +kernel
theorem dX11_check_14 : decode cX11_check 14 = .ok (.if_icmp .ge 26, 3) := by decide +kernel
theorem dX11_check_17 : decode cX11_check 17 = .ok (.iload_n 3, 1) := by decide +kernel
theorem dX11_check_18 : decode cX11_check 18 = .ok (.ifCond .lt 22, 3) := by decide +kernel
theorem dX11_check_21 : decode cX11_check 21 = .ok (.iload_n 3, 1) := by decide +kernel
theorem dX11_check_22 : decode cX11_check 22 = .ok (.bipush 12, 2) := by decide +kernel
theorem dX11_check_24 : decode cX11_check 24 = .ok (.if_icmp .gt 16, 3) := by decide +kernel
theorem dX11_check_27 : decode cX11_check 27 = .ok (.iconst 4, 1) := by decide +kernel
theorem dX11_check_28 : decode cX11_check 28 = .ok (.iload_n 3, 1) := by decide +kernel
theorem dX11_check_29 : decode cX11_check 29 = .ok (.imul, 1) := by decide +kernel
theorem dX11_check_30 : decode cX11_check 30 = .ok (.aload_n 0, 1) := by decide +kernel
theorem dX11_check_31 : decode cX11_check 31 = .ok (.getfield 40, 3) := by decide +kernel
theorem dX11_check_34 : decode cX11_check 34 = .ok (.getfield 134, 3) := by decide +kernel
theorem dX11_check_37 : decode cX11_check 37 = .ok (.if_icmp .le 6, 3) := by decide +kernel
theorem dX11_check_40 : decode cX11_check 40 = .ok (.bipush (-2), 2) := by decide +kernel
theorem dX11_check_42 : decode cX11_check 42 = .ok (.ireturn, 1) := by decide +kernel
theorem dX11_check_43 : decode cX11_check 43 = .ok (.aload_n 0, 1) := by decide +kernel
theorem dX11_check_44 : decode cX11_check 44 = .ok (.getfield 40, 3) := by decide +kernel
theorem dX11_check_47 : decode cX11_check 47 = .ok (.iconst 0, 1) := by decide +kernel
theorem dX11_check_48 : decode cX11_check 48 = .ok (.putfield 134, 3) := by decide +kernel
theorem dX11_check_51 : decode cX11_check 51 = .ok (.aload_n 0, 1) := by decide +kernel
theorem dX11_check_52 : decode cX11_check 52 = .ok (.invokevirtual 176, 3) := by decide +kernel
theorem dX11_check_55 : decode cX11_check 55 = .ok (.iconst 0, 1) := by decide +kernel
theorem dX11_check_56 : decode cX11_check 56 = .ok (.istore 4, 2) := by decide +kernel
theorem dX11_check_58 : decode cX11_check 58 = .ok (.iload 4, 2) := by decide +kernel
theorem dX11_check_60 : decode cX11_check 60 = .ok (.iload_n 3, 1) := by decide +kernel
theorem dX11_check_61 : decode cX11_check 61 = .ok (.if_icmp .ge 39, 3) := by decide +kernel
theorem dX11_check_64 : decode cX11_check 64 = .ok (.aload_n 0, 1) := by decide +kernel
theorem dX11_check_65 : decode cX11_check 65 = .ok (.getfield 40, 3) := by decide +kernel
theorem dX11_check_68 : decode cX11_check 68 = .ok (.iload 4, 2) := by decide +kernel
theorem dX11_check_70 : decode cX11_check 70 = .ok (.invokevirtual 329, 3) := by decide +kernel
theorem dX11_check_73 : decode cX11_check 73 = .ok (.aload_n 0, 1) := by decide +kernel
theorem dX11_check_74 : decode cX11_check 74 = .ok (.getfield 47, 3) := by decide +kernel
theorem dX11_check_77 : decode cX11_check 77 = .ok (.iload_n 2, 1) := by decide +kernel
theorem dX11_check_78 : decode cX11_check 78 = .ok (.bipush 12, 2) := by decide +kernel
theorem dX11_check_80 : decode cX11_check 80 = .ok (.imul, 1) := by decide +kernel
theorem dX11_check_81 : decode cX11_check 81 = .ok (.iload 4, 2) := by decide +kernel
theorem dX11_check_83 : decode cX11_check 83 = .ok (.iadd, 1) := by decide +kernel
theorem dX11_check_84 : decode cX11_check 84 = .ok (.iload_n 1, 1) := by decide +kernel
theorem dX11_check_85 : decode cX11_check 85 = .ok (.invokevirtual 185, 3) := by decide +kernel
theorem dX11_check_88 : decode cX11_check 88 = .ok (.if_icmp .eq 6, 3) := by decide +kernel
theorem dX11_check_91 : decode cX11_check 91 = .ok (.iload 4, 2) := by decide +kernel
theorem dX11_check_93 : decode cX11_check 93 = .ok (.ireturn, 1) := by decide +kernel
theorem dX11_check_94 : decode cX11_check 94 = .ok (.iinc 4 1, 3) := by decide +kernel
theorem dX11_check_97 : decode cX11_check 97 = .ok (.goto (-39), 3) := by decide +kernel
theorem dX11_check_100 : decode cX11_check 100 = .ok (.iconst (-1), 1) := by decide +kernel
theorem dX11_check_101 : decode cX11_check 101 = .ok (.ireturn, 1) := by decide +kernel
def ok_X11_check_58 (K : ro_K) (v1 : Int32) (v2 : Int32) (v3 : Int32) (μ : ro_Mem) : (Int32 ⊕ Unit) → Prop := Sum.elim (fun e => ro_X K 91 [(4, .int e)] [] μ) (fun e => ro_X K 100 [] [] μ)
def fb_X11_check_58 (v1 : Int32) (v2 : Int32) (v3 : Int32) (μ : ro_Mem) (rec : Int32 → Option (Int32 ⊕ Unit)) (v4 : Int32) : Option (Int32 ⊕ Unit) :=
  if v3 ≤ v4 then
  (some (.inr ()))
  else
  ((fn_X8_numberAt v4 μ).bind fun q14 =>
  (fn_X0_seatWet ((v2 * 12) + v4) v1 μ).bind fun q16 =>
  if q14 = q16 then
  (rec (v4 + 1))
  else
  (some (.inl v4)))
theorem bb_X11_check_58 {K : ro_K} (hK : ro_C K RX11 cX11_check 5 6) (hR : ro_R K (some .int)) {v1 : Int32} {v2 : Int32} {v3 : Int32}  {μ : ro_Mem} {rec : Int32 → Option (Int32 ⊕ Unit)} {v4 : Int32} {q : (Int32 ⊕ Unit)} (hrec : ∀ (s : Int32) (q : (Int32 ⊕ Unit)), rec s = some q → ok_X11_check_58 K v1 v2 v3 μ q → ro_X K 58 [(0, .ref (ro_ad (kG K) 0)), (1, .int v1), (2, .int v2), (3, .int v3), (4, .int s)] [] μ) (hf : fb_X11_check_58 v1 v2 v3 μ rec v4 = some q) (hq : ok_X11_check_58 K v1 v2 v3 μ q) : ro_X K 58 [(0, .ref (ro_ad (kG K) 0)), (1, .int v1), (2, .int v2), (3, .int v3), (4, .int v4)] [] μ := by
  unfold fb_X11_check_58 at hf
  refine ro_iload hK 4 rfl dX11_check_58 ?_
  refine ro_iload_n hK 3 rfl dX11_check_60 rfl ?_
  refine ro_icmp_ge hK 100 dX11_check_61 (by decide) (fun c13 => ?_) (fun c13 => ?_)
  · have hf := ro_it hf c13
    refine ro_sub (L' := []) [] rfl ?_
    obtain rfl := Option.some.inj hf
    exact hq
  · have hf := ro_ie hf c13
    refine ro_aload_n hK 0 rfl dX11_check_64 rfl ?_
    refine ro_getr hK fl_X11_40 sh_0 dX11_check_65 ?_
    refine ro_iload hK 4 rfl dX11_check_68 ?_
    obtain ⟨q14, e15, hf⟩ := ro_bd hf
    refine ro_callvi hK [.int v4] ml_X11_329 mv_X8_numberAt (mt_X8_numberAt (kl K) (kG K)  e15) sh_60 ⟨_, rfl, rfl⟩ (by decide) rfl rfl (Nat.le_of_ble_eq_true rfl) dX11_check_70 ?_
    refine ro_aload_n hK 0 rfl dX11_check_73 rfl ?_
    refine ro_getr hK fl_X11_47 sh_0 dX11_check_74 ?_
    refine ro_iload_n hK 2 rfl dX11_check_77 rfl ?_
    refine ro_bipush (v := 12) hK dX11_check_78 (by decide) ?_
    refine ro_imul hK dX11_check_80 ?_
    refine ro_iload hK 4 rfl dX11_check_81 ?_
    refine ro_iadd hK dX11_check_83 ?_
    refine ro_iload_n hK 1 rfl dX11_check_84 rfl ?_
    obtain ⟨q16, e17, hf⟩ := ro_bd hf
    refine ro_callvi hK [.int ((v2 * 12) + v4), .int v1] ml_X11_185 mv_X0_seatWet (mt_X0_seatWet (kl K) (kG K)  e17) sh_62 ⟨_, rfl, rfl⟩ (by decide) rfl rfl (Nat.le_of_ble_eq_true rfl) dX11_check_85 ?_
    refine ro_icmp_eq hK 94 dX11_check_88 (by decide) (fun c18 => ?_) (fun c18 => ?_)
    · have hf := ro_it hf c18
      refine ro_iinc (v := v4 + 1) (L' := [(4, .int (v4 + 1)), (0, .ref (ro_ad (kG K) 0)), (1, .int v1), (2, .int v2), (3, .int v3)]) hK 4 rfl dX11_check_94 rfl (by decide) rfl ?_
      refine ro_goto hK 58 dX11_check_97 (by decide) ?_
      refine ro_sub (L' := [(0, .ref (ro_ad (kG K) 0)), (1, .int v1), (2, .int v2), (3, .int v3), (4, .int (v4 + 1))]) [1, 2, 3, 4, 0] rfl ?_
      exact hrec (v4 + 1) _ hf hq
    · have hf := ro_ie hf c18
      refine ro_sub (L' := [(4, .int v4)]) [4] rfl ?_
      obtain rfl := Option.some.inj hf
      exact hq
def fl_X11_check_58 (v1 : Int32) (v2 : Int32) (v3 : Int32) (μ : ro_Mem) : Int32 → Option (Int32 ⊕ Unit) :=
  ro_loop (fun rec s => fb_X11_check_58 v1 v2 v3 μ rec s) ro_FU
theorem lp_X11_check_58 {K : ro_K} (hK : ro_C K RX11 cX11_check 5 6) (hR : ro_R K (some .int)) {v1 : Int32} {v2 : Int32} {v3 : Int32}  {μ : ro_Mem} {s : Int32} {q : (Int32 ⊕ Unit)} (hf : fl_X11_check_58 v1 v2 v3 μ s = some q) (hq : ok_X11_check_58 K v1 v2 v3 μ q) : ro_X K 58 [(0, .ref (ro_ad (kG K) 0)), (1, .int v1), (2, .int v2), (3, .int v3), (4, .int s)] [] μ :=
  ro_loopX (b := fun rec s => fb_X11_check_58 v1 v2 v3 μ rec s) (X := fun s => ro_X K 58 [(0, .ref (ro_ad (kG K) 0)), (1, .int v1), (2, .int v2), (3, .int v3), (4, .int s)] [] μ) (OK := ok_X11_check_58 K v1 v2 v3 μ) (fun rec s q hrec hb ho => bb_X11_check_58 hK hR  hrec hb ho) ro_FU s q hf hq
def fn_X11_check (v1 : Int32) (v2 : Int32) (v3 : Int32) (μ : ro_Mem) : Option (Int32 × ro_Mem) :=
  (fn_X11_isAct v1).bind fun q1 =>
  if q1 = 0 then
  (some ((-2), μ))
  else
  (if v2 < 0 then
  (some ((-2), μ))
  else
  (if 8 ≤ v2 then
  (some ((-2), μ))
  else
  (if v3 < 0 then
  (some ((-2), μ))
  else
  (if 12 < v3 then
  (some ((-2), μ))
  else
  (if (4 * v3) ≤ (μ 60 1) then
  (ro_lt (ro_set μ 60 1 0) fun m9 =>
  (fn_X11_refresh m9).bind fun q11 =>
  (fl_X11_check_58 v1 v2 v3 q11 0).bind fun q19 =>
  q19.elim (fun e21 => some (e21, q11)) (fun e22 => some ((-1), q11)))
  else
  (some ((-2), μ)))))))
theorem be_X11_check {K : ro_K} (hK : ro_C K RX11 cX11_check 5 6) (hR : ro_R K (some .int)) {v1 : Int32} {v2 : Int32} {v3 : Int32}  {μ : ro_Mem} {out : Int32 × ro_Mem} (hf : fn_X11_check v1 v2 v3 μ = some out) (hq : kQ K (some (.int out.1)) out.2) : ro_X K 0 [(0, .ref (ro_ad (kG K) 0)), (1, .int v1), (2, .int v2), (3, .int v3)] [] μ := by
  unfold fn_X11_check at hf
  refine ro_iload_n hK 1 rfl dX11_check_0 rfl ?_
  obtain ⟨q1, e2, hf⟩ := ro_bd hf
  refine ro_callsi hK [.int v1] ml_X11_115 ms_X11_isAct (mt_X11_isAct (kl K) (kG K)  e2) (by decide) rfl rfl (Nat.le_of_ble_eq_true rfl) dX11_check_1 ?_
  refine ro_if_eq hK 40 dX11_check_4 (by decide) (fun c3 => ?_) (fun c3 => ?_)
  · have hf := ro_it hf c3
    refine ro_bipush (v := (-2)) hK dX11_check_40 (by decide) ?_
    obtain rfl := Option.some.inj hf
    exact ro_iret hK hR dX11_check_42 hq
  · have hf := ro_ie hf c3
    refine ro_iload_n hK 2 rfl dX11_check_7 rfl ?_
    refine ro_if_lt hK 40 dX11_check_8 (by decide) (fun c4 => ?_) (fun c4 => ?_)
    · have hf := ro_it hf c4
      refine ro_bipush (v := (-2)) hK dX11_check_40 (by decide) ?_
      obtain rfl := Option.some.inj hf
      exact ro_iret hK hR dX11_check_42 hq
    · have hf := ro_ie hf c4
      refine ro_iload_n hK 2 rfl dX11_check_11 rfl ?_
      refine ro_bipush (v := 8) hK dX11_check_12 (by decide) ?_
      refine ro_icmp_ge hK 40 dX11_check_14 (by decide) (fun c5 => ?_) (fun c5 => ?_)
      · have hf := ro_it hf c5
        refine ro_bipush (v := (-2)) hK dX11_check_40 (by decide) ?_
        obtain rfl := Option.some.inj hf
        exact ro_iret hK hR dX11_check_42 hq
      · have hf := ro_ie hf c5
        refine ro_iload_n hK 3 rfl dX11_check_17 rfl ?_
        refine ro_if_lt hK 40 dX11_check_18 (by decide) (fun c6 => ?_) (fun c6 => ?_)
        · have hf := ro_it hf c6
          refine ro_bipush (v := (-2)) hK dX11_check_40 (by decide) ?_
          obtain rfl := Option.some.inj hf
          exact ro_iret hK hR dX11_check_42 hq
        · have hf := ro_ie hf c6
          refine ro_iload_n hK 3 rfl dX11_check_21 rfl ?_
          refine ro_bipush (v := 12) hK dX11_check_22 (by decide) ?_
          refine ro_icmp_gt hK 40 dX11_check_24 (by decide) (fun c7 => ?_) (fun c7 => ?_)
          · have hf := ro_it hf c7
            refine ro_bipush (v := (-2)) hK dX11_check_40 (by decide) ?_
            obtain rfl := Option.some.inj hf
            exact ro_iret hK hR dX11_check_42 hq
          · have hf := ro_ie hf c7
            refine ro_iconst (v := 4) hK dX11_check_27 (by decide) ?_
            refine ro_iload_n hK 3 rfl dX11_check_28 rfl ?_
            refine ro_imul hK dX11_check_29 ?_
            refine ro_aload_n hK 0 rfl dX11_check_30 rfl ?_
            refine ro_getr hK fl_X11_40 sh_0 dX11_check_31 ?_
            refine ro_geti hK fl_X11_134 sh_60 dX11_check_34 ?_
            refine ro_icmp_le hK 43 dX11_check_37 (by decide) (fun c8 => ?_) (fun c8 => ?_)
            · have hf := ro_it hf c8
              refine ro_aload_n hK 0 rfl dX11_check_43 rfl ?_
              refine ro_getr hK fl_X11_40 sh_0 dX11_check_44 ?_
              refine ro_iconst (v := 0) hK dX11_check_47 (by decide) ?_
              obtain ⟨m9, e10, hf⟩ := ro_ld hf
              refine ro_puti hK fl_X11_134 sh_60 rfl rfl dX11_check_48 ?_
              refine ro_mv e10 ?_
              refine ro_aload_n hK 0 rfl dX11_check_51 rfl ?_
              obtain ⟨q11, e12, hf⟩ := ro_bd hf
              refine ro_callvv hK [] ml_X11_176 mv_X11_refresh (mt_X11_refresh (kl K) (kG K)  e12) sh_0 ⟨_, rfl, rfl⟩ (by decide) rfl rfl (Nat.le_of_ble_eq_true rfl) dX11_check_52 ?_
              refine ro_iconst (v := 0) hK dX11_check_55 (by decide) ?_
              refine ro_istore (L' := [(4, .int 0), (0, .ref (ro_ad (kG K) 0)), (1, .int v1), (2, .int v2), (3, .int v3)]) hK dX11_check_56 (by decide) rfl ?_
              obtain ⟨q19, e20, hf⟩ := ro_bd hf
              refine ro_sub (L' := [(0, .ref (ro_ad (kG K) 0)), (1, .int v1), (2, .int v2), (3, .int v3), (4, .int 0)]) [1, 2, 3, 4, 0] rfl ?_
              refine lp_X11_check_58 hK hR  e20 ?_
              rcases q19 with e21 | e22
              · have hf := ro_el hf
                show ro_X K 91 [(4, .int e21)] [] q11
                refine ro_iload hK 0 rfl dX11_check_91 ?_
                obtain rfl := Option.some.inj hf
                exact ro_iret hK hR dX11_check_93 hq
              · have hf := ro_er hf
                show ro_X K 100 [] [] q11
                refine ro_iconst (v := (-1)) hK dX11_check_100 (by decide) ?_
                obtain rfl := Option.some.inj hf
                exact ro_iret hK hR dX11_check_101 hq
            · have hf := ro_ie hf c8
              refine ro_bipush (v := (-2)) hK dX11_check_40 (by decide) ?_
              obtain rfl := Option.some.inj hf
              exact ro_iret hK hR dX11_check_42 hq
theorem mt_X11_check (l : Launch) (G : ro_G) {v1 : Int32} {v2 : Int32} {v3 : Int32}  {μ : ro_Mem} {out : Int32 × ro_Mem} (hf : fn_X11_check v1 v2 v3 μ = some out) : ro_MX l G yX11_check cX11_check 5 (some .int) 6 [.ref (ro_ad G 0), .int v1, .int v2, .int v3] μ (some (.int out.1)) out.2 := by
  refine ro_MX.of (by decide +kernel) (Nat.le_of_ble_eq_true rfl) (fun K hG hl hq hK hR => ?_)
  subst hG
  exact be_X11_check hK hR  hf hq
-- ===== X11_count =====
theorem dX11_count_0 : decode cX11_count 0 = .ok (.aload_n 0, 1) := by decide +kernel
theorem dX11_count_1 : decode cX11_count 1 = .ok (.getfield 10, 3) := by decide +kernel
theorem dX11_count_4 : decode cX11_count 4 = .ok (.getfield 89, 3) := by decide +kernel
theorem dX11_count_7 : decode cX11_count 7 = .ok (.astore_n 2, 1) := by decide +kernel
theorem dX11_count_8 : decode cX11_count 8 = .ok (.iload_n 1, 1) := by decide +kernel
theorem dX11_count_9 : decode cX11_count 9 = .ok (.tableswitch 123 0 8 #[51, 62, 73, 84, 95, 103, 108, 113, 118], 51) := by decide +kernel
theorem dX11_count_60 : decode cX11_count 60 = .ok (.aload_n 0, 1) := by decide +kernel
theorem dX11_count_61 : decode cX11_count 61 = .ok (.getfield 10, 3) := by decide +kernel
theorem dX11_count_64 : decode cX11_count 64 = .ok (.getfield 147, 3) := by decide +kernel
theorem dX11_count_67 : decode cX11_count 67 = .ok (.getfield 158, 3) := by decide +kernel
theorem dX11_count_70 : decode cX11_count 70 = .ok (.ireturn, 1) := by decide +kernel
theorem dX11_count_71 : decode cX11_count 71 = .ok (.aload_n 0, 1) := by decide +kernel
theorem dX11_count_72 : decode cX11_count 72 = .ok (.getfield 10, 3) := by decide +kernel
theorem dX11_count_75 : decode cX11_count 75 = .ok (.getfield 147, 3) := by decide +kernel
theorem dX11_count_78 : decode cX11_count 78 = .ok (.getfield 332, 3) := by decide +kernel
theorem dX11_count_81 : decode cX11_count 81 = .ok (.ireturn, 1) := by decide +kernel
theorem dX11_count_82 : decode cX11_count 82 = .ok (.aload_n 0, 1) := by decide +kernel
theorem dX11_count_83 : decode cX11_count 83 = .ok (.getfield 10, 3) := by decide +kernel
theorem dX11_count_86 : decode cX11_count 86 = .ok (.getfield 147, 3) := by decide +kernel
theorem dX11_count_89 : decode cX11_count 89 = .ok (.getfield 266, 3) := by decide +kernel
theorem dX11_count_92 : decode cX11_count 92 = .ok (.ireturn, 1) := by decide +kernel
theorem dX11_count_93 : decode cX11_count 93 = .ok (.aload_n 0, 1) := by decide +kernel
theorem dX11_count_94 : decode cX11_count 94 = .ok (.getfield 10, 3) := by decide +kernel
theorem dX11_count_97 : decode cX11_count 97 = .ok (.getfield 153, 3) := by decide +kernel
theorem dX11_count_100 : decode cX11_count 100 = .ok (.getfield 335, 3) := by decide +kernel
theorem dX11_count_103 : decode cX11_count 103 = .ok (.ireturn, 1) := by decide +kernel
theorem dX11_count_104 : decode cX11_count 104 = .ok (.aload_n 0, 1) := by decide +kernel
theorem dX11_count_105 : decode cX11_count 105 = .ok (.getfield 40, 3) := by decide +kernel
theorem dX11_count_108 : decode cX11_count 108 = .ok (.getfield 134, 3) := by decide +kernel
theorem dX11_count_111 : decode cX11_count 111 = .ok (.ireturn, 1) := by decide +kernel
theorem dX11_count_112 : decode cX11_count 112 = .ok (.aload_n 2, 1) := by decide +kernel
theorem dX11_count_113 : decode cX11_count 113 = .ok (.getfield 319, 3) := by decide +kernel
theorem dX11_count_116 : decode cX11_count 116 = .ok (.ireturn, 1) := by decide +kernel
theorem dX11_count_117 : decode cX11_count 117 = .ok (.aload_n 2, 1) := by decide +kernel
theorem dX11_count_118 : decode cX11_count 118 = .ok (.getfield 340, 3) := by decide +kernel
theorem dX11_count_121 : decode cX11_count 121 = .ok (.ireturn, 1) := by decide +kernel
theorem dX11_count_122 : decode cX11_count 122 = .ok (.aload_n 2, 1) := by decide +kernel
theorem dX11_count_123 : decode cX11_count 123 = .ok (.getfield 111, 3) := by decide +kernel
theorem dX11_count_126 : decode cX11_count 126 = .ok (.ireturn, 1) := by decide +kernel
theorem dX11_count_127 : decode cX11_count 127 = .ok (.aload_n 2, 1) := by decide +kernel
theorem dX11_count_128 : decode cX11_count 128 = .ok (.getfield 343, 3) := by decide +kernel
theorem dX11_count_131 : decode cX11_count 131 = .ok (.ireturn, 1) := by decide +kernel
theorem dX11_count_132 : decode cX11_count 132 = .ok (.aload_n 2, 1) := by decide +kernel
theorem dX11_count_133 : decode cX11_count 133 = .ok (.iload_n 1, 1) := by decide +kernel
theorem dX11_count_134 : decode cX11_count 134 = .ok (.invokevirtual 346, 3) := by decide +kernel
theorem dX11_count_137 : decode cX11_count 137 = .ok (.ireturn, 1) := by decide +kernel
def fn_X11_count (v1 : Int32) (μ : ro_Mem) : Option Int32 :=
  if v1 = 0 then
  (if ro_sh (ro_rf μ 1 1) = (0, 5) then
  (some (μ (ro_rf μ 1 1) 5)) else none)
  else
  (if v1 = 1 then
  (if ro_sh (ro_rf μ 1 1) = (0, 5) then
  (some (μ (ro_rf μ 1 1) 6)) else none)
  else
  (if v1 = 2 then
  (if ro_sh (ro_rf μ 1 1) = (0, 5) then
  (some (μ (ro_rf μ 1 1) 7)) else none)
  else
  (if v1 = 3 then
  (if ro_sh (ro_rf μ 1 2) = (0, 2) then
  (some (μ (ro_rf μ 1 2) 3)) else none)
  else
  (if v1 = 4 then
  (some (μ 60 1))
  else
  (if v1 = 5 then
  (some (μ 2 17))
  else
  (if v1 = 6 then
  (some (μ 2 6))
  else
  (if v1 = 7 then
  (some (μ 2 7))
  else
  (if v1 = 8 then
  (some (μ 2 11))
  else
  ((fn_X1_countAt 2 v1 μ).bind fun q5 =>
  some q5)))))))))
theorem be_X11_count {K : ro_K} (hK : ro_C K RX11 cX11_count 3 2) (hR : ro_R K (some .int)) {v1 : Int32}  {μ : ro_Mem} {out : Int32} (hf : fn_X11_count v1 μ = some out) (hq : kQ K (some (.int out)) μ) : ro_X K 0 [(0, .ref (ro_ad (kG K) 0)), (1, .int v1)] [] μ := by
  unfold fn_X11_count at hf
  refine ro_aload_n hK 0 rfl dX11_count_0 rfl ?_
  refine ro_getr hK fl_X11_10 sh_0 dX11_count_1 ?_
  refine ro_getr hK fl_X11_89 sh_1 dX11_count_4 ?_
  refine ro_astore_n (L' := [(2, .ref (ro_ad (kG K) 2)), (0, .ref (ro_ad (kG K) 0)), (1, .int v1)]) hK dX11_count_7 rfl (by decide) rfl ?_
  refine ro_iload_n hK 2 rfl dX11_count_8 rfl ?_
  by_cases c_0 : v1 = 0
  · have hf := ro_it hf c_0
    refine ro_tabIn hK 0 60 dX11_count_9 c_0 (by decide) (by decide) rfl (by decide) ?_
    refine ro_aload_n hK 1 rfl dX11_count_60 rfl ?_
    refine ro_getr hK fl_X11_10 sh_0 dX11_count_61 ?_
    obtain ⟨g1, hf⟩ := ro_gd hf
    refine ro_getm hK fl_X11_147 sh_1 dX11_count_64 ?_
    refine ro_geti hK fl_X11_158 g1 dX11_count_67 ?_
    obtain rfl := Option.some.inj hf
    exact ro_iret hK hR dX11_count_70 hq
  have hf := ro_ie hf c_0
  by_cases c_1 : v1 = 1
  · have hf := ro_it hf c_1
    refine ro_tabIn hK 1 71 dX11_count_9 c_1 (by decide) (by decide) rfl (by decide) ?_
    refine ro_aload_n hK 1 rfl dX11_count_71 rfl ?_
    refine ro_getr hK fl_X11_10 sh_0 dX11_count_72 ?_
    obtain ⟨g2, hf⟩ := ro_gd hf
    refine ro_getm hK fl_X11_147 sh_1 dX11_count_75 ?_
    refine ro_geti hK fl_X11_332 g2 dX11_count_78 ?_
    obtain rfl := Option.some.inj hf
    exact ro_iret hK hR dX11_count_81 hq
  have hf := ro_ie hf c_1
  by_cases c_2 : v1 = 2
  · have hf := ro_it hf c_2
    refine ro_tabIn hK 2 82 dX11_count_9 c_2 (by decide) (by decide) rfl (by decide) ?_
    refine ro_aload_n hK 1 rfl dX11_count_82 rfl ?_
    refine ro_getr hK fl_X11_10 sh_0 dX11_count_83 ?_
    obtain ⟨g3, hf⟩ := ro_gd hf
    refine ro_getm hK fl_X11_147 sh_1 dX11_count_86 ?_
    refine ro_geti hK fl_X11_266 g3 dX11_count_89 ?_
    obtain rfl := Option.some.inj hf
    exact ro_iret hK hR dX11_count_92 hq
  have hf := ro_ie hf c_2
  by_cases c_3 : v1 = 3
  · have hf := ro_it hf c_3
    refine ro_tabIn hK 3 93 dX11_count_9 c_3 (by decide) (by decide) rfl (by decide) ?_
    refine ro_aload_n hK 1 rfl dX11_count_93 rfl ?_
    refine ro_getr hK fl_X11_10 sh_0 dX11_count_94 ?_
    obtain ⟨g4, hf⟩ := ro_gd hf
    refine ro_getm hK fl_X11_153 sh_1 dX11_count_97 ?_
    refine ro_geti hK fl_X11_335 g4 dX11_count_100 ?_
    obtain rfl := Option.some.inj hf
    exact ro_iret hK hR dX11_count_103 hq
  have hf := ro_ie hf c_3
  by_cases c_4 : v1 = 4
  · have hf := ro_it hf c_4
    refine ro_tabIn hK 4 104 dX11_count_9 c_4 (by decide) (by decide) rfl (by decide) ?_
    refine ro_aload_n hK 1 rfl dX11_count_104 rfl ?_
    refine ro_getr hK fl_X11_40 sh_0 dX11_count_105 ?_
    refine ro_geti hK fl_X11_134 sh_60 dX11_count_108 ?_
    obtain rfl := Option.some.inj hf
    exact ro_iret hK hR dX11_count_111 hq
  have hf := ro_ie hf c_4
  by_cases c_5 : v1 = 5
  · have hf := ro_it hf c_5
    refine ro_tabIn hK 5 112 dX11_count_9 c_5 (by decide) (by decide) rfl (by decide) ?_
    refine ro_aload_n hK 0 rfl dX11_count_112 rfl ?_
    refine ro_geti hK fl_X11_319 sh_2 dX11_count_113 ?_
    obtain rfl := Option.some.inj hf
    exact ro_iret hK hR dX11_count_116 hq
  have hf := ro_ie hf c_5
  by_cases c_6 : v1 = 6
  · have hf := ro_it hf c_6
    refine ro_tabIn hK 6 117 dX11_count_9 c_6 (by decide) (by decide) rfl (by decide) ?_
    refine ro_aload_n hK 0 rfl dX11_count_117 rfl ?_
    refine ro_geti hK fl_X11_340 sh_2 dX11_count_118 ?_
    obtain rfl := Option.some.inj hf
    exact ro_iret hK hR dX11_count_121 hq
  have hf := ro_ie hf c_6
  by_cases c_7 : v1 = 7
  · have hf := ro_it hf c_7
    refine ro_tabIn hK 7 122 dX11_count_9 c_7 (by decide) (by decide) rfl (by decide) ?_
    refine ro_aload_n hK 0 rfl dX11_count_122 rfl ?_
    refine ro_geti hK fl_X11_111 sh_2 dX11_count_123 ?_
    obtain rfl := Option.some.inj hf
    exact ro_iret hK hR dX11_count_126 hq
  have hf := ro_ie hf c_7
  by_cases c_8 : v1 = 8
  · have hf := ro_it hf c_8
    refine ro_tabIn hK 8 127 dX11_count_9 c_8 (by decide) (by decide) rfl (by decide) ?_
    refine ro_aload_n hK 0 rfl dX11_count_127 rfl ?_
    refine ro_geti hK fl_X11_343 sh_2 dX11_count_128 ?_
    obtain rfl := Option.some.inj hf
    exact ro_iret hK hR dX11_count_131 hq
  have hf := ro_ie hf c_8
  have tw0 : ¬ v1.toInt = 0 := lv_neT (a := 0) c_0 rfl
  have tw1 : ¬ v1.toInt = 1 := lv_neT (a := 1) c_1 rfl
  have tw2 : ¬ v1.toInt = 2 := lv_neT (a := 2) c_2 rfl
  have tw3 : ¬ v1.toInt = 3 := lv_neT (a := 3) c_3 rfl
  have tw4 : ¬ v1.toInt = 4 := lv_neT (a := 4) c_4 rfl
  have tw5 : ¬ v1.toInt = 5 := lv_neT (a := 5) c_5 rfl
  have tw6 : ¬ v1.toInt = 6 := lv_neT (a := 6) c_6 rfl
  have tw7 : ¬ v1.toInt = 7 := lv_neT (a := 7) c_7 rfl
  have tw8 : ¬ v1.toInt = 8 := lv_neT (a := 8) c_8 rfl
  refine ro_tabOut hK 132 dX11_count_9 (by omega) (by decide) ?_
  refine ro_aload_n hK 0 rfl dX11_count_132 rfl ?_
  refine ro_iload_n hK 2 rfl dX11_count_133 rfl ?_
  obtain ⟨q5, e6, hf⟩ := ro_bd hf
  refine ro_callvi hK [.int v1] ml_X11_346 mv_X1_countAt (mt_X1_countAt (kl K) (kG K) sh_2 e6) sh_2 ⟨_, rfl, rfl⟩ (by decide) rfl rfl (Nat.le_of_ble_eq_true rfl) dX11_count_134 ?_
  obtain rfl := Option.some.inj hf
  exact ro_iret hK hR dX11_count_137 hq
theorem mt_X11_count (l : Launch) (G : ro_G) {v1 : Int32}  {μ : ro_Mem} {out : Int32} (hf : fn_X11_count v1 μ = some out) : ro_MX l G yX11_count cX11_count 3 (some .int) 2 [.ref (ro_ad G 0), .int v1] μ (some (.int out)) μ := by
  refine ro_MX.of (by decide +kernel) (Nat.le_of_ble_eq_true rfl) (fun K hG hl hq hK hR => ?_)
  subst hG
  exact be_X11_count hK hR  hf hq
