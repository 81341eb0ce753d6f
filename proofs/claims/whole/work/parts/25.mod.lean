-- ===== X12_byLaw =====
theorem dX12_byLaw_0 : decode cX12_byLaw 0 = .ok (.iconst 0, 1) := by decide +kernel
theorem dX12_byLaw_1 : decode cX12_byLaw 1 = .ok (.istore_n 3, 1) := by decide +kernel
theorem dX12_byLaw_2 : decode cX12_byLaw 2 = .ok (.iload_n 3, 1) := by decide +kernel
theorem dX12_byLaw_3 : decode cX12_byLaw 3 = .ok (.aload_n 0, 1) := by decide +kernel
theorem dX12_byLaw_4 : decode cX12_byLaw 4 = .ok (.getfield 375, 3) := by decide +kernel
theorem dX12_byLaw_7 : decode cX12_byLaw 7 = .ok (.if_icmp .ge 82, 3) := by decide +kernel
theorem dX12_byLaw_10 : decode cX12_byLaw 10 = .ok (.aload_n 0, 1) := by decide +kernel
theorem dX12_byLaw_11 : decode cX12_byLaw 11 = .ok (.getfield 93, 3) := by decide +kernel
theorem dX12_byLaw_14 : decode cX12_byLaw 14 = .ok (.iload_n 3, 1) := by decide +kernel
theorem dX12_byLaw_15 : decode cX12_byLaw 15 = .ok (.iaload, 1) := by decide +kernel
theorem dX12_byLaw_16 : decode cX12_byLaw 16 = .ok (.iload_n 1, 1) := by decide +kernel
theorem dX12_byLaw_17 : decode cX12_byLaw 17 = .ok (.if_icmp .ne 66, 3) := by decide +kernel
theorem dX12_byLaw_20 : decode cX12_byLaw 20 = .ok (.aload_n 0, 1) := by decide +kernel
theorem dX12_byLaw_21 : decode cX12_byLaw 21 = .ok (.aload_n 0, 1) := by decide +kernel
theorem dX12_byLaw_22 : decode cX12_byLaw 22 = .ok (.getfield 99, 3) := by decide +kernel
theorem dX12_byLaw_25 : decode cX12_byLaw 25 = .ok (.iload_n 3, 1) := by decide +kernel
theorem dX12_byLaw_26 : decode cX12_byLaw 26 = .ok (.iaload, 1) := by decide +kernel
theorem dX12_byLaw_27 : decode cX12_byLaw 27 = .ok (.aload_n 0, 1) := by decide +kernel
theorem dX12_byLaw_28 : decode cX12_byLaw 28 = .ok (.getfield 102, 3) := by decide +kernel
theorem dX12_byLaw_31 : decode cX12_byLaw 31 = .ok (.iload_n 3, 1) := by decide +kernel
theorem dX12_byLaw_32 : decode cX12_byLaw 32 = .ok (.iaload, 1) := by decide +kernel
theorem dX12_byLaw_33 : decode cX12_byLaw 33 = .ok (.invokevirtual 382, 3) := by decide +kernel
theorem dX12_byLaw_36 : decode cX12_byLaw 36 = .ok (.iconst 1, 1) := by decide +kernel
theorem dX12_byLaw_37 : decode cX12_byLaw 37 = .ok (.if_icmp .eq 6, 3) := by decide +kernel
theorem dX12_byLaw_40 : decode cX12_byLaw 40 = .ok (.goto 43, 3) := by decide +kernel
theorem dX12_byLaw_43 : decode cX12_byLaw 43 = .ok (.aload_n 0, 1) := by decide +kernel
theorem dX12_byLaw_44 : decode cX12_byLaw 44 = .ok (.aload_n 0, 1) := by decide +kernel
theorem dX12_byLaw_45 : decode cX12_byLaw 45 = .ok (.getfield 96, 3) := by decide +kernel
theorem dX12_byLaw_48 : decode cX12_byLaw 48 = .ok (.iload_n 3, 1) := by decide +kernel
theorem dX12_byLaw_49 : decode cX12_byLaw 49 = .ok (.iaload, 1) := by decide +kernel
theorem dX12_byLaw_50 : decode cX12_byLaw 50 = .ok (.aload_n 0, 1) := by decide +kernel
theorem dX12_byLaw_51 : decode cX12_byLaw 51 = .ok (.getfield 99, 3) := by decide +kernel
theorem dX12_byLaw_54 : decode cX12_byLaw 54 = .ok (.iload_n 3, 1) := by decide +kernel
theorem dX12_byLaw_55 : decode cX12_byLaw 55 = .ok (.iaload, 1) := by decide +kernel
theorem dX12_byLaw_56 : decode cX12_byLaw 56 = .ok (.invokevirtual 382, 3) := by decide +kernel
theorem dX12_byLaw_59 : decode cX12_byLaw 59 = .ok (.istore 4, 2) := by decide +kernel
theorem dX12_byLaw_61 : decode cX12_byLaw 61 = .ok (.iload 4, 2) := by decide +kernel
theorem dX12_byLaw_63 : decode cX12_byLaw 63 = .ok (.ifCond .ge 7, 3) := by decide +kernel
theorem dX12_byLaw_66 : decode cX12_byLaw 66 = .ok (.iconst 0, 1) := by decide +kernel
theorem dX12_byLaw_67 : decode cX12_byLaw 67 = .ok (.goto 15, 3) := by decide +kernel
theorem dX12_byLaw_70 : decode cX12_byLaw 70 = .ok (.iload 4, 2) := by decide +kernel
theorem dX12_byLaw_72 : decode cX12_byLaw 72 = .ok (.iload_n 2, 1) := by decide +kernel
theorem dX12_byLaw_73 : decode cX12_byLaw 73 = .ok (.if_icmp .le 7, 3) := by decide +kernel
theorem dX12_byLaw_76 : decode cX12_byLaw 76 = .ok (.iload_n 2, 1) := by decide +kernel
theorem dX12_byLaw_77 : decode cX12_byLaw 77 = .ok (.goto 5, 3) := by decide +kernel
theorem dX12_byLaw_80 : decode cX12_byLaw 80 = .ok (.iload 4, 2) := by decide +kernel
theorem dX12_byLaw_82 : decode cX12_byLaw 82 = .ok (.ireturn, 1) := by decide +kernel
theorem dX12_byLaw_83 : decode cX12_byLaw 83 = .ok (.iinc 3 1, 3) := by decide +kernel
theorem dX12_byLaw_86 : decode cX12_byLaw 86 = .ok (.goto (-84), 3) := by decide +kernel
theorem dX12_byLaw_89 : decode cX12_byLaw 89 = .ok (.iconst 0, 1) := by decide +kernel
theorem dX12_byLaw_90 : decode cX12_byLaw 90 = .ok (.ireturn, 1) := by decide +kernel
def ok_X12_byLaw_2 (K : ro_K) (v1 : Int32) (v2 : Int32) : ((Int32 × ro_Mem) ⊕ ro_Mem) → Prop := Sum.elim (fun e => ro_X K 43 [(0, .ref (ro_ad (kG K) 207)), (2, .int v2), (3, .int e.1)] [] e.2) (fun e => ro_X K 89 [] [] e)
def fb_X12_byLaw_2 (v1 : Int32) (v2 : Int32) (rec : (Int32 × ro_Mem) → Option ((Int32 × ro_Mem) ⊕ ro_Mem)) (v3 : Int32) (μ : ro_Mem) : Option ((Int32 × ro_Mem) ⊕ ro_Mem) :=
  if (μ 207 38) ≤ v3 then
  (some (.inr μ))
  else
  (if ro_in v3 14 then
  (if (μ 235 v3.toNatClampNeg) = v1 then
  ((fn_X12_comesTo (μ 237 v3.toNatClampNeg) (μ 238 v3.toNatClampNeg) μ).bind fun q4 =>
  if q4.1 = 1 then
  (some (.inl (v3, q4.2)))
  else
  (rec (v3 + 1, q4.2)))
  else
  (rec (v3 + 1, μ))) else none)
theorem bb_X12_byLaw_2 {K : ro_K} (hK : ro_C K RX12 cX12_byLaw 5 2) (hR : ro_R K (some .int)) {v1 : Int32} {v2 : Int32}  {μ : ro_Mem} {rec : (Int32 × ro_Mem) → Option ((Int32 × ro_Mem) ⊕ ro_Mem)} {v3 : Int32} {q : ((Int32 × ro_Mem) ⊕ ro_Mem)} (hrec : ∀ (s : Int32 × ro_Mem) (q : ((Int32 × ro_Mem) ⊕ ro_Mem)), rec s = some q → ok_X12_byLaw_2 K v1 v2 q → ro_X K 2 [(0, .ref (ro_ad (kG K) 207)), (1, .int v1), (2, .int v2), (3, .int s.1)] [] s.2) (hf : fb_X12_byLaw_2 v1 v2 rec v3 μ = some q) (hq : ok_X12_byLaw_2 K v1 v2 q) : ro_X K 2 [(0, .ref (ro_ad (kG K) 207)), (1, .int v1), (2, .int v2), (3, .int v3)] [] μ := by
  unfold fb_X12_byLaw_2 at hf
  refine ro_iload_n hK 3 rfl dX12_byLaw_2 rfl ?_
  refine ro_aload_n hK 0 rfl dX12_byLaw_3 rfl ?_
  refine ro_geti hK fl_X12_375 sh_207 dX12_byLaw_4 ?_
  refine ro_icmp_ge hK 89 dX12_byLaw_7 (by decide) (fun c1 => ?_) (fun c1 => ?_)
  · have hf := ro_it hf c1
    refine ro_sub (L' := []) [] rfl ?_
    obtain rfl := Option.some.inj hf
    exact hq
  · have hf := ro_ie hf c1
    refine ro_aload_n hK 0 rfl dX12_byLaw_10 rfl ?_
    refine ro_getr hK fl_X12_93 sh_207 dX12_byLaw_11 ?_
    refine ro_iload_n hK 3 rfl dX12_byLaw_14 rfl ?_
    obtain ⟨g2, hf⟩ := ro_gd hf
    refine ro_iald hK sh_235 g2 dX12_byLaw_15 ?_
    refine ro_iload_n hK 1 rfl dX12_byLaw_16 rfl ?_
    refine ro_icmp_ne hK 83 dX12_byLaw_17 (by decide) (fun c3 => ?_) (fun c3 => ?_)
    · have hf := ro_ie hf c3
      refine ro_iinc (v := v3 + 1) (L' := [(3, .int (v3 + 1)), (0, .ref (ro_ad (kG K) 207)), (1, .int v1), (2, .int v2)]) hK 3 rfl dX12_byLaw_83 rfl (by decide) rfl ?_
      refine ro_goto hK 2 dX12_byLaw_86 (by decide) ?_
      refine ro_sub (L' := [(0, .ref (ro_ad (kG K) 207)), (1, .int v1), (2, .int v2), (3, .int (v3 + 1))]) [1, 2, 3, 0] rfl ?_
      exact hrec (v3 + 1, μ) _ hf hq
    · have hf := ro_it hf c3
      refine ro_aload_n hK 0 rfl dX12_byLaw_20 rfl ?_
      refine ro_aload_n hK 0 rfl dX12_byLaw_21 rfl ?_
      refine ro_getr hK fl_X12_99 sh_207 dX12_byLaw_22 ?_
      refine ro_iload_n hK 3 rfl dX12_byLaw_25 rfl ?_
      refine ro_iald hK sh_237 g2 dX12_byLaw_26 ?_
      refine ro_aload_n hK 0 rfl dX12_byLaw_27 rfl ?_
      refine ro_getr hK fl_X12_102 sh_207 dX12_byLaw_28 ?_
      refine ro_iload_n hK 3 rfl dX12_byLaw_31 rfl ?_
      refine ro_iald hK sh_238 g2 dX12_byLaw_32 ?_
      obtain ⟨q4, e5, hf⟩ := ro_bd hf
      refine ro_callvi hK [.int (μ 237 v3.toNatClampNeg), .int (μ 238 v3.toNatClampNeg)] ml_X12_382 mv_X12_comesTo (mt_X12_comesTo (kl K) (kG K)  e5) sh_207 ⟨_, rfl, rfl⟩ (by decide) rfl rfl (Nat.le_of_ble_eq_true rfl) dX12_byLaw_33 ?_
      refine ro_iconst (v := 1) hK dX12_byLaw_36 (by decide) ?_
      refine ro_icmp_eq hK 43 dX12_byLaw_37 (by decide) (fun c6 => ?_) (fun c6 => ?_)
      · have hf := ro_it hf c6
        refine ro_sub (L' := [(0, .ref (ro_ad (kG K) 207)), (2, .int v2), (3, .int v3)]) [0, 2, 3] rfl ?_
        obtain rfl := Option.some.inj hf
        exact hq
      · have hf := ro_ie hf c6
        refine ro_goto hK 83 dX12_byLaw_40 (by decide) ?_
        refine ro_iinc (v := v3 + 1) (L' := [(3, .int (v3 + 1)), (0, .ref (ro_ad (kG K) 207)), (1, .int v1), (2, .int v2)]) hK 3 rfl dX12_byLaw_83 rfl (by decide) rfl ?_
        refine ro_goto hK 2 dX12_byLaw_86 (by decide) ?_
        refine ro_sub (L' := [(0, .ref (ro_ad (kG K) 207)), (1, .int v1), (2, .int v2), (3, .int (v3 + 1))]) [1, 2, 3, 0] rfl ?_
        exact hrec (v3 + 1, q4.2) _ hf hq
def fl_X12_byLaw_2 (v1 : Int32) (v2 : Int32) : (Int32 × ro_Mem) → Option ((Int32 × ro_Mem) ⊕ ro_Mem) :=
  ro_loop (fun rec s => fb_X12_byLaw_2 v1 v2 rec s.1 s.2) ro_FU
theorem lp_X12_byLaw_2 {K : ro_K} (hK : ro_C K RX12 cX12_byLaw 5 2) (hR : ro_R K (some .int)) {v1 : Int32} {v2 : Int32}  {s : Int32 × ro_Mem} {q : ((Int32 × ro_Mem) ⊕ ro_Mem)} (hf : fl_X12_byLaw_2 v1 v2 s = some q) (hq : ok_X12_byLaw_2 K v1 v2 q) : ro_X K 2 [(0, .ref (ro_ad (kG K) 207)), (1, .int v1), (2, .int v2), (3, .int s.1)] [] s.2 :=
  ro_loopX (b := fun rec s => fb_X12_byLaw_2 v1 v2 rec s.1 s.2) (X := fun s => ro_X K 2 [(0, .ref (ro_ad (kG K) 207)), (1, .int v1), (2, .int v2), (3, .int s.1)] [] s.2) (OK := ok_X12_byLaw_2 K v1 v2) (fun rec s q hrec hb ho => bb_X12_byLaw_2 hK hR  hrec hb ho) ro_FU s q hf hq
def fn_X12_byLaw (v1 : Int32) (v2 : Int32) (μ : ro_Mem) : Option (Int32 × ro_Mem) :=
  (fl_X12_byLaw_2 v1 v2 (0, μ)).bind fun q7 =>
  q7.elim (fun e9 => if ro_in e9.1 14 then
  ((fn_X12_comesTo (e9.2 236 e9.1.toNatClampNeg) (e9.2 237 e9.1.toNatClampNeg) e9.2).bind fun q12 =>
  if 0 ≤ q12.1 then
  (if q12.1 ≤ v2 then
  (some (q12.1, q12.2))
  else
  (some (v2, q12.2)))
  else
  (some (0, q12.2))) else none) (fun e10 => some (0, e10))
theorem be_X12_byLaw {K : ro_K} (hK : ro_C K RX12 cX12_byLaw 5 2) (hR : ro_R K (some .int)) {v1 : Int32} {v2 : Int32}  {μ : ro_Mem} {out : Int32 × ro_Mem} (hf : fn_X12_byLaw v1 v2 μ = some out) (hq : kQ K (some (.int out.1)) out.2) : ro_X K 0 [(0, .ref (ro_ad (kG K) 207)), (1, .int v1), (2, .int v2)] [] μ := by
  unfold fn_X12_byLaw at hf
  refine ro_iconst (v := 0) hK dX12_byLaw_0 (by decide) ?_
  refine ro_istore_n (L' := [(3, .int 0), (0, .ref (ro_ad (kG K) 207)), (1, .int v1), (2, .int v2)]) hK dX12_byLaw_1 rfl (by decide) rfl ?_
  obtain ⟨q7, e8, hf⟩ := ro_bd hf
  refine ro_sub (L' := [(0, .ref (ro_ad (kG K) 207)), (1, .int v1), (2, .int v2), (3, .int 0)]) [1, 2, 3, 0] rfl ?_
  refine lp_X12_byLaw_2 hK hR  e8 ?_
  rcases q7 with e9 | e10
  · have hf := ro_el hf
    show ro_X K 43 [(0, .ref (ro_ad (kG K) 207)), (2, .int v2), (3, .int e9.1)] [] e9.2
    refine ro_aload_n hK 0 rfl dX12_byLaw_43 rfl ?_
    refine ro_aload_n hK 0 rfl dX12_byLaw_44 rfl ?_
    refine ro_getr hK fl_X12_96 sh_207 dX12_byLaw_45 ?_
    refine ro_iload_n hK 2 rfl dX12_byLaw_48 rfl ?_
    obtain ⟨g11, hf⟩ := ro_gd hf
    refine ro_iald hK sh_236 g11 dX12_byLaw_49 ?_
    refine ro_aload_n hK 0 rfl dX12_byLaw_50 rfl ?_
    refine ro_getr hK fl_X12_99 sh_207 dX12_byLaw_51 ?_
    refine ro_iload_n hK 2 rfl dX12_byLaw_54 rfl ?_
    refine ro_iald hK sh_237 g11 dX12_byLaw_55 ?_
    obtain ⟨q12, e13, hf⟩ := ro_bd hf
    refine ro_callvi hK [.int (e9.2 236 e9.1.toNatClampNeg), .int (e9.2 237 e9.1.toNatClampNeg)] ml_X12_382 mv_X12_comesTo (mt_X12_comesTo (kl K) (kG K)  e13) sh_207 ⟨_, rfl, rfl⟩ (by decide) rfl rfl (Nat.le_of_ble_eq_true rfl) dX12_byLaw_56 ?_
    refine ro_istore (L' := [(4, .int q12.1), (0, .ref (ro_ad (kG K) 207)), (2, .int v2), (3, .int e9.1)]) hK dX12_byLaw_59 (by decide) rfl ?_
    refine ro_iload hK 0 rfl dX12_byLaw_61 ?_
    refine ro_if_ge hK 70 dX12_byLaw_63 (by decide) (fun c14 => ?_) (fun c14 => ?_)
    · have hf := ro_it hf c14
      refine ro_iload hK 0 rfl dX12_byLaw_70 ?_
      refine ro_iload_n hK 2 rfl dX12_byLaw_72 rfl ?_
      refine ro_icmp_le hK 80 dX12_byLaw_73 (by decide) (fun c15 => ?_) (fun c15 => ?_)
      · have hf := ro_it hf c15
        refine ro_iload hK 0 rfl dX12_byLaw_80 ?_
        obtain rfl := Option.some.inj hf
        exact ro_iret hK hR dX12_byLaw_82 hq
      · have hf := ro_ie hf c15
        refine ro_iload_n hK 2 rfl dX12_byLaw_76 rfl ?_
        refine ro_goto hK 82 dX12_byLaw_77 (by decide) ?_
        obtain rfl := Option.some.inj hf
        exact ro_iret hK hR dX12_byLaw_82 hq
    · have hf := ro_ie hf c14
      refine ro_iconst (v := 0) hK dX12_byLaw_66 (by decide) ?_
      refine ro_goto hK 82 dX12_byLaw_67 (by decide) ?_
      obtain rfl := Option.some.inj hf
      exact ro_iret hK hR dX12_byLaw_82 hq
  · have hf := ro_er hf
    show ro_X K 89 [] [] e10
    refine ro_iconst (v := 0) hK dX12_byLaw_89 (by decide) ?_
    obtain rfl := Option.some.inj hf
    exact ro_iret hK hR dX12_byLaw_90 hq
theorem mt_X12_byLaw (l : Launch) (G : ro_G) {v1 : Int32} {v2 : Int32}  {μ : ro_Mem} {out : Int32 × ro_Mem} (hf : fn_X12_byLaw v1 v2 μ = some out) : ro_MX l G yX12_byLaw cX12_byLaw 5 (some .int) 2 [.ref (ro_ad G 207), .int v1, .int v2] μ (some (.int out.1)) out.2 := by
  refine ro_MX.of (by decide +kernel) (Nat.le_of_ble_eq_true rfl) (fun K hG hl hq hK hR => ?_)
  subst hG
  exact be_X12_byLaw hK hR  hf hq
-- ===== X12_anySnow =====
theorem dX12_anySnow_0 : decode cX12_anySnow 0 = .ok (.iconst 0, 1) := by decide +kernel
theorem dX12_anySnow_1 : decode cX12_anySnow 1 = .ok (.istore_n 1, 1) := by decide +kernel
theorem dX12_anySnow_2 : decode cX12_anySnow 2 = .ok (.iload_n 1, 1) := by decide +kernel
theorem dX12_anySnow_3 : decode cX12_anySnow 3 = .ok (.aload_n 0, 1) := by decide +kernel
theorem dX12_anySnow_4 : decode cX12_anySnow 4 = .ok (.getfield 375, 3) := by decide +kernel
theorem dX12_anySnow_7 : decode cX12_anySnow 7 = .ok (.if_icmp .ge 42, 3) := by decide +kernel
theorem dX12_anySnow_10 : decode cX12_anySnow 10 = .ok (.aload_n 0, 1) := by decide +kernel
theorem dX12_anySnow_11 : decode cX12_anySnow 11 = .ok (.getfield 93, 3) := by decide +kernel
theorem dX12_anySnow_14 : decode cX12_anySnow 14 = .ok (.iload_n 1, 1) := by decide +kernel
theorem dX12_anySnow_15 : decode cX12_anySnow 15 = .ok (.iaload, 1) := by decide +kernel
theorem dX12_anySnow_16 : decode cX12_anySnow 16 = .ok (.bipush 115, 2) := by decide +kernel
theorem dX12_anySnow_18 : decode cX12_anySnow 18 = .ok (.if_icmp .ne 25, 3) := by decide +kernel
theorem dX12_anySnow_21 : decode cX12_anySnow 21 = .ok (.aload_n 0, 1) := by decide +kernel
theorem dX12_anySnow_22 : decode cX12_anySnow 22 = .ok (.aload_n 0, 1) := by decide +kernel
theorem dX12_anySnow_23 : decode cX12_anySnow 23 = .ok (.getfield 99, 3) := by decide +kernel
theorem dX12_anySnow_26 : decode cX12_anySnow 26 = .ok (.iload_n 1, 1) := by decide +kernel
theorem dX12_anySnow_27 : decode cX12_anySnow 27 = .ok (.iaload, 1) := by decide +kernel
theorem dX12_anySnow_28 : decode cX12_anySnow 28 = .ok (.aload_n 0, 1) := by decide +kernel
theorem dX12_anySnow_29 : decode cX12_anySnow 29 = .ok (.getfield 102, 3) := by decide +kernel
theorem dX12_anySnow_32 : decode cX12_anySnow 32 = .ok (.iload_n 1, 1) := by decide +kernel
theorem dX12_anySnow_33 : decode cX12_anySnow 33 = .ok (.iaload, 1) := by decide +kernel
theorem dX12_anySnow_34 : decode cX12_anySnow 34 = .ok (.invokevirtual 382, 3) := by decide +kernel
theorem dX12_anySnow_37 : decode cX12_anySnow 37 = .ok (.iconst 1, 1) := by decide +kernel
theorem dX12_anySnow_38 : decode cX12_anySnow 38 = .ok (.if_icmp .ne 5, 3) := by decide +kernel
theorem dX12_anySnow_41 : decode cX12_anySnow 41 = .ok (.iconst 1, 1) := by decide +kernel
theorem dX12_anySnow_42 : decode cX12_anySnow 42 = .ok (.ireturn, 1) := by decide +kernel
theorem dX12_anySnow_43 : decode cX12_anySnow 43 = .ok (.iinc 1 1, 3) := by decide +kernel
theorem dX12_anySnow_46 : decode cX12_anySnow 46 = .ok (.goto (-44), 3) := by decide +kernel
theorem dX12_anySnow_49 : decode cX12_anySnow 49 = .ok (.iconst 0, 1) := by decide +kernel
theorem dX12_anySnow_50 : decode cX12_anySnow 50 = .ok (.ireturn, 1) := by decide +kernel
def ok_X12_anySnow_2 (K : ro_K)  : (ro_Mem ⊕ ro_Mem) → Prop := Sum.elim (fun e => ro_X K 41 [] [] e) (fun e => ro_X K 49 [] [] e)
def fb_X12_anySnow_2  (rec : (Int32 × ro_Mem) → Option (ro_Mem ⊕ ro_Mem)) (v1 : Int32) (μ : ro_Mem) : Option (ro_Mem ⊕ ro_Mem) :=
  if (μ 207 38) ≤ v1 then
  (some (.inr μ))
  else
  (if ro_in v1 14 then
  (if (μ 235 v1.toNatClampNeg) = 115 then
  ((fn_X12_comesTo (μ 237 v1.toNatClampNeg) (μ 238 v1.toNatClampNeg) μ).bind fun q4 =>
  if q4.1 = 1 then
  (some (.inl q4.2))
  else
  (rec (v1 + 1, q4.2)))
  else
  (rec (v1 + 1, μ))) else none)
theorem bb_X12_anySnow_2 {K : ro_K} (hK : ro_C K RX12 cX12_anySnow 2 2) (hR : ro_R K (some .boolean))   {μ : ro_Mem} {rec : (Int32 × ro_Mem) → Option (ro_Mem ⊕ ro_Mem)} {v1 : Int32} {q : (ro_Mem ⊕ ro_Mem)} (hrec : ∀ (s : Int32 × ro_Mem) (q : (ro_Mem ⊕ ro_Mem)), rec s = some q → ok_X12_anySnow_2 K q → ro_X K 2 [(0, .ref (ro_ad (kG K) 207)), (1, .int s.1)] [] s.2) (hf : fb_X12_anySnow_2 rec v1 μ = some q) (hq : ok_X12_anySnow_2 K q) : ro_X K 2 [(0, .ref (ro_ad (kG K) 207)), (1, .int v1)] [] μ := by
  unfold fb_X12_anySnow_2 at hf
  refine ro_iload_n hK 1 rfl dX12_anySnow_2 rfl ?_
  refine ro_aload_n hK 0 rfl dX12_anySnow_3 rfl ?_
  refine ro_geti hK fl_X12_375 sh_207 dX12_anySnow_4 ?_
  refine ro_icmp_ge hK 49 dX12_anySnow_7 (by decide) (fun c1 => ?_) (fun c1 => ?_)
  · have hf := ro_it hf c1
    refine ro_sub (L' := []) [] rfl ?_
    obtain rfl := Option.some.inj hf
    exact hq
  · have hf := ro_ie hf c1
    refine ro_aload_n hK 0 rfl dX12_anySnow_10 rfl ?_
    refine ro_getr hK fl_X12_93 sh_207 dX12_anySnow_11 ?_
    refine ro_iload_n hK 1 rfl dX12_anySnow_14 rfl ?_
    obtain ⟨g2, hf⟩ := ro_gd hf
    refine ro_iald hK sh_235 g2 dX12_anySnow_15 ?_
    refine ro_bipush (v := 115) hK dX12_anySnow_16 (by decide) ?_
    refine ro_icmp_ne hK 43 dX12_anySnow_18 (by decide) (fun c3 => ?_) (fun c3 => ?_)
    · have hf := ro_ie hf c3
      refine ro_iinc (v := v1 + 1) (L' := [(1, .int (v1 + 1)), (0, .ref (ro_ad (kG K) 207))]) hK 1 rfl dX12_anySnow_43 rfl (by decide) rfl ?_
      refine ro_goto hK 2 dX12_anySnow_46 (by decide) ?_
      refine ro_sub (L' := [(0, .ref (ro_ad (kG K) 207)), (1, .int (v1 + 1))]) [1, 0] rfl ?_
      exact hrec (v1 + 1, μ) _ hf hq
    · have hf := ro_it hf c3
      refine ro_aload_n hK 0 rfl dX12_anySnow_21 rfl ?_
      refine ro_aload_n hK 0 rfl dX12_anySnow_22 rfl ?_
      refine ro_getr hK fl_X12_99 sh_207 dX12_anySnow_23 ?_
      refine ro_iload_n hK 1 rfl dX12_anySnow_26 rfl ?_
      refine ro_iald hK sh_237 g2 dX12_anySnow_27 ?_
      refine ro_aload_n hK 0 rfl dX12_anySnow_28 rfl ?_
      refine ro_getr hK fl_X12_102 sh_207 dX12_anySnow_29 ?_
      refine ro_iload_n hK 1 rfl dX12_anySnow_32 rfl ?_
      refine ro_iald hK sh_238 g2 dX12_anySnow_33 ?_
      obtain ⟨q4, e5, hf⟩ := ro_bd hf
      refine ro_callvi hK [.int (μ 237 v1.toNatClampNeg), .int (μ 238 v1.toNatClampNeg)] ml_X12_382 mv_X12_comesTo (mt_X12_comesTo (kl K) (kG K)  e5) sh_207 ⟨_, rfl, rfl⟩ (by decide) rfl rfl (Nat.le_of_ble_eq_true rfl) dX12_anySnow_34 ?_
      refine ro_iconst (v := 1) hK dX12_anySnow_37 (by decide) ?_
      refine ro_icmp_ne hK 43 dX12_anySnow_38 (by decide) (fun c6 => ?_) (fun c6 => ?_)
      · have hf := ro_ie hf c6
        refine ro_iinc (v := v1 + 1) (L' := [(1, .int (v1 + 1)), (0, .ref (ro_ad (kG K) 207))]) hK 1 rfl dX12_anySnow_43 rfl (by decide) rfl ?_
        refine ro_goto hK 2 dX12_anySnow_46 (by decide) ?_
        refine ro_sub (L' := [(0, .ref (ro_ad (kG K) 207)), (1, .int (v1 + 1))]) [1, 0] rfl ?_
        exact hrec (v1 + 1, q4.2) _ hf hq
      · have hf := ro_it hf c6
        refine ro_sub (L' := []) [] rfl ?_
        obtain rfl := Option.some.inj hf
        exact hq
def fl_X12_anySnow_2  : (Int32 × ro_Mem) → Option (ro_Mem ⊕ ro_Mem) :=
  ro_loop (fun rec s => fb_X12_anySnow_2 rec s.1 s.2) ro_FU
theorem lp_X12_anySnow_2 {K : ro_K} (hK : ro_C K RX12 cX12_anySnow 2 2) (hR : ro_R K (some .boolean))   {s : Int32 × ro_Mem} {q : (ro_Mem ⊕ ro_Mem)} (hf : fl_X12_anySnow_2 s = some q) (hq : ok_X12_anySnow_2 K q) : ro_X K 2 [(0, .ref (ro_ad (kG K) 207)), (1, .int s.1)] [] s.2 :=
  ro_loopX (b := fun rec s => fb_X12_anySnow_2 rec s.1 s.2) (X := fun s => ro_X K 2 [(0, .ref (ro_ad (kG K) 207)), (1, .int s.1)] [] s.2) (OK := ok_X12_anySnow_2 K) (fun rec s q hrec hb ho => bb_X12_anySnow_2 hK hR  hrec hb ho) ro_FU s q hf hq
def fn_X12_anySnow (μ : ro_Mem) : Option (Int32 × ro_Mem) :=
  (fl_X12_anySnow_2  (0, μ)).bind fun q7 =>
  q7.elim (fun e9 => some (1, e9)) (fun e10 => some (0, e10))
theorem be_X12_anySnow {K : ro_K} (hK : ro_C K RX12 cX12_anySnow 2 2) (hR : ro_R K (some .boolean))   {μ : ro_Mem} {out : Int32 × ro_Mem} (hf : fn_X12_anySnow μ = some out) (hq : kQ K (some (.int out.1)) out.2) : ro_X K 0 [(0, .ref (ro_ad (kG K) 207))] [] μ := by
  unfold fn_X12_anySnow at hf
  refine ro_iconst (v := 0) hK dX12_anySnow_0 (by decide) ?_
  refine ro_istore_n (L' := [(1, .int 0), (0, .ref (ro_ad (kG K) 207))]) hK dX12_anySnow_1 rfl (by decide) rfl ?_
  obtain ⟨q7, e8, hf⟩ := ro_bd hf
  refine ro_sub (L' := [(0, .ref (ro_ad (kG K) 207)), (1, .int 0)]) [1, 0] rfl ?_
  refine lp_X12_anySnow_2 hK hR  e8 ?_
  rcases q7 with e9 | e10
  · have hf := ro_el hf
    show ro_X K 41 [] [] e9
    refine ro_iconst (v := 1) hK dX12_anySnow_41 (by decide) ?_
    obtain rfl := Option.some.inj hf
    exact ro_zret hK hR dX12_anySnow_42 (by decide) hq
  · have hf := ro_er hf
    show ro_X K 49 [] [] e10
    refine ro_iconst (v := 0) hK dX12_anySnow_49 (by decide) ?_
    obtain rfl := Option.some.inj hf
    exact ro_zret hK hR dX12_anySnow_50 (by decide) hq
theorem mt_X12_anySnow (l : Launch) (G : ro_G)   {μ : ro_Mem} {out : Int32 × ro_Mem} (hf : fn_X12_anySnow μ = some out) : ro_MX l G yX12_anySnow cX12_anySnow 2 (some .boolean) 2 [.ref (ro_ad G 207)] μ (some (.int out.1)) out.2 := by
  refine ro_MX.of (by decide +kernel) (Nat.le_of_ble_eq_true rfl) (fun K hG hl hq hK hR => ?_)
  subst hG
  exact be_X12_anySnow hK hR  hf hq
-- ===== X12_feels =====
theorem dX12_feels_0 : decode cX12_feels 0 = .ok (.iconst 0, 1) := by decide +kernel
theorem dX12_feels_1 : decode cX12_feels 1 = .ok (.istore_n 2, 1) := by decide +kernel
theorem dX12_feels_2 : decode cX12_feels 2 = .ok (.iload_n 2, 1) := by decide +kernel
theorem dX12_feels_3 : decode cX12_feels 3 = .ok (.bipush 12, 2) := by decide +kernel
theorem dX12_feels_5 : decode cX12_feels 5 = .ok (.if_icmp .ge 16, 3) := by decide +kernel
theorem dX12_feels_8 : decode cX12_feels 8 = .ok (.aload_n 0, 1) := by decide +kernel
theorem dX12_feels_9 : decode cX12_feels 9 = .ok (.getfield 108, 3) := by decide +kernel
theorem dX12_feels_12 : decode cX12_feels 12 = .ok (.iload_n 2, 1) := by decide +kernel
theorem dX12_feels_13 : decode cX12_feels 13 = .ok (.iconst 0, 1) := by decide +kernel
theorem dX12_feels_14 : decode cX12_feels 14 = .ok (.iastore, 1) := by decide +kernel
theorem dX12_feels_15 : decode cX12_feels 15 = .ok (.iinc 2 1, 3) := by decide +kernel
theorem dX12_feels_18 : decode cX12_feels 18 = .ok (.goto (-16), 3) := by decide +kernel
theorem dX12_feels_21 : decode cX12_feels 21 = .ok (.aload_n 0, 1) := by decide +kernel
theorem dX12_feels_22 : decode cX12_feels 22 = .ok (.getfield 108, 3) := by decide +kernel
theorem dX12_feels_25 : decode cX12_feels 25 = .ok (.bipush 8, 2) := by decide +kernel
theorem dX12_feels_27 : decode cX12_feels 27 = .ok (.iload_n 1, 1) := by decide +kernel
theorem dX12_feels_28 : decode cX12_feels 28 = .ok (.bipush 12, 2) := by decide +kernel
theorem dX12_feels_30 : decode cX12_feels 30 = .ok (.idiv, 1) := by decide +kernel
theorem dX12_feels_31 : decode cX12_feels 31 = .ok (.iastore, 1) := by decide +kernel
theorem dX12_feels_32 : decode cX12_feels 32 = .ok (.aload_n 0, 1) := by decide +kernel
theorem dX12_feels_33 : decode cX12_feels 33 = .ok (.getfield 108, 3) := by decide +kernel
theorem dX12_feels_36 : decode cX12_feels 36 = .ok (.bipush 9, 2) := by decide +kernel
theorem dX12_feels_38 : decode cX12_feels 38 = .ok (.iload_n 1, 1) := by decide +kernel
theorem dX12_feels_39 : decode cX12_feels 39 = .ok (.bipush 12, 2) := by decide +kernel
theorem dX12_feels_41 : decode cX12_feels 41 = .ok (.irem, 1) := by decide +kernel
theorem dX12_feels_42 : decode cX12_feels 42 = .ok (.iastore, 1) := by decide +kernel
theorem dX12_feels_43 : decode cX12_feels 43 = .ok (.aload_n 0, 1) := by decide +kernel
theorem dX12_feels_44 : decode cX12_feels 44 = .ok (.getfield 108, 3) := by decide +kernel
theorem dX12_feels_47 : decode cX12_feels 47 = .ok (.bipush 10, 2) := by decide +kernel
theorem dX12_feels_49 : decode cX12_feels 49 = .ok (.aload_n 0, 1) := by decide +kernel
theorem dX12_feels_50 : decode cX12_feels 50 = .ok (.getfield 17, 3) := by decide +kernel
theorem dX12_feels_53 : decode cX12_feels 53 = .ok (.iload_n 1, 1) := by decide +kernel
theorem dX12_feels_54 : decode cX12_feels 54 = .ok (.iaload, 1) := by decide +kernel
theorem dX12_feels_55 : decode cX12_feels 55 = .ok (.iastore, 1) := by decide +kernel
theorem dX12_feels_56 : decode cX12_feels 56 = .ok (.return_, 1) := by decide +kernel
def ok_X12_feels_2 (K : ro_K) (v1 : Int32) : ro_Mem → Prop := fun e => ro_X K 21 [(0, .ref (ro_ad (kG K) 207)), (1, .int v1)] [] e
def fb_X12_feels_2 (v1 : Int32) (rec : (Int32 × ro_Mem) → Option ro_Mem) (v2 : Int32) (μ : ro_Mem) : Option ro_Mem :=
  if 12 ≤ v2 then
  (some μ)
  else
  (if ro_in v2 12 then
  (ro_lt (ro_set μ 240 v2.toNatClampNeg 0) fun m3 =>
  rec (v2 + 1, m3)) else none)
theorem bb_X12_feels_2 {K : ro_K} (hK : ro_C K RX12 cX12_feels 3 0) (hR : ro_R K none) {v1 : Int32}  {μ : ro_Mem} {rec : (Int32 × ro_Mem) → Option ro_Mem} {v2 : Int32} {q : ro_Mem} (hrec : ∀ (s : Int32 × ro_Mem) (q : ro_Mem), rec s = some q → ok_X12_feels_2 K v1 q → ro_X K 2 [(0, .ref (ro_ad (kG K) 207)), (1, .int v1), (2, .int s.1)] [] s.2) (hf : fb_X12_feels_2 v1 rec v2 μ = some q) (hq : ok_X12_feels_2 K v1 q) : ro_X K 2 [(0, .ref (ro_ad (kG K) 207)), (1, .int v1), (2, .int v2)] [] μ := by
  unfold fb_X12_feels_2 at hf
  refine ro_iload_n hK 2 rfl dX12_feels_2 rfl ?_
  refine ro_bipush (v := 12) hK dX12_feels_3 (by decide) ?_
  refine ro_icmp_ge hK 21 dX12_feels_5 (by decide) (fun c1 => ?_) (fun c1 => ?_)
  · have hf := ro_it hf c1
    refine ro_sub (L' := [(0, .ref (ro_ad (kG K) 207)), (1, .int v1)]) [0, 1] rfl ?_
    obtain rfl := Option.some.inj hf
    exact hq
  · have hf := ro_ie hf c1
    refine ro_aload_n hK 0 rfl dX12_feels_8 rfl ?_
    refine ro_getr hK fl_X12_108 sh_207 dX12_feels_9 ?_
    refine ro_iload_n hK 2 rfl dX12_feels_12 rfl ?_
    refine ro_iconst (v := 0) hK dX12_feels_13 (by decide) ?_
    obtain ⟨g2, hf⟩ := ro_gd hf
    obtain ⟨m3, e4, hf⟩ := ro_ld hf
    refine ro_iast hK sh_240 g2 dX12_feels_14 ?_
    refine ro_mv e4 ?_
    refine ro_iinc (v := v2 + 1) (L' := [(2, .int (v2 + 1)), (0, .ref (ro_ad (kG K) 207)), (1, .int v1)]) hK 2 rfl dX12_feels_15 rfl (by decide) rfl ?_
    refine ro_goto hK 2 dX12_feels_18 (by decide) ?_
    refine ro_sub (L' := [(0, .ref (ro_ad (kG K) 207)), (1, .int v1), (2, .int (v2 + 1))]) [1, 2, 0] rfl ?_
    exact hrec (v2 + 1, m3) _ hf hq
def fl_X12_feels_2 (v1 : Int32) : (Int32 × ro_Mem) → Option ro_Mem :=
  ro_loop (fun rec s => fb_X12_feels_2 v1 rec s.1 s.2) ro_FU
theorem lp_X12_feels_2 {K : ro_K} (hK : ro_C K RX12 cX12_feels 3 0) (hR : ro_R K none) {v1 : Int32}  {s : Int32 × ro_Mem} {q : ro_Mem} (hf : fl_X12_feels_2 v1 s = some q) (hq : ok_X12_feels_2 K v1 q) : ro_X K 2 [(0, .ref (ro_ad (kG K) 207)), (1, .int v1), (2, .int s.1)] [] s.2 :=
  ro_loopX (b := fun rec s => fb_X12_feels_2 v1 rec s.1 s.2) (X := fun s => ro_X K 2 [(0, .ref (ro_ad (kG K) 207)), (1, .int v1), (2, .int s.1)] [] s.2) (OK := ok_X12_feels_2 K v1) (fun rec s q hrec hb ho => bb_X12_feels_2 hK hR  hrec hb ho) ro_FU s q hf hq
def fn_X12_feels (v1 : Int32) (μ : ro_Mem) : Option ro_Mem :=
  (fl_X12_feels_2 v1 (0, μ)).bind fun q5 =>
  ro_lt (ro_set q5 240 (8 : Int32).toNatClampNeg (v1 / 12)) fun m7 =>
  ro_lt (ro_set m7 240 (9 : Int32).toNatClampNeg (ro_rem v1 12)) fun m9 =>
  if ro_in v1 96 then
  (ro_lt (ro_set m9 240 (10 : Int32).toNatClampNeg (m9 210 v1.toNatClampNeg)) fun m12 =>
  some m12) else none
theorem be_X12_feels {K : ro_K} (hK : ro_C K RX12 cX12_feels 3 0) (hR : ro_R K none) {v1 : Int32}  {μ : ro_Mem} {out : ro_Mem} (hf : fn_X12_feels v1 μ = some out) (hq : kQ K none out) : ro_X K 0 [(0, .ref (ro_ad (kG K) 207)), (1, .int v1)] [] μ := by
  unfold fn_X12_feels at hf
  refine ro_iconst (v := 0) hK dX12_feels_0 (by decide) ?_
  refine ro_istore_n (L' := [(2, .int 0), (0, .ref (ro_ad (kG K) 207)), (1, .int v1)]) hK dX12_feels_1 rfl (by decide) rfl ?_
  obtain ⟨q5, e6, hf⟩ := ro_bd hf
  refine ro_sub (L' := [(0, .ref (ro_ad (kG K) 207)), (1, .int v1), (2, .int 0)]) [1, 2, 0] rfl ?_
  refine lp_X12_feels_2 hK hR  e6 ?_
  show ro_X K 21 [(0, .ref (ro_ad (kG K) 207)), (1, .int v1)] [] q5
  refine ro_aload_n hK 0 rfl dX12_feels_21 rfl ?_
  refine ro_getr hK fl_X12_108 sh_207 dX12_feels_22 ?_
  refine ro_bipush (v := 8) hK dX12_feels_25 (by decide) ?_
  refine ro_iload_n hK 1 rfl dX12_feels_27 rfl ?_
  refine ro_bipush (v := 12) hK dX12_feels_28 (by decide) ?_
  refine ro_idiv hK dX12_feels_30 (by decide) ?_
  obtain ⟨m7, e8, hf⟩ := ro_ld hf
  refine ro_iast hK sh_240 (by decide) dX12_feels_31 ?_
  refine ro_mv e8 ?_
  refine ro_aload_n hK 0 rfl dX12_feels_32 rfl ?_
  refine ro_getr hK fl_X12_108 sh_207 dX12_feels_33 ?_
  refine ro_bipush (v := 9) hK dX12_feels_36 (by decide) ?_
  refine ro_iload_n hK 1 rfl dX12_feels_38 rfl ?_
  refine ro_bipush (v := 12) hK dX12_feels_39 (by decide) ?_
  refine ro_irem hK dX12_feels_41 (by decide) ?_
  obtain ⟨m9, e10, hf⟩ := ro_ld hf
  refine ro_iast hK sh_240 (by decide) dX12_feels_42 ?_
  refine ro_mv e10 ?_
  refine ro_aload_n hK 0 rfl dX12_feels_43 rfl ?_
  refine ro_getr hK fl_X12_108 sh_207 dX12_feels_44 ?_
  refine ro_bipush (v := 10) hK dX12_feels_47 (by decide) ?_
  refine ro_aload_n hK 0 rfl dX12_feels_49 rfl ?_
  refine ro_getr hK fl_X12_17 sh_207 dX12_feels_50 ?_
  refine ro_iload_n hK 1 rfl dX12_feels_53 rfl ?_
  obtain ⟨g11, hf⟩ := ro_gd hf
  refine ro_iald hK sh_210 g11 dX12_feels_54 ?_
  obtain ⟨m12, e13, hf⟩ := ro_ld hf
  refine ro_iast hK sh_240 (by decide) dX12_feels_55 ?_
  refine ro_mv e13 ?_
  obtain rfl := Option.some.inj hf
  exact ro_vret hK hR dX12_feels_56 hq
theorem mt_X12_feels (l : Launch) (G : ro_G) {v1 : Int32}  {μ : ro_Mem} {out : ro_Mem} (hf : fn_X12_feels v1 μ = some out) : ro_MX l G yX12_feels cX12_feels 3 none 0 [.ref (ro_ad G 207), .int v1] μ none out := by
  refine ro_MX.of (by decide +kernel) (Nat.le_of_ble_eq_true rfl) (fun K hG hl hq hK hR => ?_)
  subst hG
  exact be_X12_feels hK hR  hf hq
-- ===== X12_feelsNote =====
theorem dX12_feelsNote_0 : decode cX12_feelsNote 0 = .ok (.aload_n 0, 1) := by decide +kernel
theorem dX12_feelsNote_1 : decode cX12_feelsNote 1 = .ok (.aload_n 0, 1) := by decide +kernel
theorem dX12_feelsNote_2 : decode cX12_feelsNote 2 = .ok (.getfield 20, 3) := by decide +kernel
theorem dX12_feelsNote_5 : decode cX12_feelsNote 5 = .ok (.iload_n 2, 1) := by decide +kernel
theorem dX12_feelsNote_6 : decode cX12_feelsNote 6 = .ok (.iaload, 1) := by decide +kernel
theorem dX12_feelsNote_7 : decode cX12_feelsNote 7 = .ok (.invokevirtual 385, 3) := by decide +kernel
theorem dX12_feelsNote_10 : decode cX12_feelsNote 10 = .ok (.aload_n 0, 1) := by decide +kernel
theorem dX12_feelsNote_11 : decode cX12_feelsNote 11 = .ok (.getfield 108, 3) := by decide +kernel
theorem dX12_feelsNote_14 : decode cX12_feelsNote 14 = .ok (.iconst 0, 1) := by decide +kernel
theorem dX12_feelsNote_15 : decode cX12_feelsNote 15 = .ok (.aload_n 0, 1) := by decide +kernel
theorem dX12_feelsNote_16 : decode cX12_feelsNote 16 = .ok (.getfield 42, 3) := by decide +kernel
theorem dX12_feelsNote_19 : decode cX12_feelsNote 19 = .ok (.iload_n 1, 1) := by decide +kernel
theorem dX12_feelsNote_20 : decode cX12_feelsNote 20 = .ok (.iaload, 1) := by decide +kernel
theorem dX12_feelsNote_21 : decode cX12_feelsNote 21 = .ok (.iastore, 1) := by decide +kernel
theorem dX12_feelsNote_22 : decode cX12_feelsNote 22 = .ok (.aload_n 0, 1) := by decide +kernel
theorem dX12_feelsNote_23 : decode cX12_feelsNote 23 = .ok (.getfield 108, 3) := by decide +kernel
theorem dX12_feelsNote_26 : decode cX12_feelsNote 26 = .ok (.iconst 1, 1) := by decide +kernel
theorem dX12_feelsNote_27 : decode cX12_feelsNote 27 = .ok (.aload_n 0, 1) := by decide +kernel
theorem dX12_feelsNote_28 : decode cX12_feelsNote 28 = .ok (.getfield 45, 3) := by decide +kernel
theorem dX12_feelsNote_31 : decode cX12_feelsNote 31 = .ok (.iload_n 1, 1) := by decide +kernel
theorem dX12_feelsNote_32 : decode cX12_feelsNote 32 = .ok (.iaload, 1) := by decide +kernel
theorem dX12_feelsNote_33 : decode cX12_feelsNote 33 = .ok (.aload_n 0, 1) := by decide +kernel
theorem dX12_feelsNote_34 : decode cX12_feelsNote 34 = .ok (.getfield 388, 3) := by decide +kernel
theorem dX12_feelsNote_37 : decode cX12_feelsNote 37 = .ok (.iadd, 1) := by decide +kernel
theorem dX12_feelsNote_38 : decode cX12_feelsNote 38 = .ok (.iastore, 1) := by decide +kernel
theorem dX12_feelsNote_39 : decode cX12_feelsNote 39 = .ok (.aload_n 0, 1) := by decide +kernel
theorem dX12_feelsNote_40 : decode cX12_feelsNote 40 = .ok (.getfield 108, 3) := by decide +kernel
theorem dX12_feelsNote_43 : decode cX12_feelsNote 43 = .ok (.iconst 2, 1) := by decide +kernel
theorem dX12_feelsNote_44 : decode cX12_feelsNote 44 = .ok (.aload_n 0, 1) := by decide +kernel
theorem dX12_feelsNote_45 : decode cX12_feelsNote 45 = .ok (.getfield 48, 3) := by decide +kernel
theorem dX12_feelsNote_48 : decode cX12_feelsNote 48 = .ok (.iload_n 1, 1) := by decide +kernel
theorem dX12_feelsNote_49 : decode cX12_feelsNote 49 = .ok (.iaload, 1) := by decide +kernel
theorem dX12_feelsNote_50 : decode cX12_feelsNote 50 = .ok (.iastore, 1) := by decide +kernel
theorem dX12_feelsNote_51 : decode cX12_feelsNote 51 = .ok (.aload_n 0, 1) := by decide +kernel
theorem dX12_feelsNote_52 : decode cX12_feelsNote 52 = .ok (.getfield 108, 3) := by decide +kernel
theorem dX12_feelsNote_55 : decode cX12_feelsNote 55 = .ok (.iconst 3, 1) := by decide +kernel
theorem dX12_feelsNote_56 : decode cX12_feelsNote 56 = .ok (.iload_n 1, 1) := by decide +kernel
theorem dX12_feelsNote_57 : decode cX12_feelsNote 57 = .ok (.iastore, 1) := by decide +kernel
theorem dX12_feelsNote_58 : decode cX12_feelsNote 58 = .ok (.aload_n 0, 1) := by decide +kernel
theorem dX12_feelsNote_59 : decode cX12_feelsNote 59 = .ok (.getfield 108, 3) := by decide +kernel
theorem dX12_feelsNote_62 : decode cX12_feelsNote 62 = .ok (.iconst 4, 1) := by decide +kernel
theorem dX12_feelsNote_63 : decode cX12_feelsNote 63 = .ok (.aload_n 0, 1) := by decide +kernel
theorem dX12_feelsNote_64 : decode cX12_feelsNote 64 = .ok (.getfield 51, 3) := by decide +kernel
theorem dX12_feelsNote_67 : decode cX12_feelsNote 67 = .ok (.iload_n 1, 1) := by decide +kernel
theorem dX12_feelsNote_68 : decode cX12_feelsNote 68 = .ok (.iaload, 1) := by decide +kernel
theorem dX12_feelsNote_69 : decode cX12_feelsNote 69 = .ok (.iastore, 1) := by decide +kernel
theorem dX12_feelsNote_70 : decode cX12_feelsNote 70 = .ok (.aload_n 0, 1) := by decide +kernel
theorem dX12_feelsNote_71 : decode cX12_feelsNote 71 = .ok (.getfield 108, 3) := by decide +kernel
theorem dX12_feelsNote_74 : decode cX12_feelsNote 74 = .ok (.iconst 5, 1) := by decide +kernel
theorem dX12_feelsNote_75 : decode cX12_feelsNote 75 = .ok (.iload_n 2, 1) := by decide +kernel
theorem dX12_feelsNote_76 : decode cX12_feelsNote 76 = .ok (.iastore, 1) := by decide +kernel
theorem dX12_feelsNote_77 : decode cX12_feelsNote 77 = .ok (.aload_n 0, 1) := by decide +kernel
theorem dX12_feelsNote_78 : decode cX12_feelsNote 78 = .ok (.getfield 108, 3) := by decide +kernel
theorem dX12_feelsNote_81 : decode cX12_feelsNote 81 = .ok (.bipush 6, 2) := by decide +kernel
theorem dX12_feelsNote_83 : decode cX12_feelsNote 83 = .ok (.aload_n 0, 1) := by decide +kernel
theorem dX12_feelsNote_84 : decode cX12_feelsNote 84 = .ok (.getfield 54, 3) := by decide +kernel
theorem dX12_feelsNote_87 : decode cX12_feelsNote 87 = .ok (.iload_n 1, 1) := by decide +kernel
theorem dX12_feelsNote_88 : decode cX12_feelsNote 88 = .ok (.iaload, 1) := by decide +kernel
theorem dX12_feelsNote_89 : decode cX12_feelsNote 89 = .ok (.iastore, 1) := by decide +kernel
theorem dX12_feelsNote_90 : decode cX12_feelsNote 90 = .ok (.aload_n 0, 1) := by decide +kernel
theorem dX12_feelsNote_91 : decode cX12_feelsNote 91 = .ok (.getfield 108, 3) := by decide +kernel
theorem dX12_feelsNote_94 : decode cX12_feelsNote 94 = .ok (.bipush 7, 2) := by decide +kernel
theorem dX12_feelsNote_96 : decode cX12_feelsNote 96 = .ok (.aload_n 0, 1) := by decide +kernel
theorem dX12_feelsNote_97 : decode cX12_feelsNote 97 = .ok (.getfield 29, 3) := by decide +kernel
theorem dX12_feelsNote_100 : decode cX12_feelsNote 100 = .ok (.aload_n 0, 1) := by decide +kernel
theorem dX12_feelsNote_101 : decode cX12_feelsNote 101 = .ok (.getfield 54, 3) := by decide +kernel
theorem dX12_feelsNote_104 : decode cX12_feelsNote 104 = .ok (.iload_n 1, 1) := by decide +kernel
theorem dX12_feelsNote_105 : decode cX12_feelsNote 105 = .ok (.iaload, 1) := by decide +kernel
theorem dX12_feelsNote_106 : decode cX12_feelsNote 106 = .ok (.iaload, 1) := by decide +kernel
theorem dX12_feelsNote_107 : decode cX12_feelsNote 107 = .ok (.iastore, 1) := by decide +kernel
theorem dX12_feelsNote_108 : decode cX12_feelsNote 108 = .ok (.return_, 1) := by decide +kernel
def fn_X12_feelsNote (v1 : Int32) (v2 : Int32) (μ : ro_Mem) : Option ro_Mem :=
  if ro_in v2 16 then
  ((fn_X12_feels (μ 211 v2.toNatClampNeg) μ).bind fun q2 =>
  if ro_in v1 32 then
  (ro_lt (ro_set q2 240 (0 : Int32).toNatClampNeg (q2 218 v1.toNatClampNeg)) fun m5 =>
  ro_lt (ro_set m5 240 (1 : Int32).toNatClampNeg ((m5 219 v1.toNatClampNeg) + (m5 207 52))) fun m7 =>
  ro_lt (ro_set m7 240 (2 : Int32).toNatClampNeg (m7 220 v1.toNatClampNeg)) fun m9 =>
  ro_lt (ro_set m9 240 (3 : Int32).toNatClampNeg v1) fun m11 =>
  ro_lt (ro_set m11 240 (4 : Int32).toNatClampNeg (m11 221 v1.toNatClampNeg)) fun m13 =>
  ro_lt (ro_set m13 240 (5 : Int32).toNatClampNeg v2) fun m15 =>
  ro_lt (ro_set m15 240 (6 : Int32).toNatClampNeg (m15 222 v1.toNatClampNeg)) fun m17 =>
  if ro_in (m17 222 v1.toNatClampNeg) 4 then
  (ro_lt (ro_set m17 240 (7 : Int32).toNatClampNeg (m17 214 (m17 222 v1.toNatClampNeg).toNatClampNeg)) fun m20 =>
  some m20) else none) else none) else none
theorem be_X12_feelsNote {K : ro_K} (hK : ro_C K RX12 cX12_feelsNote 3 1) (hR : ro_R K none) {v1 : Int32} {v2 : Int32}  {μ : ro_Mem} {out : ro_Mem} (hf : fn_X12_feelsNote v1 v2 μ = some out) (hq : kQ K none out) : ro_X K 0 [(0, .ref (ro_ad (kG K) 207)), (1, .int v1), (2, .int v2)] [] μ := by
  unfold fn_X12_feelsNote at hf
  refine ro_aload_n hK 0 rfl dX12_feelsNote_0 rfl ?_
  refine ro_aload_n hK 0 rfl dX12_feelsNote_1 rfl ?_
  refine ro_getr hK fl_X12_20 sh_207 dX12_feelsNote_2 ?_
  refine ro_iload_n hK 2 rfl dX12_feelsNote_5 rfl ?_
  obtain ⟨g1, hf⟩ := ro_gd hf
  refine ro_iald hK sh_211 g1 dX12_feelsNote_6 ?_
  obtain ⟨q2, e3, hf⟩ := ro_bd hf
  refine ro_callvv hK [.int (μ 211 v2.toNatClampNeg)] ml_X12_385 mv_X12_feels (mt_X12_feels (kl K) (kG K)  e3) sh_207 ⟨_, rfl, rfl⟩ (by decide) rfl rfl (Nat.le_of_ble_eq_true rfl) dX12_feelsNote_7 ?_
  refine ro_aload_n hK 0 rfl dX12_feelsNote_10 rfl ?_
  refine ro_getr hK fl_X12_108 sh_207 dX12_feelsNote_11 ?_
  refine ro_iconst (v := 0) hK dX12_feelsNote_14 (by decide) ?_
  refine ro_aload_n hK 0 rfl dX12_feelsNote_15 rfl ?_
  refine ro_getr hK fl_X12_42 sh_207 dX12_feelsNote_16 ?_
  refine ro_iload_n hK 1 rfl dX12_feelsNote_19 rfl ?_
  obtain ⟨g4, hf⟩ := ro_gd hf
  refine ro_iald hK sh_218 g4 dX12_feelsNote_20 ?_
  obtain ⟨m5, e6, hf⟩ := ro_ld hf
  refine ro_iast hK sh_240 (by decide) dX12_feelsNote_21 ?_
  refine ro_mv e6 ?_
  refine ro_aload_n hK 0 rfl dX12_feelsNote_22 rfl ?_
  refine ro_getr hK fl_X12_108 sh_207 dX12_feelsNote_23 ?_
  refine ro_iconst (v := 1) hK dX12_feelsNote_26 (by decide) ?_
  refine ro_aload_n hK 0 rfl dX12_feelsNote_27 rfl ?_
  refine ro_getr hK fl_X12_45 sh_207 dX12_feelsNote_28 ?_
  refine ro_iload_n hK 1 rfl dX12_feelsNote_31 rfl ?_
  refine ro_iald hK sh_219 g4 dX12_feelsNote_32 ?_
  refine ro_aload_n hK 0 rfl dX12_feelsNote_33 rfl ?_
  refine ro_geti hK fl_X12_388 sh_207 dX12_feelsNote_34 ?_
  refine ro_iadd hK dX12_feelsNote_37 ?_
  obtain ⟨m7, e8, hf⟩ := ro_ld hf
  refine ro_iast hK sh_240 (by decide) dX12_feelsNote_38 ?_
  refine ro_mv e8 ?_
  refine ro_aload_n hK 0 rfl dX12_feelsNote_39 rfl ?_
  refine ro_getr hK fl_X12_108 sh_207 dX12_feelsNote_40 ?_
  refine ro_iconst (v := 2) hK dX12_feelsNote_43 (by decide) ?_
  refine ro_aload_n hK 0 rfl dX12_feelsNote_44 rfl ?_
  refine ro_getr hK fl_X12_48 sh_207 dX12_feelsNote_45 ?_
  refine ro_iload_n hK 1 rfl dX12_feelsNote_48 rfl ?_
  refine ro_iald hK sh_220 g4 dX12_feelsNote_49 ?_
  obtain ⟨m9, e10, hf⟩ := ro_ld hf
  refine ro_iast hK sh_240 (by decide) dX12_feelsNote_50 ?_
  refine ro_mv e10 ?_
  refine ro_aload_n hK 0 rfl dX12_feelsNote_51 rfl ?_
  refine ro_getr hK fl_X12_108 sh_207 dX12_feelsNote_52 ?_
  refine ro_iconst (v := 3) hK dX12_feelsNote_55 (by decide) ?_
  refine ro_iload_n hK 1 rfl dX12_feelsNote_56 rfl ?_
  obtain ⟨m11, e12, hf⟩ := ro_ld hf
  refine ro_iast hK sh_240 (by decide) dX12_feelsNote_57 ?_
  refine ro_mv e12 ?_
  refine ro_aload_n hK 0 rfl dX12_feelsNote_58 rfl ?_
  refine ro_getr hK fl_X12_108 sh_207 dX12_feelsNote_59 ?_
  refine ro_iconst (v := 4) hK dX12_feelsNote_62 (by decide) ?_
  refine ro_aload_n hK 0 rfl dX12_feelsNote_63 rfl ?_
  refine ro_getr hK fl_X12_51 sh_207 dX12_feelsNote_64 ?_
  refine ro_iload_n hK 1 rfl dX12_feelsNote_67 rfl ?_
  refine ro_iald hK sh_221 g4 dX12_feelsNote_68 ?_
  obtain ⟨m13, e14, hf⟩ := ro_ld hf
  refine ro_iast hK sh_240 (by decide) dX12_feelsNote_69 ?_
  refine ro_mv e14 ?_
  refine ro_aload_n hK 0 rfl dX12_feelsNote_70 rfl ?_
  refine ro_getr hK fl_X12_108 sh_207 dX12_feelsNote_71 ?_
  refine ro_iconst (v := 5) hK dX12_feelsNote_74 (by decide) ?_
  refine ro_iload_n hK 2 rfl dX12_feelsNote_75 rfl ?_
  obtain ⟨m15, e16, hf⟩ := ro_ld hf
  refine ro_iast hK sh_240 (by decide) dX12_feelsNote_76 ?_
  refine ro_mv e16 ?_
  refine ro_aload_n hK 0 rfl dX12_feelsNote_77 rfl ?_
  refine ro_getr hK fl_X12_108 sh_207 dX12_feelsNote_78 ?_
  refine ro_bipush (v := 6) hK dX12_feelsNote_81 (by decide) ?_
  refine ro_aload_n hK 0 rfl dX12_feelsNote_83 rfl ?_
  refine ro_getr hK fl_X12_54 sh_207 dX12_feelsNote_84 ?_
  refine ro_iload_n hK 1 rfl dX12_feelsNote_87 rfl ?_
  refine ro_iald hK sh_222 g4 dX12_feelsNote_88 ?_
  obtain ⟨m17, e18, hf⟩ := ro_ld hf
  refine ro_iast hK sh_240 (by decide) dX12_feelsNote_89 ?_
  refine ro_mv e18 ?_
  refine ro_aload_n hK 0 rfl dX12_feelsNote_90 rfl ?_
  refine ro_getr hK fl_X12_108 sh_207 dX12_feelsNote_91 ?_
  refine ro_bipush (v := 7) hK dX12_feelsNote_94 (by decide) ?_
  refine ro_aload_n hK 0 rfl dX12_feelsNote_96 rfl ?_
  refine ro_getr hK fl_X12_29 sh_207 dX12_feelsNote_97 ?_
  refine ro_aload_n hK 0 rfl dX12_feelsNote_100 rfl ?_
  refine ro_getr hK fl_X12_54 sh_207 dX12_feelsNote_101 ?_
  refine ro_iload_n hK 1 rfl dX12_feelsNote_104 rfl ?_
  refine ro_iald hK sh_222 g4 dX12_feelsNote_105 ?_
  obtain ⟨g19, hf⟩ := ro_gd hf
  refine ro_iald hK sh_214 g19 dX12_feelsNote_106 ?_
  obtain ⟨m20, e21, hf⟩ := ro_ld hf
  refine ro_iast hK sh_240 (by decide) dX12_feelsNote_107 ?_
  refine ro_mv e21 ?_
  obtain rfl := Option.some.inj hf
  exact ro_vret hK hR dX12_feelsNote_108 hq
theorem mt_X12_feelsNote (l : Launch) (G : ro_G) {v1 : Int32} {v2 : Int32}  {μ : ro_Mem} {out : ro_Mem} (hf : fn_X12_feelsNote v1 v2 μ = some out) : ro_MX l G yX12_feelsNote cX12_feelsNote 3 none 1 [.ref (ro_ad G 207), .int v1, .int v2] μ none out := by
  refine ro_MX.of (by decide +kernel) (Nat.le_of_ble_eq_true rfl) (fun K hG hl hq hK hR => ?_)
  subst hG
  exact be_X12_feelsNote hK hR  hf hq
-- ===== X12_dropsOf =====
theorem dX12_dropsOf_0 : decode cX12_dropsOf 0 = .ok (.aload_n 0, 1) := by decide +kernel
theorem dX12_dropsOf_1 : decode cX12_dropsOf 1 = .ok (.getfield 45, 3) := by decide +kernel
theorem dX12_dropsOf_4 : decode cX12_dropsOf 4 = .ok (.iload_n 1, 1) := by decide +kernel
theorem dX12_dropsOf_5 : decode cX12_dropsOf 5 = .ok (.iaload, 1) := by decide +kernel
theorem dX12_dropsOf_6 : decode cX12_dropsOf 6 = .ok (.aload_n 0, 1) := by decide +kernel
theorem dX12_dropsOf_7 : decode cX12_dropsOf 7 = .ok (.getfield 388, 3) := by decide +kernel
theorem dX12_dropsOf_10 : decode cX12_dropsOf 10 = .ok (.iadd, 1) := by decide +kernel
theorem dX12_dropsOf_11 : decode cX12_dropsOf 11 = .ok (.istore_n 3, 1) := by decide +kernel
theorem dX12_dropsOf_12 : decode cX12_dropsOf 12 = .ok (.aload_n 0, 1) := by decide +kernel
theorem dX12_dropsOf_13 : decode cX12_dropsOf 13 = .ok (.iload_n 2, 1) := by decide +kernel
theorem dX12_dropsOf_14 : decode cX12_dropsOf 14 = .ok (.invokevirtual 222, 3) := by decide +kernel
theorem dX12_dropsOf_17 : decode cX12_dropsOf 17 = .ok (.ifCond .eq 34, 3) := by decide +kernel
theorem dX12_dropsOf_20 : decode cX12_dropsOf 20 = .ok (.aload_n 0, 1) := by decide +kernel
theorem dX12_dropsOf_21 : decode cX12_dropsOf 21 = .ok (.getfield 219, 3) := by decide +kernel
theorem dX12_dropsOf_24 : decode cX12_dropsOf 24 = .ok (.iload_n 2, 1) := by decide +kernel
theorem dX12_dropsOf_25 : decode cX12_dropsOf 25 = .ok (.invokestatic 226, 3) := by decide +kernel
theorem dX12_dropsOf_28 : decode cX12_dropsOf 28 = .ok (.ifCond .ne 23, 3) := by decide +kernel
theorem dX12_dropsOf_31 : decode cX12_dropsOf 31 = .ok (.iload_n 3, 1) := by decide +kernel
theorem dX12_dropsOf_32 : decode cX12_dropsOf 32 = .ok (.aload_n 0, 1) := by decide +kernel
theorem dX12_dropsOf_33 : decode cX12_dropsOf 33 = .ok (.getfield 23, 3) := by decide +kernel
theorem dX12_dropsOf_36 : decode cX12_dropsOf 36 = .ok (.iload_n 2, 1) := by decide +kernel
theorem dX12_dropsOf_37 : decode cX12_dropsOf 37 = .ok (.iaload, 1) := by decide +kernel
theorem dX12_dropsOf_38 : decode cX12_dropsOf 38 = .ok (.if_icmp .lt 13, 3) := by decide +kernel
theorem dX12_dropsOf_41 : decode cX12_dropsOf 41 = .ok (.iload_n 3, 1) := by decide +kernel
theorem dX12_dropsOf_42 : decode cX12_dropsOf 42 = .ok (.aload_n 0, 1) := by decide +kernel
theorem dX12_dropsOf_43 : decode cX12_dropsOf 43 = .ok (.getfield 26, 3) := by decide +kernel
theorem dX12_dropsOf_46 : decode cX12_dropsOf 46 = .ok (.iload_n 2, 1) := by decide +kernel
theorem dX12_dropsOf_47 : decode cX12_dropsOf 47 = .ok (.iaload, 1) := by decide +kernel
theorem dX12_dropsOf_48 : decode cX12_dropsOf 48 = .ok (.if_icmp .le 5, 3) := by decide +kernel
theorem dX12_dropsOf_51 : decode cX12_dropsOf 51 = .ok (.iconst 0, 1) := by decide +kernel
theorem dX12_dropsOf_52 : decode cX12_dropsOf 52 = .ok (.ireturn, 1) := by decide +kernel
theorem dX12_dropsOf_53 : decode cX12_dropsOf 53 = .ok (.aload_n 0, 1) := by decide +kernel
theorem dX12_dropsOf_54 : decode cX12_dropsOf 54 = .ok (.iload_n 1, 1) := by decide +kernel
theorem dX12_dropsOf_55 : decode cX12_dropsOf 55 = .ok (.iload_n 2, 1) := by decide +kernel
theorem dX12_dropsOf_56 : decode cX12_dropsOf 56 = .ok (.invokevirtual 391, 3) := by decide +kernel
theorem dX12_dropsOf_59 : decode cX12_dropsOf 59 = .ok (.aload_n 0, 1) := by decide +kernel
theorem dX12_dropsOf_60 : decode cX12_dropsOf 60 = .ok (.bipush 100, 2) := by decide +kernel
theorem dX12_dropsOf_62 : decode cX12_dropsOf 62 = .ok (.bipush 99, 2) := by decide +kernel
theorem dX12_dropsOf_64 : decode cX12_dropsOf 64 = .ok (.invokevirtual 394, 3) := by decide +kernel
theorem dX12_dropsOf_67 : decode cX12_dropsOf 67 = .ok (.ireturn, 1) := by decide +kernel
def fn_X12_dropsOf (v1 : Int32) (v2 : Int32) (μ : ro_Mem) : Option (Int32 × ro_Mem) :=
  if ro_in v1 32 then
  (ro_lt ((μ 219 v1.toNatClampNeg) + (μ 207 52)) fun z2 =>
  (fn_X12_isSlate v2 μ).bind fun q4 =>
  if q4 = 0 then
  (some (0, μ))
  else
  ((fn_X12_has (μ 207 1) v2).bind fun q7 =>
  if q7 = 0 then
  (if ro_in v2 16 then
  (if z2 < (μ 212 v2.toNatClampNeg) then
  (some (0, μ))
  else
  (if z2 ≤ (μ 213 v2.toNatClampNeg) then
  ((fn_X12_feelsNote v1 v2 μ).bind fun q13 =>
  (fn_X12_byLaw 100 99 q13).bind fun q15 =>
  some (q15.1, q15.2))
  else
  (some (0, μ)))) else none)
  else
  (some (0, μ)))) else none
theorem be_X12_dropsOf {K : ro_K} (hK : ro_C K RX12 cX12_dropsOf 4 3) (hR : ro_R K (some .int)) {v1 : Int32} {v2 : Int32}  {μ : ro_Mem} {out : Int32 × ro_Mem} (hf : fn_X12_dropsOf v1 v2 μ = some out) (hq : kQ K (some (.int out.1)) out.2) : ro_X K 0 [(0, .ref (ro_ad (kG K) 207)), (1, .int v1), (2, .int v2)] [] μ := by
  unfold fn_X12_dropsOf at hf
  refine ro_aload_n hK 0 rfl dX12_dropsOf_0 rfl ?_
  refine ro_getr hK fl_X12_45 sh_207 dX12_dropsOf_1 ?_
  refine ro_iload_n hK 1 rfl dX12_dropsOf_4 rfl ?_
  obtain ⟨g1, hf⟩ := ro_gd hf
  refine ro_iald hK sh_219 g1 dX12_dropsOf_5 ?_
  refine ro_aload_n hK 0 rfl dX12_dropsOf_6 rfl ?_
  refine ro_geti hK fl_X12_388 sh_207 dX12_dropsOf_7 ?_
  refine ro_iadd hK dX12_dropsOf_10 ?_
  obtain ⟨z2, e3, hf⟩ := ro_ld hf
  refine ro_iv e3 ?_
  refine ro_istore_n (L' := [(3, .int z2), (0, .ref (ro_ad (kG K) 207)), (1, .int v1), (2, .int v2)]) hK dX12_dropsOf_11 rfl (by decide) rfl ?_
  refine ro_aload_n hK 1 rfl dX12_dropsOf_12 rfl ?_
  refine ro_iload_n hK 3 rfl dX12_dropsOf_13 rfl ?_
  obtain ⟨q4, e5, hf⟩ := ro_bd hf
  refine ro_callvi hK [.int v2] ml_X12_222 mv_X12_isSlate (mt_X12_isSlate (kl K) (kG K)  e5) sh_207 ⟨_, rfl, rfl⟩ (by decide) rfl rfl (Nat.le_of_ble_eq_true rfl) dX12_dropsOf_14 ?_
  refine ro_if_eq hK 51 dX12_dropsOf_17 (by decide) (fun c6 => ?_) (fun c6 => ?_)
  · have hf := ro_it hf c6
    refine ro_iconst (v := 0) hK dX12_dropsOf_51 (by decide) ?_
    obtain rfl := Option.some.inj hf
    exact ro_iret hK hR dX12_dropsOf_52 hq
  · have hf := ro_ie hf c6
    refine ro_aload_n hK 1 rfl dX12_dropsOf_20 rfl ?_
    refine ro_geti hK fl_X12_219 sh_207 dX12_dropsOf_21 ?_
    refine ro_iload_n hK 3 rfl dX12_dropsOf_24 rfl ?_
    obtain ⟨q7, e8, hf⟩ := ro_bd hf
    refine ro_callsi hK [.int (μ 207 1), .int v2] ml_X12_226 ms_X12_has (mt_X12_has (kl K) (kG K)  e8) (by decide) rfl rfl (Nat.le_of_ble_eq_true rfl) dX12_dropsOf_25 ?_
    refine ro_if_ne hK 51 dX12_dropsOf_28 (by decide) (fun c9 => ?_) (fun c9 => ?_)
    · have hf := ro_ie hf c9
      refine ro_iconst (v := 0) hK dX12_dropsOf_51 (by decide) ?_
      obtain rfl := Option.some.inj hf
      exact ro_iret hK hR dX12_dropsOf_52 hq
    · have hf := ro_it hf c9
      refine ro_iload_n hK 0 rfl dX12_dropsOf_31 rfl ?_
      refine ro_aload_n hK 1 rfl dX12_dropsOf_32 rfl ?_
      refine ro_getr hK fl_X12_23 sh_207 dX12_dropsOf_33 ?_
      refine ro_iload_n hK 3 rfl dX12_dropsOf_36 rfl ?_
      obtain ⟨g10, hf⟩ := ro_gd hf
      refine ro_iald hK sh_212 g10 dX12_dropsOf_37 ?_
      refine ro_icmp_lt hK 51 dX12_dropsOf_38 (by decide) (fun c11 => ?_) (fun c11 => ?_)
      · have hf := ro_it hf c11
        refine ro_iconst (v := 0) hK dX12_dropsOf_51 (by decide) ?_
        obtain rfl := Option.some.inj hf
        exact ro_iret hK hR dX12_dropsOf_52 hq
      · have hf := ro_ie hf c11
        refine ro_iload_n hK 0 rfl dX12_dropsOf_41 rfl ?_
        refine ro_aload_n hK 1 rfl dX12_dropsOf_42 rfl ?_
        refine ro_getr hK fl_X12_26 sh_207 dX12_dropsOf_43 ?_
        refine ro_iload_n hK 3 rfl dX12_dropsOf_46 rfl ?_
        refine ro_iald hK sh_213 g10 dX12_dropsOf_47 ?_
        refine ro_icmp_le hK 53 dX12_dropsOf_48 (by decide) (fun c12 => ?_) (fun c12 => ?_)
        · have hf := ro_it hf c12
          refine ro_aload_n hK 1 rfl dX12_dropsOf_53 rfl ?_
          refine ro_iload_n hK 2 rfl dX12_dropsOf_54 rfl ?_
          refine ro_iload_n hK 3 rfl dX12_dropsOf_55 rfl ?_
          obtain ⟨q13, e14, hf⟩ := ro_bd hf
          refine ro_callvv hK [.int v1, .int v2] ml_X12_391 mv_X12_feelsNote (mt_X12_feelsNote (kl K) (kG K)  e14) sh_207 ⟨_, rfl, rfl⟩ (by decide) rfl rfl (Nat.le_of_ble_eq_true rfl) dX12_dropsOf_56 ?_
          refine ro_aload_n hK 1 rfl dX12_dropsOf_59 rfl ?_
          refine ro_bipush (v := 100) hK dX12_dropsOf_60 (by decide) ?_
          refine ro_bipush (v := 99) hK dX12_dropsOf_62 (by decide) ?_
          obtain ⟨q15, e16, hf⟩ := ro_bd hf
          refine ro_callvi hK [.int 100, .int 99] ml_X12_394 mv_X12_byLaw (mt_X12_byLaw (kl K) (kG K)  e16) sh_207 ⟨_, rfl, rfl⟩ (by decide) rfl rfl (Nat.le_of_ble_eq_true rfl) dX12_dropsOf_64 ?_
          obtain rfl := Option.some.inj hf
          exact ro_iret hK hR dX12_dropsOf_67 hq
        · have hf := ro_ie hf c12
          refine ro_iconst (v := 0) hK dX12_dropsOf_51 (by decide) ?_
          obtain rfl := Option.some.inj hf
          exact ro_iret hK hR dX12_dropsOf_52 hq
theorem mt_X12_dropsOf (l : Launch) (G : ro_G) {v1 : Int32} {v2 : Int32}  {μ : ro_Mem} {out : Int32 × ro_Mem} (hf : fn_X12_dropsOf v1 v2 μ = some out) : ro_MX l G yX12_dropsOf cX12_dropsOf 4 (some .int) 3 [.ref (ro_ad G 207), .int v1, .int v2] μ (some (.int out.1)) out.2 := by
  refine ro_MX.of (by decide +kernel) (Nat.le_of_ble_eq_true rfl) (fun K hG hl hq hK hR => ?_)
  subst hG
  exact be_X12_dropsOf hK hR  hf hq
-- ===== X12_isSnow =====
theorem dX12_isSnow_0 : decode cX12_isSnow 0 = .ok (.aload_n 0, 1) := by decide +kernel
theorem dX12_isSnow_1 : decode cX12_isSnow 1 = .ok (.iload_n 1, 1) := by decide +kernel
theorem dX12_isSnow_2 : decode cX12_isSnow 2 = .ok (.iload_n 2, 1) := by decide +kernel
theorem dX12_isSnow_3 : decode cX12_isSnow 3 = .ok (.invokevirtual 391, 3) := by decide +kernel
theorem dX12_isSnow_6 : decode cX12_isSnow 6 = .ok (.aload_n 0, 1) := by decide +kernel
theorem dX12_isSnow_7 : decode cX12_isSnow 7 = .ok (.invokevirtual 397, 3) := by decide +kernel
theorem dX12_isSnow_10 : decode cX12_isSnow 10 = .ok (.ireturn, 1) := by decide +kernel
def fn_X12_isSnow (v1 : Int32) (v2 : Int32) (μ : ro_Mem) : Option (Int32 × ro_Mem) :=
  (fn_X12_feelsNote v1 v2 μ).bind fun q1 =>
  (fn_X12_anySnow q1).bind fun q3 =>
  if q3.1 = 0 ∨ q3.1 = 1 then
  (some (q3.1, q3.2)) else none
theorem be_X12_isSnow {K : ro_K} (hK : ro_C K RX12 cX12_isSnow 3 3) (hR : ro_R K (some .boolean)) {v1 : Int32} {v2 : Int32}  {μ : ro_Mem} {out : Int32 × ro_Mem} (hf : fn_X12_isSnow v1 v2 μ = some out) (hq : kQ K (some (.int out.1)) out.2) : ro_X K 0 [(0, .ref (ro_ad (kG K) 207)), (1, .int v1), (2, .int v2)] [] μ := by
  unfold fn_X12_isSnow at hf
  refine ro_aload_n hK 0 rfl dX12_isSnow_0 rfl ?_
  refine ro_iload_n hK 1 rfl dX12_isSnow_1 rfl ?_
  refine ro_iload_n hK 2 rfl dX12_isSnow_2 rfl ?_
  obtain ⟨q1, e2, hf⟩ := ro_bd hf
  refine ro_callvv hK [.int v1, .int v2] ml_X12_391 mv_X12_feelsNote (mt_X12_feelsNote (kl K) (kG K)  e2) sh_207 ⟨_, rfl, rfl⟩ (by decide) rfl rfl (Nat.le_of_ble_eq_true rfl) dX12_isSnow_3 ?_
  refine ro_aload_n hK 0 rfl dX12_isSnow_6 rfl ?_
  obtain ⟨q3, e4, hf⟩ := ro_bd hf
  refine ro_callvi hK [] ml_X12_397 mv_X12_anySnow (mt_X12_anySnow (kl K) (kG K)  e4) sh_207 ⟨_, rfl, rfl⟩ (by decide) rfl rfl (Nat.le_of_ble_eq_true rfl) dX12_isSnow_7 ?_
  obtain ⟨g5, hf⟩ := ro_gd hf
  obtain rfl := Option.some.inj hf
  exact ro_zret hK hR dX12_isSnow_10 g5 hq
theorem mt_X12_isSnow (l : Launch) (G : ro_G) {v1 : Int32} {v2 : Int32}  {μ : ro_Mem} {out : Int32 × ro_Mem} (hf : fn_X12_isSnow v1 v2 μ = some out) : ro_MX l G yX12_isSnow cX12_isSnow 3 (some .boolean) 3 [.ref (ro_ad G 207), .int v1, .int v2] μ (some (.int out.1)) out.2 := by
  refine ro_MX.of (by decide +kernel) (Nat.le_of_ble_eq_true rfl) (fun K hG hl hq hK hR => ?_)
  subst hG
  exact be_X12_isSnow hK hR  hf hq
-- ===== X12_drops =====
theorem dX12_drops_0 : decode cX12_drops 0 = .ok (.aload_n 0, 1) := by decide +kernel
theorem dX12_drops_1 : decode cX12_drops 1 = .ok (.iload_n 1, 1) := by decide +kernel
theorem dX12_drops_2 : decode cX12_drops 2 = .ok (.invokevirtual 309, 3) := by decide +kernel
theorem dX12_drops_5 : decode cX12_drops 5 = .ok (.ifCond .eq 20, 3) := by decide +kernel
theorem dX12_drops_8 : decode cX12_drops 8 = .ok (.aload_n 0, 1) := by decide +kernel
theorem dX12_drops_9 : decode cX12_drops 9 = .ok (.iload_n 2, 1) := by decide +kernel
theorem dX12_drops_10 : decode cX12_drops 10 = .ok (.invokevirtual 222, 3) := by decide +kernel
theorem dX12_drops_13 : decode cX12_drops 13 = .ok (.ifCond .eq 12, 3) := by decide +kernel
theorem dX12_drops_16 : decode cX12_drops 16 = .ok (.aload_n 0, 1) := by decide +kernel
theorem dX12_drops_17 : decode cX12_drops 17 = .ok (.iload_n 1, 1) := by decide +kernel
theorem dX12_drops_18 : decode cX12_drops 18 = .ok (.iload_n 2, 1) := by decide +kernel
theorem dX12_drops_19 : decode cX12_drops 19 = .ok (.invokevirtual 400, 3) := by decide +kernel
theorem dX12_drops_22 : decode cX12_drops 22 = .ok (.goto 4, 3) := by decide +kernel
theorem dX12_drops_25 : decode cX12_drops 25 = .ok (.iconst (-1), 1) := by decide +kernel
theorem dX12_drops_26 : decode cX12_drops 26 = .ok (.ireturn, 1) := by decide +kernel
def fn_X12_drops (v1 : Int32) (v2 : Int32) (μ : ro_Mem) : Option (Int32 × ro_Mem) :=
  (fn_X12_isNote v1 μ).bind fun q1 =>
  if q1 = 0 then
  (some ((-1), μ))
  else
  ((fn_X12_isSlate v2 μ).bind fun q4 =>
  if q4 = 0 then
  (some ((-1), μ))
  else
  ((fn_X12_dropsOf v1 v2 μ).bind fun q7 =>
  some (q7.1, q7.2)))
theorem be_X12_drops {K : ro_K} (hK : ro_C K RX12 cX12_drops 3 4) (hR : ro_R K (some .int)) {v1 : Int32} {v2 : Int32}  {μ : ro_Mem} {out : Int32 × ro_Mem} (hf : fn_X12_drops v1 v2 μ = some out) (hq : kQ K (some (.int out.1)) out.2) : ro_X K 0 [(0, .ref (ro_ad (kG K) 207)), (1, .int v1), (2, .int v2)] [] μ := by
  unfold fn_X12_drops at hf
  refine ro_aload_n hK 0 rfl dX12_drops_0 rfl ?_
  refine ro_iload_n hK 1 rfl dX12_drops_1 rfl ?_
  obtain ⟨q1, e2, hf⟩ := ro_bd hf
  refine ro_callvi hK [.int v1] ml_X12_309 mv_X12_isNote (mt_X12_isNote (kl K) (kG K)  e2) sh_207 ⟨_, rfl, rfl⟩ (by decide) rfl rfl (Nat.le_of_ble_eq_true rfl) dX12_drops_2 ?_
  refine ro_if_eq hK 25 dX12_drops_5 (by decide) (fun c3 => ?_) (fun c3 => ?_)
  · have hf := ro_it hf c3
    refine ro_iconst (v := (-1)) hK dX12_drops_25 (by decide) ?_
    obtain rfl := Option.some.inj hf
    exact ro_iret hK hR dX12_drops_26 hq
  · have hf := ro_ie hf c3
    refine ro_aload_n hK 0 rfl dX12_drops_8 rfl ?_
    refine ro_iload_n hK 2 rfl dX12_drops_9 rfl ?_
    obtain ⟨q4, e5, hf⟩ := ro_bd hf
    refine ro_callvi hK [.int v2] ml_X12_222 mv_X12_isSlate (mt_X12_isSlate (kl K) (kG K)  e5) sh_207 ⟨_, rfl, rfl⟩ (by decide) rfl rfl (Nat.le_of_ble_eq_true rfl) dX12_drops_10 ?_
    refine ro_if_eq hK 25 dX12_drops_13 (by decide) (fun c6 => ?_) (fun c6 => ?_)
    · have hf := ro_it hf c6
      refine ro_iconst (v := (-1)) hK dX12_drops_25 (by decide) ?_
      obtain rfl := Option.some.inj hf
      exact ro_iret hK hR dX12_drops_26 hq
    · have hf := ro_ie hf c6
      refine ro_aload_n hK 0 rfl dX12_drops_16 rfl ?_
      refine ro_iload_n hK 1 rfl dX12_drops_17 rfl ?_
      refine ro_iload_n hK 2 rfl dX12_drops_18 rfl ?_
      obtain ⟨q7, e8, hf⟩ := ro_bd hf
      refine ro_callvi hK [.int v1, .int v2] ml_X12_400 mv_X12_dropsOf (mt_X12_dropsOf (kl K) (kG K)  e8) sh_207 ⟨_, rfl, rfl⟩ (by decide) rfl rfl (Nat.le_of_ble_eq_true rfl) dX12_drops_19 ?_
      refine ro_goto hK 26 dX12_drops_22 (by decide) ?_
      obtain rfl := Option.some.inj hf
      exact ro_iret hK hR dX12_drops_26 hq
theorem mt_X12_drops (l : Launch) (G : ro_G) {v1 : Int32} {v2 : Int32}  {μ : ro_Mem} {out : Int32 × ro_Mem} (hf : fn_X12_drops v1 v2 μ = some out) : ro_MX l G yX12_drops cX12_drops 3 (some .int) 4 [.ref (ro_ad G 207), .int v1, .int v2] μ (some (.int out.1)) out.2 := by
  refine ro_MX.of (by decide +kernel) (Nat.le_of_ble_eq_true rfl) (fun K hG hl hq hK hR => ?_)
  subst hG
  exact be_X12_drops hK hR  hf hq
-- ===== X12_laysDrops =====
theorem dX12_laysDrops_0 : decode cX12_laysDrops 0 = .ok (.iconst 0, 1) := by decide +kernel
theorem dX12_laysDrops_1 : decode cX12_laysDrops 1 = .ok (.istore_n 1, 1) := by decide +kernel
theorem dX12_laysDrops_2 : decode cX12_laysDrops 2 = .ok (.iload_n 1, 1) := by decide +kernel
theorem dX12_laysDrops_3 : decode cX12_laysDrops 3 = .ok (.aload_n 0, 1) := by decide +kernel
theorem dX12_laysDrops_4 : decode cX12_laysDrops 4 = .ok (.getfield 300, 3) := by decide +kernel
theorem dX12_laysDrops_7 : decode cX12_laysDrops 7 = .ok (.if_icmp .ge 79, 3) := by decide +kernel
theorem dX12_laysDrops_10 : decode cX12_laysDrops 10 = .ok (.iconst 0, 1) := by decide +kernel
theorem dX12_laysDrops_11 : decode cX12_laysDrops 11 = .ok (.istore_n 2, 1) := by decide +kernel
theorem dX12_laysDrops_12 : decode cX12_laysDrops 12 = .ok (.iload_n 2, 1) := by decide +kernel
theorem dX12_laysDrops_13 : decode cX12_laysDrops 13 = .ok (.bipush 16, 2) := by decide +kernel
theorem dX12_laysDrops_15 : decode cX12_laysDrops 15 = .ok (.if_icmp .ge 65, 3) := by decide +kernel
theorem dX12_laysDrops_18 : decode cX12_laysDrops 18 = .ok (.aload_n 0, 1) := by decide +kernel
theorem dX12_laysDrops_19 : decode cX12_laysDrops 19 = .ok (.getfield 111, 3) := by decide +kernel
theorem dX12_laysDrops_22 : decode cX12_laysDrops 22 = .ok (.bipush 16, 2) := by decide +kernel
theorem dX12_laysDrops_24 : decode cX12_laysDrops 24 = .ok (.iload_n 1, 1) := by decide +kernel
theorem dX12_laysDrops_25 : decode cX12_laysDrops 25 = .ok (.imul, 1) := by decide +kernel
theorem dX12_laysDrops_26 : decode cX12_laysDrops 26 = .ok (.iload_n 2, 1) := by decide +kernel
theorem dX12_laysDrops_27 : decode cX12_laysDrops 27 = .ok (.iadd, 1) := by decide +kernel
theorem dX12_laysDrops_28 : decode cX12_laysDrops 28 = .ok (.aload_n 0, 1) := by decide +kernel
theorem dX12_laysDrops_29 : decode cX12_laysDrops 29 = .ok (.iload_n 1, 1) := by decide +kernel
theorem dX12_laysDrops_30 : decode cX12_laysDrops 30 = .ok (.iload_n 2, 1) := by decide +kernel
theorem dX12_laysDrops_31 : decode cX12_laysDrops 31 = .ok (.invokevirtual 400, 3) := by decide +kernel
theorem dX12_laysDrops_34 : decode cX12_laysDrops 34 = .ok (.iastore, 1) := by decide +kernel
theorem dX12_laysDrops_35 : decode cX12_laysDrops 35 = .ok (.aload_n 0, 1) := by decide +kernel
theorem dX12_laysDrops_36 : decode cX12_laysDrops 36 = .ok (.getfield 114, 3) := by decide +kernel
theorem dX12_laysDrops_39 : decode cX12_laysDrops 39 = .ok (.bipush 16, 2) := by decide +kernel
theorem dX12_laysDrops_41 : decode cX12_laysDrops 41 = .ok (.iload_n 1, 1) := by decide +kernel
theorem dX12_laysDrops_42 : decode cX12_laysDrops 42 = .ok (.imul, 1) := by decide +kernel
theorem dX12_laysDrops_43 : decode cX12_laysDrops 43 = .ok (.iload_n 2, 1) := by decide +kernel
theorem dX12_laysDrops_44 : decode cX12_laysDrops 44 = .ok (.iadd, 1) := by decide +kernel
theorem dX12_laysDrops_45 : decode cX12_laysDrops 45 = .ok (.aload_n 0, 1) := by decide +kernel
theorem dX12_laysDrops_46 : decode cX12_laysDrops 46 = .ok (.getfield 111, 3) := by decide +kernel
theorem dX12_laysDrops_49 : decode cX12_laysDrops 49 = .ok (.bipush 16, 2) := by decide +kernel
theorem dX12_laysDrops_51 : decode cX12_laysDrops 51 = .ok (.iload_n 1, 1) := by decide +kernel
theorem dX12_laysDrops_52 : decode cX12_laysDrops 52 = .ok (.imul, 1) := by decide +kernel
theorem dX12_laysDrops_53 : decode cX12_laysDrops 53 = .ok (.iload_n 2, 1) := by decide +kernel
theorem dX12_laysDrops_54 : decode cX12_laysDrops 54 = .ok (.iadd, 1) := by decide +kernel
theorem dX12_laysDrops_55 : decode cX12_laysDrops 55 = .ok (.iaload, 1) := by decide +kernel
theorem dX12_laysDrops_56 : decode cX12_laysDrops 56 = .ok (.ifCond .le 16, 3) := by decide +kernel
theorem dX12_laysDrops_59 : decode cX12_laysDrops 59 = .ok (.aload_n 0, 1) := by decide +kernel
theorem dX12_laysDrops_60 : decode cX12_laysDrops 60 = .ok (.iload_n 1, 1) := by decide +kernel
theorem dX12_laysDrops_61 : decode cX12_laysDrops 61 = .ok (.iload_n 2, 1) := by decide +kernel
theorem dX12_laysDrops_62 : decode cX12_laysDrops 62 = .ok (.invokevirtual 403, 3) := by decide +kernel
theorem dX12_laysDrops_65 : decode cX12_laysDrops 65 = .ok (.ifCond .eq 7, 3) := by decide +kernel
theorem dX12_laysDrops_68 : decode cX12_laysDrops 68 = .ok (.iconst 1, 1) := by decide +kernel
theorem dX12_laysDrops_69 : decode cX12_laysDrops 69 = .ok (.goto 4, 3) := by decide +kernel
theorem dX12_laysDrops_72 : decode cX12_laysDrops 72 = .ok (.iconst 0, 1) := by decide +kernel
theorem dX12_laysDrops_73 : decode cX12_laysDrops 73 = .ok (.bastore, 1) := by decide +kernel
theorem dX12_laysDrops_74 : decode cX12_laysDrops 74 = .ok (.iinc 2 1, 3) := by decide +kernel
theorem dX12_laysDrops_77 : decode cX12_laysDrops 77 = .ok (.goto (-65), 3) := by decide +kernel
theorem dX12_laysDrops_80 : decode cX12_laysDrops 80 = .ok (.iinc 1 1, 3) := by decide +kernel
theorem dX12_laysDrops_83 : decode cX12_laysDrops 83 = .ok (.goto (-81), 3) := by decide +kernel
theorem dX12_laysDrops_86 : decode cX12_laysDrops 86 = .ok (.return_, 1) := by decide +kernel
def ok_X12_laysDrops_2 (K : ro_K)  : ro_Mem → Prop := fun e => ro_X K 86 [] [] e
def ok_X12_laysDrops_12 (K : ro_K) (v1 : Int32) : ro_Mem → Prop := fun e => ro_X K 80 [(0, .ref (ro_ad (kG K) 207)), (1, .int v1)] [] e
def fb_X12_laysDrops_12 (v1 : Int32) (rec : (Int32 × ro_Mem) → Option ro_Mem) (v2 : Int32) (μ : ro_Mem) : Option ro_Mem :=
  if 16 ≤ v2 then
  (some μ)
  else
  ((fn_X12_dropsOf v1 v2 μ).bind fun q3 =>
  if ro_in ((16 * v1) + v2) 512 then
  (ro_lt (ro_set q3.2 241 ((16 * v1) + v2).toNatClampNeg q3.1) fun m6 =>
  if (m6 241 ((16 * v1) + v2).toNatClampNeg) ≤ 0 then
  (ro_lt (ro_set m6 242 ((16 * v1) + v2).toNatClampNeg (vp_nar .boolean 0)) fun m9 =>
  rec (v2 + 1, m9))
  else
  ((fn_X12_isSnow v1 v2 m6).bind fun q11 =>
  if q11.1 = 0 then
  (ro_lt (ro_set q11.2 242 ((16 * v1) + v2).toNatClampNeg (vp_nar .boolean 0)) fun m14 =>
  rec (v2 + 1, m14))
  else
  (ro_lt (ro_set q11.2 242 ((16 * v1) + v2).toNatClampNeg (vp_nar .boolean 1)) fun m16 =>
  rec (v2 + 1, m16)))) else none)
theorem bb_X12_laysDrops_12 {K : ro_K} (hK : ro_C K RX12 cX12_laysDrops 3 4) (hR : ro_R K none) {v1 : Int32}  {μ : ro_Mem} {rec : (Int32 × ro_Mem) → Option ro_Mem} {v2 : Int32} {q : ro_Mem} (hrec : ∀ (s : Int32 × ro_Mem) (q : ro_Mem), rec s = some q → ok_X12_laysDrops_12 K v1 q → ro_X K 12 [(0, .ref (ro_ad (kG K) 207)), (1, .int v1), (2, .int s.1)] [] s.2) (hf : fb_X12_laysDrops_12 v1 rec v2 μ = some q) (hq : ok_X12_laysDrops_12 K v1 q) : ro_X K 12 [(0, .ref (ro_ad (kG K) 207)), (1, .int v1), (2, .int v2)] [] μ := by
  unfold fb_X12_laysDrops_12 at hf
  refine ro_iload_n hK 2 rfl dX12_laysDrops_12 rfl ?_
  refine ro_bipush (v := 16) hK dX12_laysDrops_13 (by decide) ?_
  refine ro_icmp_ge hK 80 dX12_laysDrops_15 (by decide) (fun c2 => ?_) (fun c2 => ?_)
  · have hf := ro_it hf c2
    refine ro_sub (L' := [(0, .ref (ro_ad (kG K) 207)), (1, .int v1)]) [0, 1] rfl ?_
    obtain rfl := Option.some.inj hf
    exact hq
  · have hf := ro_ie hf c2
    refine ro_aload_n hK 0 rfl dX12_laysDrops_18 rfl ?_
    refine ro_getr hK fl_X12_111 sh_207 dX12_laysDrops_19 ?_
    refine ro_bipush (v := 16) hK dX12_laysDrops_22 (by decide) ?_
    refine ro_iload_n hK 1 rfl dX12_laysDrops_24 rfl ?_
    refine ro_imul hK dX12_laysDrops_25 ?_
    refine ro_iload_n hK 2 rfl dX12_laysDrops_26 rfl ?_
    refine ro_iadd hK dX12_laysDrops_27 ?_
    refine ro_aload_n hK 0 rfl dX12_laysDrops_28 rfl ?_
    refine ro_iload_n hK 1 rfl dX12_laysDrops_29 rfl ?_
    refine ro_iload_n hK 2 rfl dX12_laysDrops_30 rfl ?_
    obtain ⟨q3, e4, hf⟩ := ro_bd hf
    refine ro_callvi hK [.int v1, .int v2] ml_X12_400 mv_X12_dropsOf (mt_X12_dropsOf (kl K) (kG K)  e4) sh_207 ⟨_, rfl, rfl⟩ (by decide) rfl rfl (Nat.le_of_ble_eq_true rfl) dX12_laysDrops_31 ?_
    obtain ⟨g5, hf⟩ := ro_gd hf
    obtain ⟨m6, e7, hf⟩ := ro_ld hf
    refine ro_iast hK sh_241 g5 dX12_laysDrops_34 ?_
    refine ro_mv e7 ?_
    refine ro_aload_n hK 0 rfl dX12_laysDrops_35 rfl ?_
    refine ro_getr hK fl_X12_114 sh_207 dX12_laysDrops_36 ?_
    refine ro_bipush (v := 16) hK dX12_laysDrops_39 (by decide) ?_
    refine ro_iload_n hK 1 rfl dX12_laysDrops_41 rfl ?_
    refine ro_imul hK dX12_laysDrops_42 ?_
    refine ro_iload_n hK 2 rfl dX12_laysDrops_43 rfl ?_
    refine ro_iadd hK dX12_laysDrops_44 ?_
    refine ro_aload_n hK 0 rfl dX12_laysDrops_45 rfl ?_
    refine ro_getr hK fl_X12_111 sh_207 dX12_laysDrops_46 ?_
    refine ro_bipush (v := 16) hK dX12_laysDrops_49 (by decide) ?_
    refine ro_iload_n hK 1 rfl dX12_laysDrops_51 rfl ?_
    refine ro_imul hK dX12_laysDrops_52 ?_
    refine ro_iload_n hK 2 rfl dX12_laysDrops_53 rfl ?_
    refine ro_iadd hK dX12_laysDrops_54 ?_
    refine ro_iald hK sh_241 g5 dX12_laysDrops_55 ?_
    refine ro_if_le hK 72 dX12_laysDrops_56 (by decide) (fun c8 => ?_) (fun c8 => ?_)
    · have hf := ro_it hf c8
      refine ro_iconst (v := 0) hK dX12_laysDrops_72 (by decide) ?_
      obtain ⟨m9, e10, hf⟩ := ro_ld hf
      refine ro_zast hK sh_242 g5 dX12_laysDrops_73 ?_
      refine ro_mv e10 ?_
      refine ro_iinc (v := v2 + 1) (L' := [(2, .int (v2 + 1)), (0, .ref (ro_ad (kG K) 207)), (1, .int v1)]) hK 2 rfl dX12_laysDrops_74 rfl (by decide) rfl ?_
      refine ro_goto hK 12 dX12_laysDrops_77 (by decide) ?_
      refine ro_sub (L' := [(0, .ref (ro_ad (kG K) 207)), (1, .int v1), (2, .int (v2 + 1))]) [1, 2, 0] rfl ?_
      exact hrec (v2 + 1, m9) _ hf hq
    · have hf := ro_ie hf c8
      refine ro_aload_n hK 0 rfl dX12_laysDrops_59 rfl ?_
      refine ro_iload_n hK 1 rfl dX12_laysDrops_60 rfl ?_
      refine ro_iload_n hK 2 rfl dX12_laysDrops_61 rfl ?_
      obtain ⟨q11, e12, hf⟩ := ro_bd hf
      refine ro_callvi hK [.int v1, .int v2] ml_X12_403 mv_X12_isSnow (mt_X12_isSnow (kl K) (kG K)  e12) sh_207 ⟨_, rfl, rfl⟩ (by decide) rfl rfl (Nat.le_of_ble_eq_true rfl) dX12_laysDrops_62 ?_
      refine ro_if_eq hK 72 dX12_laysDrops_65 (by decide) (fun c13 => ?_) (fun c13 => ?_)
      · have hf := ro_it hf c13
        refine ro_iconst (v := 0) hK dX12_laysDrops_72 (by decide) ?_
        obtain ⟨m14, e15, hf⟩ := ro_ld hf
        refine ro_zast hK sh_242 g5 dX12_laysDrops_73 ?_
        refine ro_mv e15 ?_
        refine ro_iinc (v := v2 + 1) (L' := [(2, .int (v2 + 1)), (0, .ref (ro_ad (kG K) 207)), (1, .int v1)]) hK 2 rfl dX12_laysDrops_74 rfl (by decide) rfl ?_
        refine ro_goto hK 12 dX12_laysDrops_77 (by decide) ?_
        refine ro_sub (L' := [(0, .ref (ro_ad (kG K) 207)), (1, .int v1), (2, .int (v2 + 1))]) [1, 2, 0] rfl ?_
        exact hrec (v2 + 1, m14) _ hf hq
      · have hf := ro_ie hf c13
        refine ro_iconst (v := 1) hK dX12_laysDrops_68 (by decide) ?_
        refine ro_goto hK 73 dX12_laysDrops_69 (by decide) ?_
        obtain ⟨m16, e17, hf⟩ := ro_ld hf
        refine ro_zast hK sh_242 g5 dX12_laysDrops_73 ?_
        refine ro_mv e17 ?_
        refine ro_iinc (v := v2 + 1) (L' := [(2, .int (v2 + 1)), (0, .ref (ro_ad (kG K) 207)), (1, .int v1)]) hK 2 rfl dX12_laysDrops_74 rfl (by decide) rfl ?_
        refine ro_goto hK 12 dX12_laysDrops_77 (by decide) ?_
        refine ro_sub (L' := [(0, .ref (ro_ad (kG K) 207)), (1, .int v1), (2, .int (v2 + 1))]) [1, 2, 0] rfl ?_
        exact hrec (v2 + 1, m16) _ hf hq
def fl_X12_laysDrops_12 (v1 : Int32) : (Int32 × ro_Mem) → Option ro_Mem :=
  ro_loop (fun rec s => fb_X12_laysDrops_12 v1 rec s.1 s.2) ro_FU
theorem lp_X12_laysDrops_12 {K : ro_K} (hK : ro_C K RX12 cX12_laysDrops 3 4) (hR : ro_R K none) {v1 : Int32}  {s : Int32 × ro_Mem} {q : ro_Mem} (hf : fl_X12_laysDrops_12 v1 s = some q) (hq : ok_X12_laysDrops_12 K v1 q) : ro_X K 12 [(0, .ref (ro_ad (kG K) 207)), (1, .int v1), (2, .int s.1)] [] s.2 :=
  ro_loopX (b := fun rec s => fb_X12_laysDrops_12 v1 rec s.1 s.2) (X := fun s => ro_X K 12 [(0, .ref (ro_ad (kG K) 207)), (1, .int v1), (2, .int s.1)] [] s.2) (OK := ok_X12_laysDrops_12 K v1) (fun rec s q hrec hb ho => bb_X12_laysDrops_12 hK hR  hrec hb ho) ro_FU s q hf hq
def fb_X12_laysDrops_2  (rec : (Int32 × ro_Mem) → Option ro_Mem) (v1 : Int32) (μ : ro_Mem) : Option ro_Mem :=
  if (μ 207 18) ≤ v1 then
  (some μ)
  else
  ((fl_X12_laysDrops_12 v1 (0, μ)).bind fun q18 =>
  rec (v1 + 1, q18))
theorem bb_X12_laysDrops_2 {K : ro_K} (hK : ro_C K RX12 cX12_laysDrops 3 4) (hR : ro_R K none)   {μ : ro_Mem} {rec : (Int32 × ro_Mem) → Option ro_Mem} {v1 : Int32} {q : ro_Mem} (hrec : ∀ (s : Int32 × ro_Mem) (q : ro_Mem), rec s = some q → ok_X12_laysDrops_2 K q → ro_X K 2 [(0, .ref (ro_ad (kG K) 207)), (1, .int s.1)] [] s.2) (hf : fb_X12_laysDrops_2 rec v1 μ = some q) (hq : ok_X12_laysDrops_2 K q) : ro_X K 2 [(0, .ref (ro_ad (kG K) 207)), (1, .int v1)] [] μ := by
  unfold fb_X12_laysDrops_2 at hf
  refine ro_iload_n hK 1 rfl dX12_laysDrops_2 rfl ?_
  refine ro_aload_n hK 0 rfl dX12_laysDrops_3 rfl ?_
  refine ro_geti hK fl_X12_300 sh_207 dX12_laysDrops_4 ?_
  refine ro_icmp_ge hK 86 dX12_laysDrops_7 (by decide) (fun c1 => ?_) (fun c1 => ?_)
  · have hf := ro_it hf c1
    refine ro_sub (L' := []) [] rfl ?_
    obtain rfl := Option.some.inj hf
    exact hq
  · have hf := ro_ie hf c1
    refine ro_iconst (v := 0) hK dX12_laysDrops_10 (by decide) ?_
    refine ro_istore_n (L' := [(2, .int 0), (0, .ref (ro_ad (kG K) 207)), (1, .int v1)]) hK dX12_laysDrops_11 rfl (by decide) rfl ?_
    obtain ⟨q18, e19, hf⟩ := ro_bd hf
    refine ro_sub (L' := [(0, .ref (ro_ad (kG K) 207)), (1, .int v1), (2, .int 0)]) [1, 2, 0] rfl ?_
    refine lp_X12_laysDrops_12 hK hR  e19 ?_
    show ro_X K 80 [(0, .ref (ro_ad (kG K) 207)), (1, .int v1)] [] q18
    refine ro_iinc (v := v1 + 1) (L' := [(1, .int (v1 + 1)), (0, .ref (ro_ad (kG K) 207))]) hK 1 rfl dX12_laysDrops_80 rfl (by decide) rfl ?_
    refine ro_goto hK 2 dX12_laysDrops_83 (by decide) ?_
    refine ro_sub (L' := [(0, .ref (ro_ad (kG K) 207)), (1, .int (v1 + 1))]) [1, 0] rfl ?_
    exact hrec (v1 + 1, q18) _ hf hq
def fl_X12_laysDrops_2  : (Int32 × ro_Mem) → Option ro_Mem :=
  ro_loop (fun rec s => fb_X12_laysDrops_2 rec s.1 s.2) ro_FU
theorem lp_X12_laysDrops_2 {K : ro_K} (hK : ro_C K RX12 cX12_laysDrops 3 4) (hR : ro_R K none)   {s : Int32 × ro_Mem} {q : ro_Mem} (hf : fl_X12_laysDrops_2 s = some q) (hq : ok_X12_laysDrops_2 K q) : ro_X K 2 [(0, .ref (ro_ad (kG K) 207)), (1, .int s.1)] [] s.2 :=
  ro_loopX (b := fun rec s => fb_X12_laysDrops_2 rec s.1 s.2) (X := fun s => ro_X K 2 [(0, .ref (ro_ad (kG K) 207)), (1, .int s.1)] [] s.2) (OK := ok_X12_laysDrops_2 K) (fun rec s q hrec hb ho => bb_X12_laysDrops_2 hK hR  hrec hb ho) ro_FU s q hf hq
def fn_X12_laysDrops (μ : ro_Mem) : Option ro_Mem :=
  (fl_X12_laysDrops_2  (0, μ)).bind fun q20 =>
  some q20
theorem be_X12_laysDrops {K : ro_K} (hK : ro_C K RX12 cX12_laysDrops 3 4) (hR : ro_R K none)   {μ : ro_Mem} {out : ro_Mem} (hf : fn_X12_laysDrops μ = some out) (hq : kQ K none out) : ro_X K 0 [(0, .ref (ro_ad (kG K) 207))] [] μ := by
  unfold fn_X12_laysDrops at hf
  refine ro_iconst (v := 0) hK dX12_laysDrops_0 (by decide) ?_
  refine ro_istore_n (L' := [(1, .int 0), (0, .ref (ro_ad (kG K) 207))]) hK dX12_laysDrops_1 rfl (by decide) rfl ?_
  obtain ⟨q20, e21, hf⟩ := ro_bd hf
  refine ro_sub (L' := [(0, .ref (ro_ad (kG K) 207)), (1, .int 0)]) [1, 0] rfl ?_
  refine lp_X12_laysDrops_2 hK hR  e21 ?_
  show ro_X K 86 [] [] q20
  obtain rfl := Option.some.inj hf
  exact ro_vret hK hR dX12_laysDrops_86 hq
theorem mt_X12_laysDrops (l : Launch) (G : ro_G)   {μ : ro_Mem} {out : ro_Mem} (hf : fn_X12_laysDrops μ = some out) : ro_MX l G yX12_laysDrops cX12_laysDrops 3 none 4 [.ref (ro_ad G 207)] μ none out := by
  refine ro_MX.of (by decide +kernel) (Nat.le_of_ble_eq_true rfl) (fun K hG hl hq hK hR => ?_)
  subst hG
  exact be_X12_laysDrops hK hR  hf hq
-- ===== X12_lands_ =====
theorem dX12_lands__0 : decode cX12_lands_ 0 = .ok (.aload_n 0, 1) := by decide +kernel
theorem dX12_lands__1 : decode cX12_lands_ 1 = .ok (.getfield 20, 3) := by decide +kernel
theorem dX12_lands__4 : decode cX12_lands_ 4 = .ok (.iload_n 1, 1) := by decide +kernel
theorem dX12_lands__5 : decode cX12_lands_ 5 = .ok (.iaload, 1) := by decide +kernel
theorem dX12_lands__6 : decode cX12_lands_ 6 = .ok (.istore 4, 2) := by decide +kernel
theorem dX12_lands__8 : decode cX12_lands_ 8 = .ok (.aload_n 0, 1) := by decide +kernel
theorem dX12_lands__9 : decode cX12_lands_ 9 = .ok (.getfield 7, 3) := by decide +kernel
theorem dX12_lands__12 : decode cX12_lands_ 12 = .ok (.iload 4, 2) := by decide +kernel
theorem dX12_lands__14 : decode cX12_lands_ 14 = .ok (.baload, 1) := by decide +kernel
theorem dX12_lands__15 : decode cX12_lands_ 15 = .ok (.ifCond .ne 15, 3) := by decide +kernel
theorem dX12_lands__18 : decode cX12_lands_ 18 = .ok (.iload 4, 2) := by decide +kernel
theorem dX12_lands__20 : decode cX12_lands_ 20 = .ok (.iload_n 2, 1) := by decide +kernel
theorem dX12_lands__21 : decode cX12_lands_ 21 = .ok (.if_icmp .ne 7, 3) := by decide +kernel
theorem dX12_lands__24 : decode cX12_lands_ 24 = .ok (.iload_n 3, 1) := by decide +kernel
theorem dX12_lands__25 : decode cX12_lands_ 25 = .ok (.goto 4, 3) := by decide +kernel
theorem dX12_lands__28 : decode cX12_lands_ 28 = .ok (.iconst 0, 1) := by decide +kernel
theorem dX12_lands__29 : decode cX12_lands_ 29 = .ok (.ireturn, 1) := by decide +kernel
theorem dX12_lands__30 : decode cX12_lands_ 30 = .ok (.iload 4, 2) := by decide +kernel
theorem dX12_lands__32 : decode cX12_lands_ 32 = .ok (.bipush 12, 2) := by decide +kernel
theorem dX12_lands__34 : decode cX12_lands_ 34 = .ok (.idiv, 1) := by decide +kernel
theorem dX12_lands__35 : decode cX12_lands_ 35 = .ok (.iload_n 2, 1) := by decide +kernel
theorem dX12_lands__36 : decode cX12_lands_ 36 = .ok (.bipush 12, 2) := by decide +kernel
theorem dX12_lands__38 : decode cX12_lands_ 38 = .ok (.idiv, 1) := by decide +kernel
theorem dX12_lands__39 : decode cX12_lands_ 39 = .ok (.if_icmp .ne 20, 3) := by decide +kernel
theorem dX12_lands__42 : decode cX12_lands_ 42 = .ok (.iload 4, 2) := by decide +kernel
theorem dX12_lands__44 : decode cX12_lands_ 44 = .ok (.iload_n 2, 1) := by decide +kernel
theorem dX12_lands__45 : decode cX12_lands_ 45 = .ok (.isub, 1) := by decide +kernel
theorem dX12_lands__46 : decode cX12_lands_ 46 = .ok (.invokestatic 406, 3) := by decide +kernel
theorem dX12_lands__49 : decode cX12_lands_ 49 = .ok (.iconst 1, 1) := by decide +kernel
theorem dX12_lands__50 : decode cX12_lands_ 50 = .ok (.if_icmp .ne 9, 3) := by decide +kernel
theorem dX12_lands__53 : decode cX12_lands_ 53 = .ok (.iload_n 3, 1) := by decide +kernel
theorem dX12_lands__54 : decode cX12_lands_ 54 = .ok (.iconst 3, 1) := by decide +kernel
theorem dX12_lands__55 : decode cX12_lands_ 55 = .ok (.idiv, 1) := by decide +kernel
theorem dX12_lands__56 : decode cX12_lands_ 56 = .ok (.goto 4, 3) := by decide +kernel
theorem dX12_lands__59 : decode cX12_lands_ 59 = .ok (.iconst 0, 1) := by decide +kernel
theorem dX12_lands__60 : decode cX12_lands_ 60 = .ok (.ireturn, 1) := by decide +kernel
def fn_X12_lands_ (v1 : Int32) (v2 : Int32) (v3 : Int32) (μ : ro_Mem) : Option Int32 :=
  if ro_in v1 16 then
  (ro_lt (μ 211 v1.toNatClampNeg) fun z2 =>
  if ro_in z2 96 then
  (if (μ 208 z2.toNatClampNeg) = 0 then
  (if z2 = v2 then
  (some v3)
  else
  (some 0))
  else
  (if (z2 / 12) = (v2 / 12) then
  ((fn_X12_size (z2 - v2)).bind fun q7 =>
  if q7 = 1 then
  (some (v3 / 3))
  else
  (some 0))
  else
  (some 0))) else none) else none
theorem be_X12_lands_ {K : ro_K} (hK : ro_C K RX12 cX12_lands_ 5 1) (hR : ro_R K (some .int)) {v1 : Int32} {v2 : Int32} {v3 : Int32}  {μ : ro_Mem} {out : Int32} (hf : fn_X12_lands_ v1 v2 v3 μ = some out) (hq : kQ K (some (.int out)) μ) : ro_X K 0 [(0, .ref (ro_ad (kG K) 207)), (1, .int v1), (2, .int v2), (3, .int v3)] [] μ := by
  unfold fn_X12_lands_ at hf
  refine ro_aload_n hK 0 rfl dX12_lands__0 rfl ?_
  refine ro_getr hK fl_X12_20 sh_207 dX12_lands__1 ?_
  refine ro_iload_n hK 1 rfl dX12_lands__4 rfl ?_
  obtain ⟨g1, hf⟩ := ro_gd hf
  refine ro_iald hK sh_211 g1 dX12_lands__5 ?_
  obtain ⟨z2, e3, hf⟩ := ro_ld hf
  refine ro_iv e3 ?_
  refine ro_istore (L' := [(4, .int z2), (0, .ref (ro_ad (kG K) 207)), (1, .int v1), (2, .int v2), (3, .int v3)]) hK dX12_lands__6 (by decide) rfl ?_
  refine ro_aload_n hK 1 rfl dX12_lands__8 rfl ?_
  refine ro_getr hK fl_X12_7 sh_207 dX12_lands__9 ?_
  refine ro_iload hK 0 rfl dX12_lands__12 ?_
  obtain ⟨g4, hf⟩ := ro_gd hf
  refine ro_zald hK sh_208 g4 dX12_lands__14 ?_
  refine ro_if_ne hK 30 dX12_lands__15 (by decide) (fun c5 => ?_) (fun c5 => ?_)
  · have hf := ro_ie hf c5
    refine ro_iload hK 0 rfl dX12_lands__30 ?_
    refine ro_bipush (v := 12) hK dX12_lands__32 (by decide) ?_
    refine ro_idiv hK dX12_lands__34 (by decide) ?_
    refine ro_iload_n hK 3 rfl dX12_lands__35 rfl ?_
    refine ro_bipush (v := 12) hK dX12_lands__36 (by decide) ?_
    refine ro_idiv hK dX12_lands__38 (by decide) ?_
    refine ro_icmp_ne hK 59 dX12_lands__39 (by decide) (fun c6 => ?_) (fun c6 => ?_)
    · have hf := ro_ie hf c6
      refine ro_iconst (v := 0) hK dX12_lands__59 (by decide) ?_
      obtain rfl := Option.some.inj hf
      exact ro_iret hK hR dX12_lands__60 hq
    · have hf := ro_it hf c6
      refine ro_iload hK 0 rfl dX12_lands__42 ?_
      refine ro_iload_n hK 3 rfl dX12_lands__44 rfl ?_
      refine ro_isub hK dX12_lands__45 ?_
      obtain ⟨q7, e8, hf⟩ := ro_bd hf
      refine ro_callsi hK [.int (z2 - v2)] ml_X12_406 ms_X12_size (mt_X12_size (kl K) (kG K)  e8) (by decide) rfl rfl (Nat.le_of_ble_eq_true rfl) dX12_lands__46 ?_
      refine ro_iconst (v := 1) hK dX12_lands__49 (by decide) ?_
      refine ro_icmp_ne hK 59 dX12_lands__50 (by decide) (fun c9 => ?_) (fun c9 => ?_)
      · have hf := ro_ie hf c9
        refine ro_iconst (v := 0) hK dX12_lands__59 (by decide) ?_
        obtain rfl := Option.some.inj hf
        exact ro_iret hK hR dX12_lands__60 hq
      · have hf := ro_it hf c9
        refine ro_iload_n hK 4 rfl dX12_lands__53 rfl ?_
        refine ro_iconst (v := 3) hK dX12_lands__54 (by decide) ?_
        refine ro_idiv hK dX12_lands__55 (by decide) ?_
        refine ro_goto hK 60 dX12_lands__56 (by decide) ?_
        obtain rfl := Option.some.inj hf
        exact ro_iret hK hR dX12_lands__60 hq
  · have hf := ro_it hf c5
    refine ro_iload hK 0 rfl dX12_lands__18 ?_
    refine ro_iload_n hK 3 rfl dX12_lands__20 rfl ?_
    refine ro_icmp_ne hK 28 dX12_lands__21 (by decide) (fun c10 => ?_) (fun c10 => ?_)
    · have hf := ro_ie hf c10
      refine ro_iconst (v := 0) hK dX12_lands__28 (by decide) ?_
      obtain rfl := Option.some.inj hf
      exact ro_iret hK hR dX12_lands__29 hq
    · have hf := ro_it hf c10
      refine ro_iload_n hK 4 rfl dX12_lands__24 rfl ?_
      refine ro_goto hK 29 dX12_lands__25 (by decide) ?_
      obtain rfl := Option.some.inj hf
      exact ro_iret hK hR dX12_lands__29 hq
theorem mt_X12_lands_ (l : Launch) (G : ro_G) {v1 : Int32} {v2 : Int32} {v3 : Int32}  {μ : ro_Mem} {out : Int32} (hf : fn_X12_lands_ v1 v2 v3 μ = some out) : ro_MX l G yX12_lands_ cX12_lands_ 5 (some .int) 1 [.ref (ro_ad G 207), .int v1, .int v2, .int v3] μ (some (.int out)) μ := by
  refine ro_MX.of (by decide +kernel) (Nat.le_of_ble_eq_true rfl) (fun K hG hl hq hK hR => ?_)
  subst hG
  exact be_X12_lands_ hK hR  hf hq
-- ===== X12_fallsIn =====
theorem dX12_fallsIn_0 : decode cX12_fallsIn 0 = .ok (.aload_n 0, 1) := by decide +kernel
theorem dX12_fallsIn_1 : decode cX12_fallsIn 1 = .ok (.getfield 54, 3) := by decide +kernel
theorem dX12_fallsIn_4 : decode cX12_fallsIn 4 = .ok (.iload_n 1, 1) := by decide +kernel
theorem dX12_fallsIn_5 : decode cX12_fallsIn 5 = .ok (.iaload, 1) := by decide +kernel
theorem dX12_fallsIn_6 : decode cX12_fallsIn 6 = .ok (.aload_n 0, 1) := by decide +kernel
theorem dX12_fallsIn_7 : decode cX12_fallsIn 7 = .ok (.getfield 114, 3) := by decide +kernel
theorem dX12_fallsIn_10 : decode cX12_fallsIn 10 = .ok (.bipush 16, 2) := by decide +kernel
theorem dX12_fallsIn_12 : decode cX12_fallsIn 12 = .ok (.iload_n 1, 1) := by decide +kernel
theorem dX12_fallsIn_13 : decode cX12_fallsIn 13 = .ok (.imul, 1) := by decide +kernel
theorem dX12_fallsIn_14 : decode cX12_fallsIn 14 = .ok (.iload_n 2, 1) := by decide +kernel
theorem dX12_fallsIn_15 : decode cX12_fallsIn 15 = .ok (.iadd, 1) := by decide +kernel
theorem dX12_fallsIn_16 : decode cX12_fallsIn 16 = .ok (.baload, 1) := by decide +kernel
theorem dX12_fallsIn_17 : decode cX12_fallsIn 17 = .ok (.ifCond .eq 7, 3) := by decide +kernel
theorem dX12_fallsIn_20 : decode cX12_fallsIn 20 = .ok (.iconst 1, 1) := by decide +kernel
theorem dX12_fallsIn_21 : decode cX12_fallsIn 21 = .ok (.goto 4, 3) := by decide +kernel
theorem dX12_fallsIn_24 : decode cX12_fallsIn 24 = .ok (.iconst 0, 1) := by decide +kernel
theorem dX12_fallsIn_25 : decode cX12_fallsIn 25 = .ok (.iadd, 1) := by decide +kernel
theorem dX12_fallsIn_26 : decode cX12_fallsIn 26 = .ok (.istore_n 3, 1) := by decide +kernel
theorem dX12_fallsIn_27 : decode cX12_fallsIn 27 = .ok (.iload_n 3, 1) := by decide +kernel
theorem dX12_fallsIn_28 : decode cX12_fallsIn 28 = .ok (.iconst 4, 1) := by decide +kernel
theorem dX12_fallsIn_29 : decode cX12_fallsIn 29 = .ok (.if_icmp .ge 7, 3) := by decide +kernel
theorem dX12_fallsIn_32 : decode cX12_fallsIn 32 = .ok (.iload_n 3, 1) := by decide +kernel
theorem dX12_fallsIn_33 : decode cX12_fallsIn 33 = .ok (.goto 4, 3) := by decide +kernel
theorem dX12_fallsIn_36 : decode cX12_fallsIn 36 = .ok (.iconst (-1), 1) := by decide +kernel
theorem dX12_fallsIn_37 : decode cX12_fallsIn 37 = .ok (.ireturn, 1) := by decide +kernel
def fj_X12_fallsIn_25 (t0 : Int32) (t1 : Int32) (μ : ro_Mem) : Option Int32 :=
  ro_lt (t0 + t1) fun z4 =>
  if 4 ≤ z4 then
  (some (-1))
  else
  (some z4)
theorem bj_X12_fallsIn_25 {K : ro_K} (hK : ro_C K RX12 cX12_fallsIn 4 0) (hR : ro_R K (some .int)) {t0 : Int32} {t1 : Int32}   {μ : ro_Mem}  {out : Int32} (hf : fj_X12_fallsIn_25 t0 t1 μ = some out) (hq : kQ K (some (.int out)) μ) : ro_X K 25 [] [.int t1, .int t0] μ := by
  unfold fj_X12_fallsIn_25 at hf
  refine ro_iadd hK dX12_fallsIn_25 ?_
  obtain ⟨z4, e5, hf⟩ := ro_ld hf
  refine ro_iv e5 ?_
  refine ro_istore_n (L' := [(3, .int z4)]) hK dX12_fallsIn_26 rfl (by decide) rfl ?_
  refine ro_iload_n hK 0 rfl dX12_fallsIn_27 rfl ?_
  refine ro_iconst (v := 4) hK dX12_fallsIn_28 (by decide) ?_
  refine ro_icmp_ge hK 36 dX12_fallsIn_29 (by decide) (fun c6 => ?_) (fun c6 => ?_)
  · have hf := ro_it hf c6
    refine ro_iconst (v := (-1)) hK dX12_fallsIn_36 (by decide) ?_
    obtain rfl := Option.some.inj hf
    exact ro_iret hK hR dX12_fallsIn_37 hq
  · have hf := ro_ie hf c6
    refine ro_iload_n hK 0 rfl dX12_fallsIn_32 rfl ?_
    refine ro_goto hK 37 dX12_fallsIn_33 (by decide) ?_
    obtain rfl := Option.some.inj hf
    exact ro_iret hK hR dX12_fallsIn_37 hq
def fn_X12_fallsIn (v1 : Int32) (v2 : Int32) (μ : ro_Mem) : Option Int32 :=
  if ro_in v1 32 then
  (if ro_in ((16 * v1) + v2) 512 then
  (if (μ 242 ((16 * v1) + v2).toNatClampNeg) = 0 then
  (fj_X12_fallsIn_25 (μ 222 v1.toNatClampNeg) 0 μ)
  else
  (fj_X12_fallsIn_25 (μ 222 v1.toNatClampNeg) 1 μ)) else none) else none
theorem be_X12_fallsIn {K : ro_K} (hK : ro_C K RX12 cX12_fallsIn 4 0) (hR : ro_R K (some .int)) {v1 : Int32} {v2 : Int32}  {μ : ro_Mem} {out : Int32} (hf : fn_X12_fallsIn v1 v2 μ = some out) (hq : kQ K (some (.int out)) μ) : ro_X K 0 [(0, .ref (ro_ad (kG K) 207)), (1, .int v1), (2, .int v2)] [] μ := by
  unfold fn_X12_fallsIn at hf
  refine ro_aload_n hK 0 rfl dX12_fallsIn_0 rfl ?_
  refine ro_getr hK fl_X12_54 sh_207 dX12_fallsIn_1 ?_
  refine ro_iload_n hK 1 rfl dX12_fallsIn_4 rfl ?_
  obtain ⟨g1, hf⟩ := ro_gd hf
  refine ro_iald hK sh_222 g1 dX12_fallsIn_5 ?_
  refine ro_aload_n hK 0 rfl dX12_fallsIn_6 rfl ?_
  refine ro_getr hK fl_X12_114 sh_207 dX12_fallsIn_7 ?_
  refine ro_bipush (v := 16) hK dX12_fallsIn_10 (by decide) ?_
  refine ro_iload_n hK 1 rfl dX12_fallsIn_12 rfl ?_
  refine ro_imul hK dX12_fallsIn_13 ?_
  refine ro_iload_n hK 2 rfl dX12_fallsIn_14 rfl ?_
  refine ro_iadd hK dX12_fallsIn_15 ?_
  obtain ⟨g2, hf⟩ := ro_gd hf
  refine ro_zald hK sh_242 g2 dX12_fallsIn_16 ?_
  refine ro_if_eq hK 24 dX12_fallsIn_17 (by decide) (fun c3 => ?_) (fun c3 => ?_)
  · have hf := ro_it hf c3
    refine ro_iconst (v := 0) hK dX12_fallsIn_24 (by decide) ?_
    refine ro_sub (L' := []) [] rfl ?_
    exact bj_X12_fallsIn_25 hK hR  hf hq
  · have hf := ro_ie hf c3
    refine ro_iconst (v := 1) hK dX12_fallsIn_20 (by decide) ?_
    refine ro_goto hK 25 dX12_fallsIn_21 (by decide) ?_
    refine ro_sub (L' := []) [] rfl ?_
    exact bj_X12_fallsIn_25 hK hR  hf hq
theorem mt_X12_fallsIn (l : Launch) (G : ro_G) {v1 : Int32} {v2 : Int32}  {μ : ro_Mem} {out : Int32} (hf : fn_X12_fallsIn v1 v2 μ = some out) : ro_MX l G yX12_fallsIn cX12_fallsIn 4 (some .int) 0 [.ref (ro_ad G 207), .int v1, .int v2] μ (some (.int out)) μ := by
  refine ro_MX.of (by decide +kernel) (Nat.le_of_ble_eq_true rfl) (fun K hG hl hq hK hR => ?_)
  subst hG
  exact be_X12_fallsIn hK hR  hf hq
-- ===== X12_byNote =====
theorem dX12_byNote_0 : decode cX12_byNote 0 = .ok (.iconst 0, 1) := by decide +kernel
theorem dX12_byNote_1 : decode cX12_byNote 1 = .ok (.istore 4, 2) := by decide +kernel
theorem dX12_byNote_3 : decode cX12_byNote 3 = .ok (.iconst 0, 1) := by decide +kernel
theorem dX12_byNote_4 : decode cX12_byNote 4 = .ok (.istore 5, 2) := by decide +kernel
theorem dX12_byNote_6 : decode cX12_byNote 6 = .ok (.iload 5, 2) := by decide +kernel
theorem dX12_byNote_8 : decode cX12_byNote 8 = .ok (.bipush 16, 2) := by decide +kernel
theorem dX12_byNote_10 : decode cX12_byNote 10 = .ok (.if_icmp .ge 59, 3) := by decide +kernel
theorem dX12_byNote_13 : decode cX12_byNote 13 = .ok (.aload_n 0, 1) := by decide +kernel
theorem dX12_byNote_14 : decode cX12_byNote 14 = .ok (.getfield 111, 3) := by decide +kernel
theorem dX12_byNote_17 : decode cX12_byNote 17 = .ok (.bipush 16, 2) := by decide +kernel
theorem dX12_byNote_19 : decode cX12_byNote 19 = .ok (.iload_n 1, 1) := by decide +kernel
theorem dX12_byNote_20 : decode cX12_byNote 20 = .ok (.imul, 1) := by decide +kernel
theorem dX12_byNote_21 : decode cX12_byNote 21 = .ok (.iload 5, 2) := by decide +kernel
theorem dX12_byNote_23 : decode cX12_byNote 23 = .ok (.iadd, 1) := by decide +kernel
theorem dX12_byNote_24 : decode cX12_byNote 24 = .ok (.iaload, 1) := by decide +kernel
theorem dX12_byNote_25 : decode cX12_byNote 25 = .ok (.ifCond .le 38, 3) := by decide +kernel
theorem dX12_byNote_28 : decode cX12_byNote 28 = .ok (.aload_n 0, 1) := by decide +kernel
theorem dX12_byNote_29 : decode cX12_byNote 29 = .ok (.iload_n 1, 1) := by decide +kernel
theorem dX12_byNote_30 : decode cX12_byNote 30 = .ok (.iload 5, 2) := by decide +kernel
theorem dX12_byNote_32 : decode cX12_byNote 32 = .ok (.invokevirtual 409, 3) := by decide +kernel
theorem dX12_byNote_35 : decode cX12_byNote 35 = .ok (.iload_n 2, 1) := by decide +kernel
theorem dX12_byNote_36 : decode cX12_byNote 36 = .ok (.if_icmp .ne 27, 3) := by decide +kernel
theorem dX12_byNote_39 : decode cX12_byNote 39 = .ok (.iload 4, 2) := by decide +kernel
theorem dX12_byNote_41 : decode cX12_byNote 41 = .ok (.aload_n 0, 1) := by decide +kernel
theorem dX12_byNote_42 : decode cX12_byNote 42 = .ok (.iload 5, 2) := by decide +kernel
theorem dX12_byNote_44 : decode cX12_byNote 44 = .ok (.iload_n 3, 1) := by decide +kernel
theorem dX12_byNote_45 : decode cX12_byNote 45 = .ok (.aload_n 0, 1) := by decide +kernel
theorem dX12_byNote_46 : decode cX12_byNote 46 = .ok (.getfield 111, 3) := by decide +kernel
theorem dX12_byNote_49 : decode cX12_byNote 49 = .ok (.bipush 16, 2) := by decide +kernel
theorem dX12_byNote_51 : decode cX12_byNote 51 = .ok (.iload_n 1, 1) := by decide +kernel
theorem dX12_byNote_52 : decode cX12_byNote 52 = .ok (.imul, 1) := by decide +kernel
theorem dX12_byNote_53 : decode cX12_byNote 53 = .ok (.iload 5, 2) := by decide +kernel
theorem dX12_byNote_55 : decode cX12_byNote 55 = .ok (.iadd, 1) := by decide +kernel
theorem dX12_byNote_56 : decode cX12_byNote 56 = .ok (.iaload, 1) := by decide +kernel
theorem dX12_byNote_57 : decode cX12_byNote 57 = .ok (.invokevirtual 412, 3) := by decide +kernel
theorem dX12_byNote_60 : decode cX12_byNote 60 = .ok (.iadd, 1) := by decide +kernel
theorem dX12_byNote_61 : decode cX12_byNote 61 = .ok (.istore 4, 2) := by decide +kernel
theorem dX12_byNote_63 : decode cX12_byNote 63 = .ok (.iinc 5 1, 3) := by decide +kernel
theorem dX12_byNote_66 : decode cX12_byNote 66 = .ok (.goto (-60), 3) := by decide +kernel
theorem dX12_byNote_69 : decode cX12_byNote 69 = .ok (.iload 4, 2) := by decide +kernel
theorem dX12_byNote_71 : decode cX12_byNote 71 = .ok (.ireturn, 1) := by decide +kernel
def ok_X12_byNote_6 (K : ro_K) (v1 : Int32) (v2 : Int32) (v3 : Int32) (μ : ro_Mem) : Int32 → Prop := fun e => ro_X K 69 [(4, .int e)] [] μ
def fb_X12_byNote_6 (v1 : Int32) (v2 : Int32) (v3 : Int32) (μ : ro_Mem) (rec : (Int32 × Int32) → Option Int32) (v4 : Int32) (v5 : Int32) : Option Int32 :=
  if 16 ≤ v5 then
  (some v4)
  else
  (if ro_in ((16 * v1) + v5) 512 then
  (if (μ 241 ((16 * v1) + v5).toNatClampNeg) ≤ 0 then
  (rec (v4, v5 + 1))
  else
  ((fn_X12_fallsIn v1 v5 μ).bind fun q4 =>
  if q4 = v2 then
  ((fn_X12_lands_ v5 v3 (μ 241 ((16 * v1) + v5).toNatClampNeg) μ).bind fun q7 =>
  ro_lt (v4 + q7) fun z9 =>
  rec (z9, v5 + 1))
  else
  (rec (v4, v5 + 1)))) else none)
theorem bb_X12_byNote_6 {K : ro_K} (hK : ro_C K RX12 cX12_byNote 6 2) (hR : ro_R K (some .int)) {v1 : Int32} {v2 : Int32} {v3 : Int32}  {μ : ro_Mem} {rec : (Int32 × Int32) → Option Int32} {v4 : Int32} {v5 : Int32} {q : Int32} (hrec : ∀ (s : Int32 × Int32) (q : Int32), rec s = some q → ok_X12_byNote_6 K v1 v2 v3 μ q → ro_X K 6 [(0, .ref (ro_ad (kG K) 207)), (1, .int v1), (2, .int v2), (3, .int v3), (4, .int s.1), (5, .int s.2)] [] μ) (hf : fb_X12_byNote_6 v1 v2 v3 μ rec v4 v5 = some q) (hq : ok_X12_byNote_6 K v1 v2 v3 μ q) : ro_X K 6 [(0, .ref (ro_ad (kG K) 207)), (1, .int v1), (2, .int v2), (3, .int v3), (4, .int v4), (5, .int v5)] [] μ := by
  unfold fb_X12_byNote_6 at hf
  refine ro_iload hK 5 rfl dX12_byNote_6 ?_
  refine ro_bipush (v := 16) hK dX12_byNote_8 (by decide) ?_
  refine ro_icmp_ge hK 69 dX12_byNote_10 (by decide) (fun c1 => ?_) (fun c1 => ?_)
  · have hf := ro_it hf c1
    refine ro_sub (L' := [(4, .int v4)]) [4] rfl ?_
    obtain rfl := Option.some.inj hf
    exact hq
  · have hf := ro_ie hf c1
    refine ro_aload_n hK 0 rfl dX12_byNote_13 rfl ?_
    refine ro_getr hK fl_X12_111 sh_207 dX12_byNote_14 ?_
    refine ro_bipush (v := 16) hK dX12_byNote_17 (by decide) ?_
    refine ro_iload_n hK 1 rfl dX12_byNote_19 rfl ?_
    refine ro_imul hK dX12_byNote_20 ?_
    refine ro_iload hK 5 rfl dX12_byNote_21 ?_
    refine ro_iadd hK dX12_byNote_23 ?_
    obtain ⟨g2, hf⟩ := ro_gd hf
    refine ro_iald hK sh_241 g2 dX12_byNote_24 ?_
    refine ro_if_le hK 63 dX12_byNote_25 (by decide) (fun c3 => ?_) (fun c3 => ?_)
    · have hf := ro_it hf c3
      refine ro_iinc (v := v5 + 1) (L' := [(5, .int (v5 + 1)), (0, .ref (ro_ad (kG K) 207)), (1, .int v1), (2, .int v2), (3, .int v3), (4, .int v4)]) hK 5 rfl dX12_byNote_63 rfl (by decide) rfl ?_
      refine ro_goto hK 6 dX12_byNote_66 (by decide) ?_
      refine ro_sub (L' := [(0, .ref (ro_ad (kG K) 207)), (1, .int v1), (2, .int v2), (3, .int v3), (4, .int v4), (5, .int (v5 + 1))]) [1, 2, 3, 4, 5, 0] rfl ?_
      exact hrec (v4, v5 + 1) _ hf hq
    · have hf := ro_ie hf c3
      refine ro_aload_n hK 0 rfl dX12_byNote_28 rfl ?_
      refine ro_iload_n hK 1 rfl dX12_byNote_29 rfl ?_
      refine ro_iload hK 5 rfl dX12_byNote_30 ?_
      obtain ⟨q4, e5, hf⟩ := ro_bd hf
      refine ro_callvi hK [.int v1, .int v5] ml_X12_409 mv_X12_fallsIn (mt_X12_fallsIn (kl K) (kG K)  e5) sh_207 ⟨_, rfl, rfl⟩ (by decide) rfl rfl (Nat.le_of_ble_eq_true rfl) dX12_byNote_32 ?_
      refine ro_iload_n hK 2 rfl dX12_byNote_35 rfl ?_
      refine ro_icmp_ne hK 63 dX12_byNote_36 (by decide) (fun c6 => ?_) (fun c6 => ?_)
      · have hf := ro_ie hf c6
        refine ro_iinc (v := v5 + 1) (L' := [(5, .int (v5 + 1)), (0, .ref (ro_ad (kG K) 207)), (1, .int v1), (2, .int v2), (3, .int v3), (4, .int v4)]) hK 5 rfl dX12_byNote_63 rfl (by decide) rfl ?_
        refine ro_goto hK 6 dX12_byNote_66 (by decide) ?_
        refine ro_sub (L' := [(0, .ref (ro_ad (kG K) 207)), (1, .int v1), (2, .int v2), (3, .int v3), (4, .int v4), (5, .int (v5 + 1))]) [1, 2, 3, 4, 5, 0] rfl ?_
        exact hrec (v4, v5 + 1) _ hf hq
      · have hf := ro_it hf c6
        refine ro_iload hK 4 rfl dX12_byNote_39 ?_
        refine ro_aload_n hK 0 rfl dX12_byNote_41 rfl ?_
        refine ro_iload hK 5 rfl dX12_byNote_42 ?_
        refine ro_iload_n hK 3 rfl dX12_byNote_44 rfl ?_
        refine ro_aload_n hK 0 rfl dX12_byNote_45 rfl ?_
        refine ro_getr hK fl_X12_111 sh_207 dX12_byNote_46 ?_
        refine ro_bipush (v := 16) hK dX12_byNote_49 (by decide) ?_
        refine ro_iload_n hK 1 rfl dX12_byNote_51 rfl ?_
        refine ro_imul hK dX12_byNote_52 ?_
        refine ro_iload hK 5 rfl dX12_byNote_53 ?_
        refine ro_iadd hK dX12_byNote_55 ?_
        refine ro_iald hK sh_241 g2 dX12_byNote_56 ?_
        obtain ⟨q7, e8, hf⟩ := ro_bd hf
        refine ro_callvi hK [.int v5, .int v3, .int (μ 241 ((16 * v1) + v5).toNatClampNeg)] ml_X12_412 mv_X12_lands_ (mt_X12_lands_ (kl K) (kG K)  e8) sh_207 ⟨_, rfl, rfl⟩ (by decide) rfl rfl (Nat.le_of_ble_eq_true rfl) dX12_byNote_57 ?_
        refine ro_iadd hK dX12_byNote_60 ?_
        obtain ⟨z9, e10, hf⟩ := ro_ld hf
        refine ro_iv e10 ?_
        refine ro_istore (L' := [(4, .int z9), (0, .ref (ro_ad (kG K) 207)), (1, .int v1), (2, .int v2), (3, .int v3), (5, .int v5)]) hK dX12_byNote_61 (by decide) rfl ?_
        refine ro_iinc (v := v5 + 1) (L' := [(5, .int (v5 + 1)), (4, .int z9), (0, .ref (ro_ad (kG K) 207)), (1, .int v1), (2, .int v2), (3, .int v3)]) hK 5 rfl dX12_byNote_63 rfl (by decide) rfl ?_
        refine ro_goto hK 6 dX12_byNote_66 (by decide) ?_
        refine ro_sub (L' := [(0, .ref (ro_ad (kG K) 207)), (1, .int v1), (2, .int v2), (3, .int v3), (4, .int z9), (5, .int (v5 + 1))]) [2, 3, 4, 5, 1, 0] rfl ?_
        exact hrec (z9, v5 + 1) _ hf hq
def fl_X12_byNote_6 (v1 : Int32) (v2 : Int32) (v3 : Int32) (μ : ro_Mem) : (Int32 × Int32) → Option Int32 :=
  ro_loop (fun rec s => fb_X12_byNote_6 v1 v2 v3 μ rec s.1 s.2) ro_FU
theorem lp_X12_byNote_6 {K : ro_K} (hK : ro_C K RX12 cX12_byNote 6 2) (hR : ro_R K (some .int)) {v1 : Int32} {v2 : Int32} {v3 : Int32}  {μ : ro_Mem} {s : Int32 × Int32} {q : Int32} (hf : fl_X12_byNote_6 v1 v2 v3 μ s = some q) (hq : ok_X12_byNote_6 K v1 v2 v3 μ q) : ro_X K 6 [(0, .ref (ro_ad (kG K) 207)), (1, .int v1), (2, .int v2), (3, .int v3), (4, .int s.1), (5, .int s.2)] [] μ :=
  ro_loopX (b := fun rec s => fb_X12_byNote_6 v1 v2 v3 μ rec s.1 s.2) (X := fun s => ro_X K 6 [(0, .ref (ro_ad (kG K) 207)), (1, .int v1), (2, .int v2), (3, .int v3), (4, .int s.1), (5, .int s.2)] [] μ) (OK := ok_X12_byNote_6 K v1 v2 v3 μ) (fun rec s q hrec hb ho => bb_X12_byNote_6 hK hR  hrec hb ho) ro_FU s q hf hq
def fn_X12_byNote (v1 : Int32) (v2 : Int32) (v3 : Int32) (μ : ro_Mem) : Option Int32 :=
  (fl_X12_byNote_6 v1 v2 v3 μ (0, 0)).bind fun q11 =>
  some q11
theorem be_X12_byNote {K : ro_K} (hK : ro_C K RX12 cX12_byNote 6 2) (hR : ro_R K (some .int)) {v1 : Int32} {v2 : Int32} {v3 : Int32}  {μ : ro_Mem} {out : Int32} (hf : fn_X12_byNote v1 v2 v3 μ = some out) (hq : kQ K (some (.int out)) μ) : ro_X K 0 [(0, .ref (ro_ad (kG K) 207)), (1, .int v1), (2, .int v2), (3, .int v3)] [] μ := by
  unfold fn_X12_byNote at hf
  refine ro_iconst (v := 0) hK dX12_byNote_0 (by decide) ?_
  refine ro_istore (L' := [(4, .int 0), (0, .ref (ro_ad (kG K) 207)), (1, .int v1), (2, .int v2), (3, .int v3)]) hK dX12_byNote_1 (by decide) rfl ?_
  refine ro_iconst (v := 0) hK dX12_byNote_3 (by decide) ?_
  refine ro_istore (L' := [(5, .int 0), (4, .int 0), (0, .ref (ro_ad (kG K) 207)), (1, .int v1), (2, .int v2), (3, .int v3)]) hK dX12_byNote_4 (by decide) rfl ?_
  obtain ⟨q11, e12, hf⟩ := ro_bd hf
  refine ro_sub (L' := [(0, .ref (ro_ad (kG K) 207)), (1, .int v1), (2, .int v2), (3, .int v3), (4, .int 0), (5, .int 0)]) [2, 3, 4, 5, 1, 0] rfl ?_
  refine lp_X12_byNote_6 hK hR  e12 ?_
  show ro_X K 69 [(4, .int q11)] [] μ
  refine ro_iload hK 0 rfl dX12_byNote_69 ?_
  obtain rfl := Option.some.inj hf
  exact ro_iret hK hR dX12_byNote_71 hq
theorem mt_X12_byNote (l : Launch) (G : ro_G) {v1 : Int32} {v2 : Int32} {v3 : Int32}  {μ : ro_Mem} {out : Int32} (hf : fn_X12_byNote v1 v2 v3 μ = some out) : ro_MX l G yX12_byNote cX12_byNote 6 (some .int) 2 [.ref (ro_ad G 207), .int v1, .int v2, .int v3] μ (some (.int out)) μ := by
  refine ro_MX.of (by decide +kernel) (Nat.le_of_ble_eq_true rfl) (fun K hG hl hq hK hR => ?_)
  subst hG
  exact be_X12_byNote hK hR  hf hq
-- ===== X12_allOn =====
theorem dX12_allOn_0 : decode cX12_allOn 0 = .ok (.iconst 0, 1) := by decide +kernel
theorem dX12_allOn_1 : decode cX12_allOn 1 = .ok (.istore_n 3, 1) := by decide +kernel
theorem dX12_allOn_2 : decode cX12_allOn 2 = .ok (.iconst 0, 1) := by decide +kernel
theorem dX12_allOn_3 : decode cX12_allOn 3 = .ok (.istore 4, 2) := by decide +kernel
theorem dX12_allOn_5 : decode cX12_allOn 5 = .ok (.iload 4, 2) := by decide +kernel
theorem dX12_allOn_7 : decode cX12_allOn 7 = .ok (.aload_n 0, 1) := by decide +kernel
theorem dX12_allOn_8 : decode cX12_allOn 8 = .ok (.getfield 300, 3) := by decide +kernel
theorem dX12_allOn_11 : decode cX12_allOn 11 = .ok (.if_icmp .ge 20, 3) := by decide +kernel
theorem dX12_allOn_14 : decode cX12_allOn 14 = .ok (.iload_n 3, 1) := by decide +kernel
theorem dX12_allOn_15 : decode cX12_allOn 15 = .ok (.aload_n 0, 1) := by decide +kernel
theorem dX12_allOn_16 : decode cX12_allOn 16 = .ok (.iload 4, 2) := by decide +kernel
theorem dX12_allOn_18 : decode cX12_allOn 18 = .ok (.iload_n 1, 1) := by decide +kernel
theorem dX12_allOn_19 : decode cX12_allOn 19 = .ok (.iload_n 2, 1) := by decide +kernel
theorem dX12_allOn_20 : decode cX12_allOn 20 = .ok (.invokevirtual 414, 3) := by decide +kernel
theorem dX12_allOn_23 : decode cX12_allOn 23 = .ok (.iadd, 1) := by decide +kernel
theorem dX12_allOn_24 : decode cX12_allOn 24 = .ok (.istore_n 3, 1) := by decide +kernel
theorem dX12_allOn_25 : decode cX12_allOn 25 = .ok (.iinc 4 1, 3) := by decide +kernel
theorem dX12_allOn_28 : decode cX12_allOn 28 = .ok (.goto (-23), 3) := by decide +kernel
theorem dX12_allOn_31 : decode cX12_allOn 31 = .ok (.iload_n 3, 1) := by decide +kernel
theorem dX12_allOn_32 : decode cX12_allOn 32 = .ok (.ireturn, 1) := by decide +kernel
def ok_X12_allOn_5 (K : ro_K) (v1 : Int32) (v2 : Int32) (μ : ro_Mem) : Int32 → Prop := fun e => ro_X K 31 [(3, .int e)] [] μ
def fb_X12_allOn_5 (v1 : Int32) (v2 : Int32) (μ : ro_Mem) (rec : (Int32 × Int32) → Option Int32) (v3 : Int32) (v4 : Int32) : Option Int32 :=
  if (μ 207 18) ≤ v4 then
  (some v3)
  else
  ((fn_X12_byNote v4 v1 v2 μ).bind fun q2 =>
  ro_lt (v3 + q2) fun z4 =>
  rec (z4, v4 + 1))
theorem bb_X12_allOn_5 {K : ro_K} (hK : ro_C K RX12 cX12_allOn 5 3) (hR : ro_R K (some .int)) {v1 : Int32} {v2 : Int32}  {μ : ro_Mem} {rec : (Int32 × Int32) → Option Int32} {v3 : Int32} {v4 : Int32} {q : Int32} (hrec : ∀ (s : Int32 × Int32) (q : Int32), rec s = some q → ok_X12_allOn_5 K v1 v2 μ q → ro_X K 5 [(0, .ref (ro_ad (kG K) 207)), (1, .int v1), (2, .int v2), (3, .int s.1), (4, .int s.2)] [] μ) (hf : fb_X12_allOn_5 v1 v2 μ rec v3 v4 = some q) (hq : ok_X12_allOn_5 K v1 v2 μ q) : ro_X K 5 [(0, .ref (ro_ad (kG K) 207)), (1, .int v1), (2, .int v2), (3, .int v3), (4, .int v4)] [] μ := by
  unfold fb_X12_allOn_5 at hf
  refine ro_iload hK 4 rfl dX12_allOn_5 ?_
  refine ro_aload_n hK 0 rfl dX12_allOn_7 rfl ?_
  refine ro_geti hK fl_X12_300 sh_207 dX12_allOn_8 ?_
  refine ro_icmp_ge hK 31 dX12_allOn_11 (by decide) (fun c1 => ?_) (fun c1 => ?_)
  · have hf := ro_it hf c1
    refine ro_sub (L' := [(3, .int v3)]) [3] rfl ?_
    obtain rfl := Option.some.inj hf
    exact hq
  · have hf := ro_ie hf c1
    refine ro_iload_n hK 3 rfl dX12_allOn_14 rfl ?_
    refine ro_aload_n hK 0 rfl dX12_allOn_15 rfl ?_
    refine ro_iload hK 4 rfl dX12_allOn_16 ?_
    refine ro_iload_n hK 1 rfl dX12_allOn_18 rfl ?_
    refine ro_iload_n hK 2 rfl dX12_allOn_19 rfl ?_
    obtain ⟨q2, e3, hf⟩ := ro_bd hf
    refine ro_callvi hK [.int v4, .int v1, .int v2] ml_X12_414 mv_X12_byNote (mt_X12_byNote (kl K) (kG K)  e3) sh_207 ⟨_, rfl, rfl⟩ (by decide) rfl rfl (Nat.le_of_ble_eq_true rfl) dX12_allOn_20 ?_
    refine ro_iadd hK dX12_allOn_23 ?_
    obtain ⟨z4, e5, hf⟩ := ro_ld hf
    refine ro_iv e5 ?_
    refine ro_istore_n (L' := [(3, .int z4), (0, .ref (ro_ad (kG K) 207)), (1, .int v1), (2, .int v2), (4, .int v4)]) hK dX12_allOn_24 rfl (by decide) rfl ?_
    refine ro_iinc (v := v4 + 1) (L' := [(4, .int (v4 + 1)), (3, .int z4), (0, .ref (ro_ad (kG K) 207)), (1, .int v1), (2, .int v2)]) hK 4 rfl dX12_allOn_25 rfl (by decide) rfl ?_
    refine ro_goto hK 5 dX12_allOn_28 (by decide) ?_
    refine ro_sub (L' := [(0, .ref (ro_ad (kG K) 207)), (1, .int v1), (2, .int v2), (3, .int z4), (4, .int (v4 + 1))]) [2, 3, 4, 1, 0] rfl ?_
    exact hrec (z4, v4 + 1) _ hf hq
def fl_X12_allOn_5 (v1 : Int32) (v2 : Int32) (μ : ro_Mem) : (Int32 × Int32) → Option Int32 :=
  ro_loop (fun rec s => fb_X12_allOn_5 v1 v2 μ rec s.1 s.2) ro_FU
theorem lp_X12_allOn_5 {K : ro_K} (hK : ro_C K RX12 cX12_allOn 5 3) (hR : ro_R K (some .int)) {v1 : Int32} {v2 : Int32}  {μ : ro_Mem} {s : Int32 × Int32} {q : Int32} (hf : fl_X12_allOn_5 v1 v2 μ s = some q) (hq : ok_X12_allOn_5 K v1 v2 μ q) : ro_X K 5 [(0, .ref (ro_ad (kG K) 207)), (1, .int v1), (2, .int v2), (3, .int s.1), (4, .int s.2)] [] μ :=
  ro_loopX (b := fun rec s => fb_X12_allOn_5 v1 v2 μ rec s.1 s.2) (X := fun s => ro_X K 5 [(0, .ref (ro_ad (kG K) 207)), (1, .int v1), (2, .int v2), (3, .int s.1), (4, .int s.2)] [] μ) (OK := ok_X12_allOn_5 K v1 v2 μ) (fun rec s q hrec hb ho => bb_X12_allOn_5 hK hR  hrec hb ho) ro_FU s q hf hq
def fn_X12_allOn (v1 : Int32) (v2 : Int32) (μ : ro_Mem) : Option Int32 :=
  (fl_X12_allOn_5 v1 v2 μ (0, 0)).bind fun q6 =>
  some q6
theorem be_X12_allOn {K : ro_K} (hK : ro_C K RX12 cX12_allOn 5 3) (hR : ro_R K (some .int)) {v1 : Int32} {v2 : Int32}  {μ : ro_Mem} {out : Int32} (hf : fn_X12_allOn v1 v2 μ = some out) (hq : kQ K (some (.int out)) μ) : ro_X K 0 [(0, .ref (ro_ad (kG K) 207)), (1, .int v1), (2, .int v2)] [] μ := by
  unfold fn_X12_allOn at hf
  refine ro_iconst (v := 0) hK dX12_allOn_0 (by decide) ?_
  refine ro_istore_n (L' := [(3, .int 0), (0, .ref (ro_ad (kG K) 207)), (1, .int v1), (2, .int v2)]) hK dX12_allOn_1 rfl (by decide) rfl ?_
  refine ro_iconst (v := 0) hK dX12_allOn_2 (by decide) ?_
  refine ro_istore (L' := [(4, .int 0), (3, .int 0), (0, .ref (ro_ad (kG K) 207)), (1, .int v1), (2, .int v2)]) hK dX12_allOn_3 (by decide) rfl ?_
  obtain ⟨q6, e7, hf⟩ := ro_bd hf
  refine ro_sub (L' := [(0, .ref (ro_ad (kG K) 207)), (1, .int v1), (2, .int v2), (3, .int 0), (4, .int 0)]) [2, 3, 4, 1, 0] rfl ?_
  refine lp_X12_allOn_5 hK hR  e7 ?_
  show ro_X K 31 [(3, .int q6)] [] μ
  refine ro_iload_n hK 0 rfl dX12_allOn_31 rfl ?_
  obtain rfl := Option.some.inj hf
  exact ro_iret hK hR dX12_allOn_32 hq
theorem mt_X12_allOn (l : Launch) (G : ro_G) {v1 : Int32} {v2 : Int32}  {μ : ro_Mem} {out : Int32} (hf : fn_X12_allOn v1 v2 μ = some out) : ro_MX l G yX12_allOn cX12_allOn 5 (some .int) 3 [.ref (ro_ad G 207), .int v1, .int v2] μ (some (.int out)) μ := by
  refine ro_MX.of (by decide +kernel) (Nat.le_of_ble_eq_true rfl) (fun K hG hl hq hK hR => ?_)
  subst hG
  exact be_X12_allOn hK hR  hf hq
-- ===== X12_wetOn =====
theorem dX12_wetOn_0 : decode cX12_wetOn 0 = .ok (.iload_n 2, 1) := by decide +kernel
theorem dX12_wetOn_1 : decode cX12_wetOn 1 = .ok (.sipush 255, 3) := by decide +kernel
theorem dX12_wetOn_4 : decode cX12_wetOn 4 = .ok (.if_icmp .ne 7, 3) := by decide +kernel
theorem dX12_wetOn_7 : decode cX12_wetOn 7 = .ok (.iconst 0, 1) := by decide +kernel
theorem dX12_wetOn_8 : decode cX12_wetOn 8 = .ok (.goto 20, 3) := by decide +kernel
theorem dX12_wetOn_11 : decode cX12_wetOn 11 = .ok (.iconst 0, 1) := by decide +kernel
theorem dX12_wetOn_12 : decode cX12_wetOn 12 = .ok (.aload_n 0, 1) := by decide +kernel
theorem dX12_wetOn_13 : decode cX12_wetOn 13 = .ok (.iload_n 1, 1) := by decide +kernel
theorem dX12_wetOn_14 : decode cX12_wetOn 14 = .ok (.iload_n 2, 1) := by decide +kernel
theorem dX12_wetOn_15 : decode cX12_wetOn 15 = .ok (.invokevirtual 417, 3) := by decide +kernel
theorem dX12_wetOn_18 : decode cX12_wetOn 18 = .ok (.aload_n 0, 1) := by decide +kernel
theorem dX12_wetOn_19 : decode cX12_wetOn 19 = .ok (.getfield 13, 3) := by decide +kernel
theorem dX12_wetOn_22 : decode cX12_wetOn 22 = .ok (.iload_n 2, 1) := by decide +kernel
theorem dX12_wetOn_23 : decode cX12_wetOn 23 = .ok (.iaload, 1) := by decide +kernel
theorem dX12_wetOn_24 : decode cX12_wetOn 24 = .ok (.isub, 1) := by decide +kernel
theorem dX12_wetOn_25 : decode cX12_wetOn 25 = .ok (.invokestatic 420, 3) := by decide +kernel
theorem dX12_wetOn_28 : decode cX12_wetOn 28 = .ok (.ireturn, 1) := by decide +kernel
def fn_X12_wetOn (v1 : Int32) (v2 : Int32) (μ : ro_Mem) : Option Int32 :=
  if v2 = 255 then
  (some 0)
  else
  ((fn_X12_allOn v1 v2 μ).bind fun q2 =>
  if ro_in v2 96 then
  ((fn_X12_max 0 (q2 - (μ 209 v2.toNatClampNeg))).bind fun q5 =>
  some q5) else none)
theorem be_X12_wetOn {K : ro_K} (hK : ro_C K RX12 cX12_wetOn 3 4) (hR : ro_R K (some .int)) {v1 : Int32} {v2 : Int32}  {μ : ro_Mem} {out : Int32} (hf : fn_X12_wetOn v1 v2 μ = some out) (hq : kQ K (some (.int out)) μ) : ro_X K 0 [(0, .ref (ro_ad (kG K) 207)), (1, .int v1), (2, .int v2)] [] μ := by
  unfold fn_X12_wetOn at hf
  refine ro_iload_n hK 2 rfl dX12_wetOn_0 rfl ?_
  refine ro_sipush (v := 255) hK dX12_wetOn_1 (by decide) ?_
  refine ro_icmp_ne hK 11 dX12_wetOn_4 (by decide) (fun c1 => ?_) (fun c1 => ?_)
  · have hf := ro_ie hf c1
    refine ro_iconst (v := 0) hK dX12_wetOn_11 (by decide) ?_
    refine ro_aload_n hK 0 rfl dX12_wetOn_12 rfl ?_
    refine ro_iload_n hK 1 rfl dX12_wetOn_13 rfl ?_
    refine ro_iload_n hK 2 rfl dX12_wetOn_14 rfl ?_
    obtain ⟨q2, e3, hf⟩ := ro_bd hf
    refine ro_callvi hK [.int v1, .int v2] ml_X12_417 mv_X12_allOn (mt_X12_allOn (kl K) (kG K)  e3) sh_207 ⟨_, rfl, rfl⟩ (by decide) rfl rfl (Nat.le_of_ble_eq_true rfl) dX12_wetOn_15 ?_
    refine ro_aload_n hK 0 rfl dX12_wetOn_18 rfl ?_
    refine ro_getr hK fl_X12_13 sh_207 dX12_wetOn_19 ?_
    refine ro_iload_n hK 2 rfl dX12_wetOn_22 rfl ?_
    obtain ⟨g4, hf⟩ := ro_gd hf
    refine ro_iald hK sh_209 g4 dX12_wetOn_23 ?_
    refine ro_isub hK dX12_wetOn_24 ?_
    obtain ⟨q5, e6, hf⟩ := ro_bd hf
    refine ro_callsi hK [.int 0, .int (q2 - (μ 209 v2.toNatClampNeg))] ml_X12_420 ms_X12_max (mt_X12_max (kl K) (kG K)  e6) (by decide) rfl rfl (Nat.le_of_ble_eq_true rfl) dX12_wetOn_25 ?_
    obtain rfl := Option.some.inj hf
    exact ro_iret hK hR dX12_wetOn_28 hq
  · have hf := ro_it hf c1
    refine ro_iconst (v := 0) hK dX12_wetOn_7 (by decide) ?_
    refine ro_goto hK 28 dX12_wetOn_8 (by decide) ?_
    obtain rfl := Option.some.inj hf
    exact ro_iret hK hR dX12_wetOn_28 hq
theorem mt_X12_wetOn (l : Launch) (G : ro_G) {v1 : Int32} {v2 : Int32}  {μ : ro_Mem} {out : Int32} (hf : fn_X12_wetOn v1 v2 μ = some out) : ro_MX l G yX12_wetOn cX12_wetOn 3 (some .int) 4 [.ref (ro_ad G 207), .int v1, .int v2] μ (some (.int out)) μ := by
  refine ro_MX.of (by decide +kernel) (Nat.le_of_ble_eq_true rfl) (fun K hG hl hq hK hR => ?_)
  subst hG
  exact be_X12_wetOn hK hR  hf hq
-- ===== X12_wetAll =====
theorem dX12_wetAll_0 : decode cX12_wetAll 0 = .ok (.iconst 0, 1) := by decide +kernel
theorem dX12_wetAll_1 : decode cX12_wetAll 1 = .ok (.istore_n 2, 1) := by decide +kernel
theorem dX12_wetAll_2 : decode cX12_wetAll 2 = .ok (.iconst 0, 1) := by decide +kernel
theorem dX12_wetAll_3 : decode cX12_wetAll 3 = .ok (.istore_n 3, 1) := by decide +kernel
theorem dX12_wetAll_4 : decode cX12_wetAll 4 = .ok (.iload_n 3, 1) := by decide +kernel
theorem dX12_wetAll_5 : decode cX12_wetAll 5 = .ok (.iconst 4, 1) := by decide +kernel
theorem dX12_wetAll_6 : decode cX12_wetAll 6 = .ok (.if_icmp .ge 18, 3) := by decide +kernel
theorem dX12_wetAll_9 : decode cX12_wetAll 9 = .ok (.iload_n 2, 1) := by decide +kernel
theorem dX12_wetAll_10 : decode cX12_wetAll 10 = .ok (.aload_n 0, 1) := by decide +kernel
theorem dX12_wetAll_11 : decode cX12_wetAll 11 = .ok (.iload_n 3, 1) := by decide +kernel
theorem dX12_wetAll_12 : decode cX12_wetAll 12 = .ok (.iload_n 1, 1) := by decide +kernel
theorem dX12_wetAll_13 : decode cX12_wetAll 13 = .ok (.invokevirtual 423, 3) := by decide +kernel
theorem dX12_wetAll_16 : decode cX12_wetAll 16 = .ok (.iadd, 1) := by decide +kernel
theorem dX12_wetAll_17 : decode cX12_wetAll 17 = .ok (.istore_n 2, 1) := by decide +kernel
theorem dX12_wetAll_18 : decode cX12_wetAll 18 = .ok (.iinc 3 1, 3) := by decide +kernel
theorem dX12_wetAll_21 : decode cX12_wetAll 21 = .ok (.goto (-17), 3) := by decide +kernel
theorem dX12_wetAll_24 : decode cX12_wetAll 24 = .ok (.iload_n 2, 1) := by decide +kernel
theorem dX12_wetAll_25 : decode cX12_wetAll 25 = .ok (.ireturn, 1) := by decide +kernel
def ok_X12_wetAll_4 (K : ro_K) (v1 : Int32) (μ : ro_Mem) : Int32 → Prop := fun e => ro_X K 24 [(2, .int e)] [] μ
def fb_X12_wetAll_4 (v1 : Int32) (μ : ro_Mem) (rec : (Int32 × Int32) → Option Int32) (v2 : Int32) (v3 : Int32) : Option Int32 :=
  if 4 ≤ v3 then
  (some v2)
  else
  ((fn_X12_wetOn v3 v1 μ).bind fun q2 =>
  ro_lt (v2 + q2) fun z4 =>
  rec (z4, v3 + 1))
theorem bb_X12_wetAll_4 {K : ro_K} (hK : ro_C K RX12 cX12_wetAll 4 5) (hR : ro_R K (some .int)) {v1 : Int32}  {μ : ro_Mem} {rec : (Int32 × Int32) → Option Int32} {v2 : Int32} {v3 : Int32} {q : Int32} (hrec : ∀ (s : Int32 × Int32) (q : Int32), rec s = some q → ok_X12_wetAll_4 K v1 μ q → ro_X K 4 [(0, .ref (ro_ad (kG K) 207)), (1, .int v1), (2, .int s.1), (3, .int s.2)] [] μ) (hf : fb_X12_wetAll_4 v1 μ rec v2 v3 = some q) (hq : ok_X12_wetAll_4 K v1 μ q) : ro_X K 4 [(0, .ref (ro_ad (kG K) 207)), (1, .int v1), (2, .int v2), (3, .int v3)] [] μ := by
  unfold fb_X12_wetAll_4 at hf
  refine ro_iload_n hK 3 rfl dX12_wetAll_4 rfl ?_
  refine ro_iconst (v := 4) hK dX12_wetAll_5 (by decide) ?_
  refine ro_icmp_ge hK 24 dX12_wetAll_6 (by decide) (fun c1 => ?_) (fun c1 => ?_)
  · have hf := ro_it hf c1
    refine ro_sub (L' := [(2, .int v2)]) [2] rfl ?_
    obtain rfl := Option.some.inj hf
    exact hq
  · have hf := ro_ie hf c1
    refine ro_iload_n hK 2 rfl dX12_wetAll_9 rfl ?_
    refine ro_aload_n hK 0 rfl dX12_wetAll_10 rfl ?_
    refine ro_iload_n hK 3 rfl dX12_wetAll_11 rfl ?_
    refine ro_iload_n hK 1 rfl dX12_wetAll_12 rfl ?_
    obtain ⟨q2, e3, hf⟩ := ro_bd hf
    refine ro_callvi hK [.int v3, .int v1] ml_X12_423 mv_X12_wetOn (mt_X12_wetOn (kl K) (kG K)  e3) sh_207 ⟨_, rfl, rfl⟩ (by decide) rfl rfl (Nat.le_of_ble_eq_true rfl) dX12_wetAll_13 ?_
    refine ro_iadd hK dX12_wetAll_16 ?_
    obtain ⟨z4, e5, hf⟩ := ro_ld hf
    refine ro_iv e5 ?_
    refine ro_istore_n (L' := [(2, .int z4), (0, .ref (ro_ad (kG K) 207)), (1, .int v1), (3, .int v3)]) hK dX12_wetAll_17 rfl (by decide) rfl ?_
    refine ro_iinc (v := v3 + 1) (L' := [(3, .int (v3 + 1)), (2, .int z4), (0, .ref (ro_ad (kG K) 207)), (1, .int v1)]) hK 3 rfl dX12_wetAll_18 rfl (by decide) rfl ?_
    refine ro_goto hK 4 dX12_wetAll_21 (by decide) ?_
    refine ro_sub (L' := [(0, .ref (ro_ad (kG K) 207)), (1, .int v1), (2, .int z4), (3, .int (v3 + 1))]) [2, 3, 1, 0] rfl ?_
    exact hrec (z4, v3 + 1) _ hf hq
def fl_X12_wetAll_4 (v1 : Int32) (μ : ro_Mem) : (Int32 × Int32) → Option Int32 :=
  ro_loop (fun rec s => fb_X12_wetAll_4 v1 μ rec s.1 s.2) ro_FU
theorem lp_X12_wetAll_4 {K : ro_K} (hK : ro_C K RX12 cX12_wetAll 4 5) (hR : ro_R K (some .int)) {v1 : Int32}  {μ : ro_Mem} {s : Int32 × Int32} {q : Int32} (hf : fl_X12_wetAll_4 v1 μ s = some q) (hq : ok_X12_wetAll_4 K v1 μ q) : ro_X K 4 [(0, .ref (ro_ad (kG K) 207)), (1, .int v1), (2, .int s.1), (3, .int s.2)] [] μ :=
  ro_loopX (b := fun rec s => fb_X12_wetAll_4 v1 μ rec s.1 s.2) (X := fun s => ro_X K 4 [(0, .ref (ro_ad (kG K) 207)), (1, .int v1), (2, .int s.1), (3, .int s.2)] [] μ) (OK := ok_X12_wetAll_4 K v1 μ) (fun rec s q hrec hb ho => bb_X12_wetAll_4 hK hR  hrec hb ho) ro_FU s q hf hq
def fn_X12_wetAll (v1 : Int32) (μ : ro_Mem) : Option Int32 :=
  (fl_X12_wetAll_4 v1 μ (0, 0)).bind fun q6 =>
  some q6
theorem be_X12_wetAll {K : ro_K} (hK : ro_C K RX12 cX12_wetAll 4 5) (hR : ro_R K (some .int)) {v1 : Int32}  {μ : ro_Mem} {out : Int32} (hf : fn_X12_wetAll v1 μ = some out) (hq : kQ K (some (.int out)) μ) : ro_X K 0 [(0, .ref (ro_ad (kG K) 207)), (1, .int v1)] [] μ := by
  unfold fn_X12_wetAll at hf
  refine ro_iconst (v := 0) hK dX12_wetAll_0 (by decide) ?_
  refine ro_istore_n (L' := [(2, .int 0), (0, .ref (ro_ad (kG K) 207)), (1, .int v1)]) hK dX12_wetAll_1 rfl (by decide) rfl ?_
  refine ro_iconst (v := 0) hK dX12_wetAll_2 (by decide) ?_
  refine ro_istore_n (L' := [(3, .int 0), (2, .int 0), (0, .ref (ro_ad (kG K) 207)), (1, .int v1)]) hK dX12_wetAll_3 rfl (by decide) rfl ?_
  obtain ⟨q6, e7, hf⟩ := ro_bd hf
  refine ro_sub (L' := [(0, .ref (ro_ad (kG K) 207)), (1, .int v1), (2, .int 0), (3, .int 0)]) [2, 3, 1, 0] rfl ?_
  refine lp_X12_wetAll_4 hK hR  e7 ?_
  show ro_X K 24 [(2, .int q6)] [] μ
  refine ro_iload_n hK 0 rfl dX12_wetAll_24 rfl ?_
  obtain rfl := Option.some.inj hf
  exact ro_iret hK hR dX12_wetAll_25 hq
theorem mt_X12_wetAll (l : Launch) (G : ro_G) {v1 : Int32}  {μ : ro_Mem} {out : Int32} (hf : fn_X12_wetAll v1 μ = some out) : ro_MX l G yX12_wetAll cX12_wetAll 4 (some .int) 5 [.ref (ro_ad G 207), .int v1] μ (some (.int out)) μ := by
  refine ro_MX.of (by decide +kernel) (Nat.le_of_ble_eq_true rfl) (fun K hG hl hq hK hR => ?_)
  subst hG
  exact be_X12_wetAll hK hR  hf hq
-- ===== X12_wet =====
theorem dX12_wet_0 : decode cX12_wet 0 = .ok (.iload_n 1, 1) := by decide +kernel
theorem dX12_wet_1 : decode cX12_wet 1 = .ok (.iload_n 2, 1) := by decide +kernel
theorem dX12_wet_2 : decode cX12_wet 2 = .ok (.invokestatic 211, 3) := by decide +kernel
theorem dX12_wet_5 : decode cX12_wet 5 = .ok (.ifCond .eq 12, 3) := by decide +kernel
theorem dX12_wet_8 : decode cX12_wet 8 = .ok (.iload_n 3, 1) := by decide +kernel
theorem dX12_wet_9 : decode cX12_wet 9 = .ok (.iconst 0, 1) := by decide +kernel
theorem dX12_wet_10 : decode cX12_wet 10 = .ok (.iconst 4, 1) := by decide +kernel
theorem dX12_wet_11 : decode cX12_wet 11 = .ok (.invokestatic 215, 3) := by decide +kernel
theorem dX12_wet_14 : decode cX12_wet 14 = .ok (.ifCond .ne 5, 3) := by decide +kernel
theorem dX12_wet_17 : decode cX12_wet 17 = .ok (.iconst (-1), 1) := by decide +kernel
theorem dX12_wet_18 : decode cX12_wet 18 = .ok (.ireturn, 1) := by decide +kernel
theorem dX12_wet_19 : decode cX12_wet 19 = .ok (.aload_n 0, 1) := by decide +kernel
theorem dX12_wet_20 : decode cX12_wet 20 = .ok (.invokevirtual 426, 3) := by decide +kernel
theorem dX12_wet_23 : decode cX12_wet 23 = .ok (.iload_n 3, 1) := by decide +kernel
theorem dX12_wet_24 : decode cX12_wet 24 = .ok (.iconst 4, 1) := by decide +kernel
theorem dX12_wet_25 : decode cX12_wet 25 = .ok (.if_icmp .ne 16, 3) := by decide +kernel
theorem dX12_wet_28 : decode cX12_wet 28 = .ok (.aload_n 0, 1) := by decide +kernel
theorem dX12_wet_29 : decode cX12_wet 29 = .ok (.bipush 12, 2) := by decide +kernel
theorem dX12_wet_31 : decode cX12_wet 31 = .ok (.iload_n 1, 1) := by decide +kernel
theorem dX12_wet_32 : decode cX12_wet 32 = .ok (.imul, 1) := by decide +kernel
theorem dX12_wet_33 : decode cX12_wet 33 = .ok (.iload_n 2, 1) := by decide +kernel
theorem dX12_wet_34 : decode cX12_wet 34 = .ok (.iadd, 1) := by decide +kernel
theorem dX12_wet_35 : decode cX12_wet 35 = .ok (.invokevirtual 429, 3) := by decide +kernel
theorem dX12_wet_38 : decode cX12_wet 38 = .ok (.goto 14, 3) := by decide +kernel
theorem dX12_wet_41 : decode cX12_wet 41 = .ok (.aload_n 0, 1) := by decide +kernel
theorem dX12_wet_42 : decode cX12_wet 42 = .ok (.iload_n 3, 1) := by decide +kernel
theorem dX12_wet_43 : decode cX12_wet 43 = .ok (.bipush 12, 2) := by decide +kernel
theorem dX12_wet_45 : decode cX12_wet 45 = .ok (.iload_n 1, 1) := by decide +kernel
theorem dX12_wet_46 : decode cX12_wet 46 = .ok (.imul, 1) := by decide +kernel
theorem dX12_wet_47 : decode cX12_wet 47 = .ok (.iload_n 2, 1) := by decide +kernel
theorem dX12_wet_48 : decode cX12_wet 48 = .ok (.iadd, 1) := by decide +kernel
theorem dX12_wet_49 : decode cX12_wet 49 = .ok (.invokevirtual 423, 3) := by decide +kernel
theorem dX12_wet_52 : decode cX12_wet 52 = .ok (.ireturn, 1) := by decide +kernel
def fn_X12_wet (v1 : Int32) (v2 : Int32) (v3 : Int32) (μ : ro_Mem) : Option (Int32 × ro_Mem) :=
  (fn_X12_isPlace v1 v2).bind fun q1 =>
  if q1 = 0 then
  (some ((-1), μ))
  else
  ((fn_X12_in v3 0 4).bind fun q4 =>
  if q4 = 0 then
  (some ((-1), μ))
  else
  ((fn_X12_laysDrops μ).bind fun q7 =>
  if v3 = 4 then
  ((fn_X12_wetAll ((12 * v1) + v2) q7).bind fun q12 =>
  some (q12, q7))
  else
  ((fn_X12_wetOn v3 ((12 * v1) + v2) q7).bind fun q10 =>
  some (q10, q7))))
theorem be_X12_wet {K : ro_K} (hK : ro_C K RX12 cX12_wet 4 6) (hR : ro_R K (some .int)) {v1 : Int32} {v2 : Int32} {v3 : Int32}  {μ : ro_Mem} {out : Int32 × ro_Mem} (hf : fn_X12_wet v1 v2 v3 μ = some out) (hq : kQ K (some (.int out.1)) out.2) : ro_X K 0 [(0, .ref (ro_ad (kG K) 207)), (1, .int v1), (2, .int v2), (3, .int v3)] [] μ := by
  unfold fn_X12_wet at hf
  refine ro_iload_n hK 1 rfl dX12_wet_0 rfl ?_
  refine ro_iload_n hK 2 rfl dX12_wet_1 rfl ?_
  obtain ⟨q1, e2, hf⟩ := ro_bd hf
  refine ro_callsi hK [.int v1, .int v2] ml_X12_211 ms_X12_isPlace (mt_X12_isPlace (kl K) (kG K)  e2) (by decide) rfl rfl (Nat.le_of_ble_eq_true rfl) dX12_wet_2 ?_
  refine ro_if_eq hK 17 dX12_wet_5 (by decide) (fun c3 => ?_) (fun c3 => ?_)
  · have hf := ro_it hf c3
    refine ro_iconst (v := (-1)) hK dX12_wet_17 (by decide) ?_
    obtain rfl := Option.some.inj hf
    exact ro_iret hK hR dX12_wet_18 hq
  · have hf := ro_ie hf c3
    refine ro_iload_n hK 3 rfl dX12_wet_8 rfl ?_
    refine ro_iconst (v := 0) hK dX12_wet_9 (by decide) ?_
    refine ro_iconst (v := 4) hK dX12_wet_10 (by decide) ?_
    obtain ⟨q4, e5, hf⟩ := ro_bd hf
    refine ro_callsi hK [.int v3, .int 0, .int 4] ml_X12_215 ms_X12_in (mt_X12_in (kl K) (kG K)  e5) (by decide) rfl rfl (Nat.le_of_ble_eq_true rfl) dX12_wet_11 ?_
    refine ro_if_ne hK 19 dX12_wet_14 (by decide) (fun c6 => ?_) (fun c6 => ?_)
    · have hf := ro_ie hf c6
      refine ro_aload_n hK 0 rfl dX12_wet_19 rfl ?_
      obtain ⟨q7, e8, hf⟩ := ro_bd hf
      refine ro_callvv hK [] ml_X12_426 mv_X12_laysDrops (mt_X12_laysDrops (kl K) (kG K)  e8) sh_207 ⟨_, rfl, rfl⟩ (by decide) rfl rfl (Nat.le_of_ble_eq_true rfl) dX12_wet_20 ?_
      refine ro_iload_n hK 3 rfl dX12_wet_23 rfl ?_
      refine ro_iconst (v := 4) hK dX12_wet_24 (by decide) ?_
      refine ro_icmp_ne hK 41 dX12_wet_25 (by decide) (fun c9 => ?_) (fun c9 => ?_)
      · have hf := ro_ie hf c9
        refine ro_aload_n hK 0 rfl dX12_wet_41 rfl ?_
        refine ro_iload_n hK 3 rfl dX12_wet_42 rfl ?_
        refine ro_bipush (v := 12) hK dX12_wet_43 (by decide) ?_
        refine ro_iload_n hK 1 rfl dX12_wet_45 rfl ?_
        refine ro_imul hK dX12_wet_46 ?_
        refine ro_iload_n hK 2 rfl dX12_wet_47 rfl ?_
        refine ro_iadd hK dX12_wet_48 ?_
        obtain ⟨q10, e11, hf⟩ := ro_bd hf
        refine ro_callvi hK [.int v3, .int ((12 * v1) + v2)] ml_X12_423 mv_X12_wetOn (mt_X12_wetOn (kl K) (kG K)  e11) sh_207 ⟨_, rfl, rfl⟩ (by decide) rfl rfl (Nat.le_of_ble_eq_true rfl) dX12_wet_49 ?_
        obtain rfl := Option.some.inj hf
        exact ro_iret hK hR dX12_wet_52 hq
      · have hf := ro_it hf c9
        refine ro_aload_n hK 0 rfl dX12_wet_28 rfl ?_
        refine ro_bipush (v := 12) hK dX12_wet_29 (by decide) ?_
        refine ro_iload_n hK 1 rfl dX12_wet_31 rfl ?_
        refine ro_imul hK dX12_wet_32 ?_
        refine ro_iload_n hK 2 rfl dX12_wet_33 rfl ?_
        refine ro_iadd hK dX12_wet_34 ?_
        obtain ⟨q12, e13, hf⟩ := ro_bd hf
        refine ro_callvi hK [.int ((12 * v1) + v2)] ml_X12_429 mv_X12_wetAll (mt_X12_wetAll (kl K) (kG K)  e13) sh_207 ⟨_, rfl, rfl⟩ (by decide) rfl rfl (Nat.le_of_ble_eq_true rfl) dX12_wet_35 ?_
        refine ro_goto hK 52 dX12_wet_38 (by decide) ?_
        obtain rfl := Option.some.inj hf
        exact ro_iret hK hR dX12_wet_52 hq
    · have hf := ro_it hf c6
      refine ro_iconst (v := (-1)) hK dX12_wet_17 (by decide) ?_
      obtain rfl := Option.some.inj hf
      exact ro_iret hK hR dX12_wet_18 hq
theorem mt_X12_wet (l : Launch) (G : ro_G) {v1 : Int32} {v2 : Int32} {v3 : Int32}  {μ : ro_Mem} {out : Int32 × ro_Mem} (hf : fn_X12_wet v1 v2 v3 μ = some out) : ro_MX l G yX12_wet cX12_wet 4 (some .int) 6 [.ref (ro_ad G 207), .int v1, .int v2, .int v3] μ (some (.int out.1)) out.2 := by
  refine ro_MX.of (by decide +kernel) (Nat.le_of_ble_eq_true rfl) (fun K hG hl hq hK hR => ?_)
  subst hG
  exact be_X12_wet hK hR  hf hq
-- ===== X12_guestWetAll =====
theorem dX12_guestWetAll_0 : decode cX12_guestWetAll 0 = .ok (.iconst 0, 1) := by decide +kernel
theorem dX12_guestWetAll_1 : decode cX12_guestWetAll 1 = .ok (.istore_n 2, 1) := by decide +kernel
theorem dX12_guestWetAll_2 : decode cX12_guestWetAll 2 = .ok (.iconst 0, 1) := by decide +kernel
theorem dX12_guestWetAll_3 : decode cX12_guestWetAll 3 = .ok (.istore_n 3, 1) := by decide +kernel
theorem dX12_guestWetAll_4 : decode cX12_guestWetAll 4 = .ok (.iload_n 3, 1) := by decide +kernel
theorem dX12_guestWetAll_5 : decode cX12_guestWetAll 5 = .ok (.iconst 4, 1) := by decide +kernel
theorem dX12_guestWetAll_6 : decode cX12_guestWetAll 6 = .ok (.if_icmp .ge 28, 3) := by decide +kernel
theorem dX12_guestWetAll_9 : decode cX12_guestWetAll 9 = .ok (.iload_n 2, 1) := by decide +kernel
theorem dX12_guestWetAll_10 : decode cX12_guestWetAll 10 = .ok (.aload_n 0, 1) := by decide +kernel
theorem dX12_guestWetAll_11 : decode cX12_guestWetAll 11 = .ok (.iload_n 3, 1) := by decide +kernel
theorem dX12_guestWetAll_12 : decode cX12_guestWetAll 12 = .ok (.aload_n 0, 1) := by decide +kernel
theorem dX12_guestWetAll_13 : decode cX12_guestWetAll 13 = .ok (.getfield 35, 3) := by decide +kernel
theorem dX12_guestWetAll_16 : decode cX12_guestWetAll 16 = .ok (.bipush 10, 2) := by decide +kernel
theorem dX12_guestWetAll_18 : decode cX12_guestWetAll 18 = .ok (.iload_n 3, 1) := by decide +kernel
theorem dX12_guestWetAll_19 : decode cX12_guestWetAll 19 = .ok (.imul, 1) := by decide +kernel
theorem dX12_guestWetAll_20 : decode cX12_guestWetAll 20 = .ok (.iload_n 1, 1) := by decide +kernel
theorem dX12_guestWetAll_21 : decode cX12_guestWetAll 21 = .ok (.iadd, 1) := by decide +kernel
theorem dX12_guestWetAll_22 : decode cX12_guestWetAll 22 = .ok (.iaload, 1) := by decide +kernel
theorem dX12_guestWetAll_23 : decode cX12_guestWetAll 23 = .ok (.invokevirtual 423, 3) := by decide +kernel
theorem dX12_guestWetAll_26 : decode cX12_guestWetAll 26 = .ok (.iadd, 1) := by decide +kernel
theorem dX12_guestWetAll_27 : decode cX12_guestWetAll 27 = .ok (.istore_n 2, 1) := by decide +kernel
theorem dX12_guestWetAll_28 : decode cX12_guestWetAll 28 = .ok (.iinc 3 1, 3) := by decide +kernel
theorem dX12_guestWetAll_31 : decode cX12_guestWetAll 31 = .ok (.goto (-27), 3) := by decide +kernel
theorem dX12_guestWetAll_34 : decode cX12_guestWetAll 34 = .ok (.iload_n 2, 1) := by decide +kernel
theorem dX12_guestWetAll_35 : decode cX12_guestWetAll 35 = .ok (.ireturn, 1) := by decide +kernel
def ok_X12_guestWetAll_4 (K : ro_K) (v1 : Int32) (μ : ro_Mem) : Int32 → Prop := fun e => ro_X K 34 [(2, .int e)] [] μ
def fb_X12_guestWetAll_4 (v1 : Int32) (μ : ro_Mem) (rec : (Int32 × Int32) → Option Int32) (v2 : Int32) (v3 : Int32) : Option Int32 :=
  if 4 ≤ v3 then
  (some v2)
  else
  (if ro_in ((10 * v3) + v1) 40 then
  ((fn_X12_wetOn v3 (μ 216 ((10 * v3) + v1).toNatClampNeg) μ).bind fun q3 =>
  ro_lt (v2 + q3) fun z5 =>
  rec (z5, v3 + 1)) else none)
theorem bb_X12_guestWetAll_4 {K : ro_K} (hK : ro_C K RX12 cX12_guestWetAll 4 5) (hR : ro_R K (some .int)) {v1 : Int32}  {μ : ro_Mem} {rec : (Int32 × Int32) → Option Int32} {v2 : Int32} {v3 : Int32} {q : Int32} (hrec : ∀ (s : Int32 × Int32) (q : Int32), rec s = some q → ok_X12_guestWetAll_4 K v1 μ q → ro_X K 4 [(0, .ref (ro_ad (kG K) 207)), (1, .int v1), (2, .int s.1), (3, .int s.2)] [] μ) (hf : fb_X12_guestWetAll_4 v1 μ rec v2 v3 = some q) (hq : ok_X12_guestWetAll_4 K v1 μ q) : ro_X K 4 [(0, .ref (ro_ad (kG K) 207)), (1, .int v1), (2, .int v2), (3, .int v3)] [] μ := by
  unfold fb_X12_guestWetAll_4 at hf
  refine ro_iload_n hK 3 rfl dX12_guestWetAll_4 rfl ?_
  refine ro_iconst (v := 4) hK dX12_guestWetAll_5 (by decide) ?_
  refine ro_icmp_ge hK 34 dX12_guestWetAll_6 (by decide) (fun c1 => ?_) (fun c1 => ?_)
  · have hf := ro_it hf c1
    refine ro_sub (L' := [(2, .int v2)]) [2] rfl ?_
    obtain rfl := Option.some.inj hf
    exact hq
  · have hf := ro_ie hf c1
    refine ro_iload_n hK 2 rfl dX12_guestWetAll_9 rfl ?_
    refine ro_aload_n hK 0 rfl dX12_guestWetAll_10 rfl ?_
    refine ro_iload_n hK 3 rfl dX12_guestWetAll_11 rfl ?_
    refine ro_aload_n hK 0 rfl dX12_guestWetAll_12 rfl ?_
    refine ro_getr hK fl_X12_35 sh_207 dX12_guestWetAll_13 ?_
    refine ro_bipush (v := 10) hK dX12_guestWetAll_16 (by decide) ?_
    refine ro_iload_n hK 3 rfl dX12_guestWetAll_18 rfl ?_
    refine ro_imul hK dX12_guestWetAll_19 ?_
    refine ro_iload_n hK 1 rfl dX12_guestWetAll_20 rfl ?_
    refine ro_iadd hK dX12_guestWetAll_21 ?_
    obtain ⟨g2, hf⟩ := ro_gd hf
    refine ro_iald hK sh_216 g2 dX12_guestWetAll_22 ?_
    obtain ⟨q3, e4, hf⟩ := ro_bd hf
    refine ro_callvi hK [.int v3, .int (μ 216 ((10 * v3) + v1).toNatClampNeg)] ml_X12_423 mv_X12_wetOn (mt_X12_wetOn (kl K) (kG K)  e4) sh_207 ⟨_, rfl, rfl⟩ (by decide) rfl rfl (Nat.le_of_ble_eq_true rfl) dX12_guestWetAll_23 ?_
    refine ro_iadd hK dX12_guestWetAll_26 ?_
    obtain ⟨z5, e6, hf⟩ := ro_ld hf
    refine ro_iv e6 ?_
    refine ro_istore_n (L' := [(2, .int z5), (0, .ref (ro_ad (kG K) 207)), (1, .int v1), (3, .int v3)]) hK dX12_guestWetAll_27 rfl (by decide) rfl ?_
    refine ro_iinc (v := v3 + 1) (L' := [(3, .int (v3 + 1)), (2, .int z5), (0, .ref (ro_ad (kG K) 207)), (1, .int v1)]) hK 3 rfl dX12_guestWetAll_28 rfl (by decide) rfl ?_
    refine ro_goto hK 4 dX12_guestWetAll_31 (by decide) ?_
    refine ro_sub (L' := [(0, .ref (ro_ad (kG K) 207)), (1, .int v1), (2, .int z5), (3, .int (v3 + 1))]) [2, 3, 1, 0] rfl ?_
    exact hrec (z5, v3 + 1) _ hf hq
def fl_X12_guestWetAll_4 (v1 : Int32) (μ : ro_Mem) : (Int32 × Int32) → Option Int32 :=
  ro_loop (fun rec s => fb_X12_guestWetAll_4 v1 μ rec s.1 s.2) ro_FU
theorem lp_X12_guestWetAll_4 {K : ro_K} (hK : ro_C K RX12 cX12_guestWetAll 4 5) (hR : ro_R K (some .int)) {v1 : Int32}  {μ : ro_Mem} {s : Int32 × Int32} {q : Int32} (hf : fl_X12_guestWetAll_4 v1 μ s = some q) (hq : ok_X12_guestWetAll_4 K v1 μ q) : ro_X K 4 [(0, .ref (ro_ad (kG K) 207)), (1, .int v1), (2, .int s.1), (3, .int s.2)] [] μ :=
  ro_loopX (b := fun rec s => fb_X12_guestWetAll_4 v1 μ rec s.1 s.2) (X := fun s => ro_X K 4 [(0, .ref (ro_ad (kG K) 207)), (1, .int v1), (2, .int s.1), (3, .int s.2)] [] μ) (OK := ok_X12_guestWetAll_4 K v1 μ) (fun rec s q hrec hb ho => bb_X12_guestWetAll_4 hK hR  hrec hb ho) ro_FU s q hf hq
def fn_X12_guestWetAll (v1 : Int32) (μ : ro_Mem) : Option Int32 :=
  (fl_X12_guestWetAll_4 v1 μ (0, 0)).bind fun q7 =>
  some q7
theorem be_X12_guestWetAll {K : ro_K} (hK : ro_C K RX12 cX12_guestWetAll 4 5) (hR : ro_R K (some .int)) {v1 : Int32}  {μ : ro_Mem} {out : Int32} (hf : fn_X12_guestWetAll v1 μ = some out) (hq : kQ K (some (.int out)) μ) : ro_X K 0 [(0, .ref (ro_ad (kG K) 207)), (1, .int v1)] [] μ := by
  unfold fn_X12_guestWetAll at hf
  refine ro_iconst (v := 0) hK dX12_guestWetAll_0 (by decide) ?_
  refine ro_istore_n (L' := [(2, .int 0), (0, .ref (ro_ad (kG K) 207)), (1, .int v1)]) hK dX12_guestWetAll_1 rfl (by decide) rfl ?_
  refine ro_iconst (v := 0) hK dX12_guestWetAll_2 (by decide) ?_
  refine ro_istore_n (L' := [(3, .int 0), (2, .int 0), (0, .ref (ro_ad (kG K) 207)), (1, .int v1)]) hK dX12_guestWetAll_3 rfl (by decide) rfl ?_
  obtain ⟨q7, e8, hf⟩ := ro_bd hf
  refine ro_sub (L' := [(0, .ref (ro_ad (kG K) 207)), (1, .int v1), (2, .int 0), (3, .int 0)]) [2, 3, 1, 0] rfl ?_
  refine lp_X12_guestWetAll_4 hK hR  e8 ?_
  show ro_X K 34 [(2, .int q7)] [] μ
  refine ro_iload_n hK 0 rfl dX12_guestWetAll_34 rfl ?_
  obtain rfl := Option.some.inj hf
  exact ro_iret hK hR dX12_guestWetAll_35 hq
theorem mt_X12_guestWetAll (l : Launch) (G : ro_G) {v1 : Int32}  {μ : ro_Mem} {out : Int32} (hf : fn_X12_guestWetAll v1 μ = some out) : ro_MX l G yX12_guestWetAll cX12_guestWetAll 4 (some .int) 5 [.ref (ro_ad G 207), .int v1] μ (some (.int out)) μ := by
  refine ro_MX.of (by decide +kernel) (Nat.le_of_ble_eq_true rfl) (fun K hG hl hq hK hR => ?_)
  subst hG
  exact be_X12_guestWetAll hK hR  hf hq
-- ===== X12_guestWet =====
theorem dX12_guestWet_0 : decode cX12_guestWet 0 = .ok (.aload_n 0, 1) := by decide +kernel
theorem dX12_guestWet_1 : decode cX12_guestWet 1 = .ok (.iload_n 1, 1) := by decide +kernel
theorem dX12_guestWet_2 : decode cX12_guestWet 2 = .ok (.invokevirtual 235, 3) := by decide +kernel
theorem dX12_guestWet_5 : decode cX12_guestWet 5 = .ok (.ifCond .eq 12, 3) := by decide +kernel
theorem dX12_guestWet_8 : decode cX12_guestWet 8 = .ok (.iload_n 2, 1) := by decide +kernel
theorem dX12_guestWet_9 : decode cX12_guestWet 9 = .ok (.iconst 0, 1) := by decide +kernel
theorem dX12_guestWet_10 : decode cX12_guestWet 10 = .ok (.iconst 4, 1) := by decide +kernel
theorem dX12_guestWet_11 : decode cX12_guestWet 11 = .ok (.invokestatic 215, 3) := by decide +kernel
theorem dX12_guestWet_14 : decode cX12_guestWet 14 = .ok (.ifCond .ne 5, 3) := by decide +kernel
theorem dX12_guestWet_17 : decode cX12_guestWet 17 = .ok (.iconst (-1), 1) := by decide +kernel
theorem dX12_guestWet_18 : decode cX12_guestWet 18 = .ok (.ireturn, 1) := by decide +kernel
theorem dX12_guestWet_19 : decode cX12_guestWet 19 = .ok (.aload_n 0, 1) := by decide +kernel
theorem dX12_guestWet_20 : decode cX12_guestWet 20 = .ok (.invokevirtual 426, 3) := by decide +kernel
theorem dX12_guestWet_23 : decode cX12_guestWet 23 = .ok (.iload_n 2, 1) := by decide +kernel
theorem dX12_guestWet_24 : decode cX12_guestWet 24 = .ok (.iconst 4, 1) := by decide +kernel
theorem dX12_guestWet_25 : decode cX12_guestWet 25 = .ok (.if_icmp .ne 11, 3) := by decide +kernel
theorem dX12_guestWet_28 : decode cX12_guestWet 28 = .ok (.aload_n 0, 1) := by decide +kernel
theorem dX12_guestWet_29 : decode cX12_guestWet 29 = .ok (.iload_n 1, 1) := by decide +kernel
theorem dX12_guestWet_30 : decode cX12_guestWet 30 = .ok (.invokevirtual 432, 3) := by decide +kernel
theorem dX12_guestWet_33 : decode cX12_guestWet 33 = .ok (.goto 19, 3) := by decide +kernel
theorem dX12_guestWet_36 : decode cX12_guestWet 36 = .ok (.aload_n 0, 1) := by decide +kernel
theorem dX12_guestWet_37 : decode cX12_guestWet 37 = .ok (.iload_n 2, 1) := by decide +kernel
theorem dX12_guestWet_38 : decode cX12_guestWet 38 = .ok (.aload_n 0, 1) := by decide +kernel
theorem dX12_guestWet_39 : decode cX12_guestWet 39 = .ok (.getfield 35, 3) := by decide +kernel
theorem dX12_guestWet_42 : decode cX12_guestWet 42 = .ok (.bipush 10, 2) := by decide +kernel
theorem dX12_guestWet_44 : decode cX12_guestWet 44 = .ok (.iload_n 2, 1) := by decide +kernel
theorem dX12_guestWet_45 : decode cX12_guestWet 45 = .ok (.imul, 1) := by decide +kernel
theorem dX12_guestWet_46 : decode cX12_guestWet 46 = .ok (.iload_n 1, 1) := by decide +kernel
theorem dX12_guestWet_47 : decode cX12_guestWet 47 = .ok (.iadd, 1) := by decide +kernel
theorem dX12_guestWet_48 : decode cX12_guestWet 48 = .ok (.iaload, 1) := by decide +kernel
theorem dX12_guestWet_49 : decode cX12_guestWet 49 = .ok (.invokevirtual 423, 3) := by decide +kernel
theorem dX12_guestWet_52 : decode cX12_guestWet 52 = .ok (.ireturn, 1) := by decide +kernel
def fn_X12_guestWet (v1 : Int32) (v2 : Int32) (μ : ro_Mem) : Option (Int32 × ro_Mem) :=
  (fn_X12_isGuest v1 μ).bind fun q1 =>
  if q1 = 0 then
  (some ((-1), μ))
  else
  ((fn_X12_in v2 0 4).bind fun q4 =>
  if q4 = 0 then
  (some ((-1), μ))
  else
  ((fn_X12_laysDrops μ).bind fun q7 =>
  if v2 = 4 then
  ((fn_X12_guestWetAll v1 q7).bind fun q13 =>
  some (q13, q7))
  else
  (if ro_in ((10 * v2) + v1) 40 then
  ((fn_X12_wetOn v2 (q7 216 ((10 * v2) + v1).toNatClampNeg) q7).bind fun q11 =>
  some (q11, q7)) else none)))
theorem be_X12_guestWet {K : ro_K} (hK : ro_C K RX12 cX12_guestWet 3 6) (hR : ro_R K (some .int)) {v1 : Int32} {v2 : Int32}  {μ : ro_Mem} {out : Int32 × ro_Mem} (hf : fn_X12_guestWet v1 v2 μ = some out) (hq : kQ K (some (.int out.1)) out.2) : ro_X K 0 [(0, .ref (ro_ad (kG K) 207)), (1, .int v1), (2, .int v2)] [] μ := by
  unfold fn_X12_guestWet at hf
  refine ro_aload_n hK 0 rfl dX12_guestWet_0 rfl ?_
  refine ro_iload_n hK 1 rfl dX12_guestWet_1 rfl ?_
  obtain ⟨q1, e2, hf⟩ := ro_bd hf
  refine ro_callvi hK [.int v1] ml_X12_235 mv_X12_isGuest (mt_X12_isGuest (kl K) (kG K)  e2) sh_207 ⟨_, rfl, rfl⟩ (by decide) rfl rfl (Nat.le_of_ble_eq_true rfl) dX12_guestWet_2 ?_
  refine ro_if_eq hK 17 dX12_guestWet_5 (by decide) (fun c3 => ?_) (fun c3 => ?_)
  · have hf := ro_it hf c3
    refine ro_iconst (v := (-1)) hK dX12_guestWet_17 (by decide) ?_
    obtain rfl := Option.some.inj hf
    exact ro_iret hK hR dX12_guestWet_18 hq
  · have hf := ro_ie hf c3
    refine ro_iload_n hK 2 rfl dX12_guestWet_8 rfl ?_
    refine ro_iconst (v := 0) hK dX12_guestWet_9 (by decide) ?_
    refine ro_iconst (v := 4) hK dX12_guestWet_10 (by decide) ?_
    obtain ⟨q4, e5, hf⟩ := ro_bd hf
    refine ro_callsi hK [.int v2, .int 0, .int 4] ml_X12_215 ms_X12_in (mt_X12_in (kl K) (kG K)  e5) (by decide) rfl rfl (Nat.le_of_ble_eq_true rfl) dX12_guestWet_11 ?_
    refine ro_if_ne hK 19 dX12_guestWet_14 (by decide) (fun c6 => ?_) (fun c6 => ?_)
    · have hf := ro_ie hf c6
      refine ro_aload_n hK 0 rfl dX12_guestWet_19 rfl ?_
      obtain ⟨q7, e8, hf⟩ := ro_bd hf
      refine ro_callvv hK [] ml_X12_426 mv_X12_laysDrops (mt_X12_laysDrops (kl K) (kG K)  e8) sh_207 ⟨_, rfl, rfl⟩ (by decide) rfl rfl (Nat.le_of_ble_eq_true rfl) dX12_guestWet_20 ?_
      refine ro_iload_n hK 2 rfl dX12_guestWet_23 rfl ?_
      refine ro_iconst (v := 4) hK dX12_guestWet_24 (by decide) ?_
      refine ro_icmp_ne hK 36 dX12_guestWet_25 (by decide) (fun c9 => ?_) (fun c9 => ?_)
      · have hf := ro_ie hf c9
        refine ro_aload_n hK 0 rfl dX12_guestWet_36 rfl ?_
        refine ro_iload_n hK 2 rfl dX12_guestWet_37 rfl ?_
        refine ro_aload_n hK 0 rfl dX12_guestWet_38 rfl ?_
        refine ro_getr hK fl_X12_35 sh_207 dX12_guestWet_39 ?_
        refine ro_bipush (v := 10) hK dX12_guestWet_42 (by decide) ?_
        refine ro_iload_n hK 2 rfl dX12_guestWet_44 rfl ?_
        refine ro_imul hK dX12_guestWet_45 ?_
        refine ro_iload_n hK 1 rfl dX12_guestWet_46 rfl ?_
        refine ro_iadd hK dX12_guestWet_47 ?_
        obtain ⟨g10, hf⟩ := ro_gd hf
        refine ro_iald hK sh_216 g10 dX12_guestWet_48 ?_
        obtain ⟨q11, e12, hf⟩ := ro_bd hf
        refine ro_callvi hK [.int v2, .int (q7 216 ((10 * v2) + v1).toNatClampNeg)] ml_X12_423 mv_X12_wetOn (mt_X12_wetOn (kl K) (kG K)  e12) sh_207 ⟨_, rfl, rfl⟩ (by decide) rfl rfl (Nat.le_of_ble_eq_true rfl) dX12_guestWet_49 ?_
        obtain rfl := Option.some.inj hf
        exact ro_iret hK hR dX12_guestWet_52 hq
      · have hf := ro_it hf c9
        refine ro_aload_n hK 0 rfl dX12_guestWet_28 rfl ?_
        refine ro_iload_n hK 1 rfl dX12_guestWet_29 rfl ?_
        obtain ⟨q13, e14, hf⟩ := ro_bd hf
        refine ro_callvi hK [.int v1] ml_X12_432 mv_X12_guestWetAll (mt_X12_guestWetAll (kl K) (kG K)  e14) sh_207 ⟨_, rfl, rfl⟩ (by decide) rfl rfl (Nat.le_of_ble_eq_true rfl) dX12_guestWet_30 ?_
        refine ro_goto hK 52 dX12_guestWet_33 (by decide) ?_
        obtain rfl := Option.some.inj hf
        exact ro_iret hK hR dX12_guestWet_52 hq
    · have hf := ro_it hf c6
      refine ro_iconst (v := (-1)) hK dX12_guestWet_17 (by decide) ?_
      obtain rfl := Option.some.inj hf
      exact ro_iret hK hR dX12_guestWet_18 hq
theorem mt_X12_guestWet (l : Launch) (G : ro_G) {v1 : Int32} {v2 : Int32}  {μ : ro_Mem} {out : Int32 × ro_Mem} (hf : fn_X12_guestWet v1 v2 μ = some out) : ro_MX l G yX12_guestWet cX12_guestWet 3 (some .int) 6 [.ref (ro_ad G 207), .int v1, .int v2] μ (some (.int out.1)) out.2 := by
  refine ro_MX.of (by decide +kernel) (Nat.le_of_ble_eq_true rfl) (fun K hG hl hq hK hR => ?_)
  subst hG
  exact be_X12_guestWet hK hR  hf hq
