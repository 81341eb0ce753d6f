-- ===== X8_append =====
theorem dX8_append_0 : decode cX8_append 0 = .ok (.bipush 24, 2) := by decide +kernel
theorem dX8_append_2 : decode cX8_append 2 = .ok (.istore_n 2, 1) := by decide +kernel
theorem dX8_append_3 : decode cX8_append 3 = .ok (.iload_n 2, 1) := by decide +kernel
theorem dX8_append_4 : decode cX8_append 4 = .ok (.ifCond .lt 45, 3) := by decide +kernel
theorem dX8_append_7 : decode cX8_append 7 = .ok (.aload_n 0, 1) := by decide +kernel
theorem dX8_append_8 : decode cX8_append 8 = .ok (.getfield 15, 3) := by decide +kernel
theorem dX8_append_11 : decode cX8_append 11 = .ok (.sipush 220, 3) := by decide +kernel
theorem dX8_append_14 : decode cX8_append 14 = .ok (.if_icmp .ge 29, 3) := by decide +kernel
theorem dX8_append_17 : decode cX8_append 17 = .ok (.aload_n 0, 1) := by decide +kernel
theorem dX8_append_18 : decode cX8_append 18 = .ok (.getfield 9, 3) := by decide +kernel
theorem dX8_append_21 : decode cX8_append 21 = .ok (.aload_n 0, 1) := by decide +kernel
theorem dX8_append_22 : decode cX8_append 22 = .ok (.getfield 15, 3) := by decide +kernel
theorem dX8_append_25 : decode cX8_append 25 = .ok (.iload_n 1, 1) := by decide +kernel
theorem dX8_append_26 : decode cX8_append 26 = .ok (.iload_n 2, 1) := by decide +kernel
theorem dX8_append_27 : decode cX8_append 27 = .ok (.iushr, 1) := by decide +kernel
theorem dX8_append_28 : decode cX8_append 28 = .ok (.sipush 255, 3) := by decide +kernel
theorem dX8_append_31 : decode cX8_append 31 = .ok (.iand, 1) := by decide +kernel
theorem dX8_append_32 : decode cX8_append 32 = .ok (.iastore, 1) := by decide +kernel
theorem dX8_append_33 : decode cX8_append 33 = .ok (.aload_n 0, 1) := by decide +kernel
theorem dX8_append_34 : decode cX8_append 34 = .ok (.dup, 1) := by decide +kernel
theorem dX8_append_35 : decode cX8_append 35 = .ok (.getfield 15, 3) := by decide +kernel
theorem dX8_append_38 : decode cX8_append 38 = .ok (.iconst 1, 1) := by decide +kernel
theorem dX8_append_39 : decode cX8_append 39 = .ok (.iadd, 1) := by decide +kernel
theorem dX8_append_40 : decode cX8_append 40 = .ok (.putfield 15, 3) := by decide +kernel
theorem dX8_append_43 : decode cX8_append 43 = .ok (.iinc 2 (-8), 3) := by decide +kernel
theorem dX8_append_46 : decode cX8_append 46 = .ok (.goto (-43), 3) := by decide +kernel
theorem dX8_append_49 : decode cX8_append 49 = .ok (.return_, 1) := by decide +kernel
def ok_X8_append_3 (K : ro_K) (v1 : Int32) : ro_Mem → Prop := fun e => ro_X K 49 [] [] e
def fb_X8_append_3 (v1 : Int32) (rec : (Int32 × ro_Mem) → Option ro_Mem) (v2 : Int32) (μ : ro_Mem) : Option ro_Mem :=
  if v2 < 0 then
  (some μ)
  else
  (if 220 ≤ (μ 60 1) then
  (rec (v2 + (-8), μ))
  else
  (if ro_in (μ 60 1) 220 then
  (ro_lt (ro_set μ 61 (μ 60 1).toNatClampNeg ((ro_ush v1 v2) &&& 255)) fun m4 =>
  ro_lt (ro_set m4 60 1 ((m4 60 1) + 1)) fun m6 =>
  rec (v2 + (-8), m6)) else none))
theorem bb_X8_append_3 {K : ro_K} (hK : ro_C K RX8 cX8_append 3 0) (hR : ro_R K none) {v1 : Int32}  {μ : ro_Mem} {rec : (Int32 × ro_Mem) → Option ro_Mem} {v2 : Int32} {q : ro_Mem} (hrec : ∀ (s : Int32 × ro_Mem) (q : ro_Mem), rec s = some q → ok_X8_append_3 K v1 q → ro_X K 3 [(0, .ref (ro_ad (kG K) 60)), (1, .int v1), (2, .int s.1)] [] s.2) (hf : fb_X8_append_3 v1 rec v2 μ = some q) (hq : ok_X8_append_3 K v1 q) : ro_X K 3 [(0, .ref (ro_ad (kG K) 60)), (1, .int v1), (2, .int v2)] [] μ := by
  unfold fb_X8_append_3 at hf
  refine ro_iload_n hK 2 rfl dX8_append_3 rfl ?_
  refine ro_if_lt hK 49 dX8_append_4 (by decide) (fun c1 => ?_) (fun c1 => ?_)
  · have hf := ro_it hf c1
    refine ro_sub (L' := []) [] rfl ?_
    obtain rfl := Option.some.inj hf
    exact hq
  · have hf := ro_ie hf c1
    refine ro_aload_n hK 0 rfl dX8_append_7 rfl ?_
    refine ro_geti hK fl_X8_15 sh_60 dX8_append_8 ?_
    refine ro_sipush (v := 220) hK dX8_append_11 (by decide) ?_
    refine ro_icmp_ge hK 43 dX8_append_14 (by decide) (fun c2 => ?_) (fun c2 => ?_)
    · have hf := ro_it hf c2
      refine ro_iinc (v := v2 + (-8)) (L' := [(2, .int (v2 + (-8))), (0, .ref (ro_ad (kG K) 60)), (1, .int v1)]) hK 2 rfl dX8_append_43 rfl (by decide) rfl ?_
      refine ro_goto hK 3 dX8_append_46 (by decide) ?_
      refine ro_sub (L' := [(0, .ref (ro_ad (kG K) 60)), (1, .int v1), (2, .int (v2 + (-8)))]) [1, 2, 0] rfl ?_
      exact hrec (v2 + (-8), μ) _ hf hq
    · have hf := ro_ie hf c2
      refine ro_aload_n hK 0 rfl dX8_append_17 rfl ?_
      refine ro_getr hK fl_X8_9 sh_60 dX8_append_18 ?_
      refine ro_aload_n hK 0 rfl dX8_append_21 rfl ?_
      refine ro_geti hK fl_X8_15 sh_60 dX8_append_22 ?_
      refine ro_iload_n hK 1 rfl dX8_append_25 rfl ?_
      refine ro_iload_n hK 2 rfl dX8_append_26 rfl ?_
      refine ro_iushr hK dX8_append_27 ?_
      refine ro_sipush (v := 255) hK dX8_append_28 (by decide) ?_
      refine ro_iand hK dX8_append_31 ?_
      obtain ⟨g3, hf⟩ := ro_gd hf
      obtain ⟨m4, e5, hf⟩ := ro_ld hf
      refine ro_iast hK sh_61 g3 dX8_append_32 ?_
      refine ro_mv e5 ?_
      refine ro_aload_n hK 0 rfl dX8_append_33 rfl ?_
      refine ro_dup hK dX8_append_34 rfl ?_
      refine ro_geti hK fl_X8_15 sh_60 dX8_append_35 ?_
      refine ro_iconst (v := 1) hK dX8_append_38 (by decide) ?_
      refine ro_iadd hK dX8_append_39 ?_
      obtain ⟨m6, e7, hf⟩ := ro_ld hf
      refine ro_puti hK fl_X8_15 sh_60 rfl rfl dX8_append_40 ?_
      refine ro_mv e7 ?_
      refine ro_iinc (v := v2 + (-8)) (L' := [(2, .int (v2 + (-8))), (0, .ref (ro_ad (kG K) 60)), (1, .int v1)]) hK 2 rfl dX8_append_43 rfl (by decide) rfl ?_
      refine ro_goto hK 3 dX8_append_46 (by decide) ?_
      refine ro_sub (L' := [(0, .ref (ro_ad (kG K) 60)), (1, .int v1), (2, .int (v2 + (-8)))]) [1, 2, 0] rfl ?_
      exact hrec (v2 + (-8), m6) _ hf hq
def fl_X8_append_3 (v1 : Int32) : (Int32 × ro_Mem) → Option ro_Mem :=
  ro_loop (fun rec s => fb_X8_append_3 v1 rec s.1 s.2) ro_FU
theorem lp_X8_append_3 {K : ro_K} (hK : ro_C K RX8 cX8_append 3 0) (hR : ro_R K none) {v1 : Int32}  {s : Int32 × ro_Mem} {q : ro_Mem} (hf : fl_X8_append_3 v1 s = some q) (hq : ok_X8_append_3 K v1 q) : ro_X K 3 [(0, .ref (ro_ad (kG K) 60)), (1, .int v1), (2, .int s.1)] [] s.2 :=
  ro_loopX (b := fun rec s => fb_X8_append_3 v1 rec s.1 s.2) (X := fun s => ro_X K 3 [(0, .ref (ro_ad (kG K) 60)), (1, .int v1), (2, .int s.1)] [] s.2) (OK := ok_X8_append_3 K v1) (fun rec s q hrec hb ho => bb_X8_append_3 hK hR  hrec hb ho) ro_FU s q hf hq
def fn_X8_append (v1 : Int32) (μ : ro_Mem) : Option ro_Mem :=
  (fl_X8_append_3 v1 (24, μ)).bind fun q8 =>
  some q8
theorem be_X8_append {K : ro_K} (hK : ro_C K RX8 cX8_append 3 0) (hR : ro_R K none) {v1 : Int32}  {μ : ro_Mem} {out : ro_Mem} (hf : fn_X8_append v1 μ = some out) (hq : kQ K none out) : ro_X K 0 [(0, .ref (ro_ad (kG K) 60)), (1, .int v1)] [] μ := by
  unfold fn_X8_append at hf
  refine ro_bipush (v := 24) hK dX8_append_0 (by decide) ?_
  refine ro_istore_n (L' := [(2, .int 24), (0, .ref (ro_ad (kG K) 60)), (1, .int v1)]) hK dX8_append_2 rfl (by decide) rfl ?_
  obtain ⟨q8, e9, hf⟩ := ro_bd hf
  refine ro_sub (L' := [(0, .ref (ro_ad (kG K) 60)), (1, .int v1), (2, .int 24)]) [1, 2, 0] rfl ?_
  refine lp_X8_append_3 hK hR  e9 ?_
  show ro_X K 49 [] [] q8
  obtain rfl := Option.some.inj hf
  exact ro_vret hK hR dX8_append_49 hq
theorem mt_X8_append (l : Launch) (G : ro_G) {v1 : Int32}  {μ : ro_Mem} {out : ro_Mem} (hf : fn_X8_append v1 μ = some out) : ro_MX l G yX8_append cX8_append 3 none 0 [.ref (ro_ad G 60), .int v1] μ none out := by
  refine ro_MX.of (by decide +kernel) (Nat.le_of_ble_eq_true rfl) (fun K hG hl hq hK hR => ?_)
  subst hG
  exact be_X8_append hK hR  hf hq
-- ===== X8_numberAt =====
theorem dX8_numberAt_0 : decode cX8_numberAt 0 = .ok (.iconst 0, 1) := by decide +kernel
theorem dX8_numberAt_1 : decode cX8_numberAt 1 = .ok (.istore_n 2, 1) := by decide +kernel
theorem dX8_numberAt_2 : decode cX8_numberAt 2 = .ok (.iconst 4, 1) := by decide +kernel
theorem dX8_numberAt_3 : decode cX8_numberAt 3 = .ok (.iload_n 1, 1) := by decide +kernel
theorem dX8_numberAt_4 : decode cX8_numberAt 4 = .ok (.imul, 1) := by decide +kernel
theorem dX8_numberAt_5 : decode cX8_numberAt 5 = .ok (.istore_n 3, 1) := by decide +kernel
theorem dX8_numberAt_6 : decode cX8_numberAt 6 = .ok (.iload_n 3, 1) := by decide +kernel
theorem dX8_numberAt_7 : decode cX8_numberAt 7 = .ok (.iconst 4, 1) := by decide +kernel
theorem dX8_numberAt_8 : decode cX8_numberAt 8 = .ok (.iload_n 1, 1) := by decide +kernel
theorem dX8_numberAt_9 : decode cX8_numberAt 9 = .ok (.imul, 1) := by decide +kernel
theorem dX8_numberAt_10 : decode cX8_numberAt 10 = .ok (.iconst 4, 1) := by decide +kernel
theorem dX8_numberAt_11 : decode cX8_numberAt 11 = .ok (.iadd, 1) := by decide +kernel
theorem dX8_numberAt_12 : decode cX8_numberAt 12 = .ok (.if_icmp .ge 36, 3) := by decide +kernel
theorem dX8_numberAt_15 : decode cX8_numberAt 15 = .ok (.iload_n 2, 1) := by decide +kernel
theorem dX8_numberAt_16 : decode cX8_numberAt 16 = .ok (.bipush 8, 2) := by decide +kernel
theorem dX8_numberAt_18 : decode cX8_numberAt 18 = .ok (.ishl, 1) := by decide +kernel
theorem dX8_numberAt_19 : decode cX8_numberAt 19 = .ok (.iload_n 3, 1) := by decide +kernel
theorem dX8_numberAt_20 : decode cX8_numberAt 20 = .ok (.ifCond .lt 19, 3) := by decide +kernel
theorem dX8_numberAt_23 : decode cX8_numberAt 23 = .ok (.iload_n 3, 1) := by decide +kernel
theorem dX8_numberAt_24 : decode cX8_numberAt 24 = .ok (.sipush 220, 3) := by decide +kernel
theorem dX8_numberAt_27 : decode cX8_numberAt 27 = .ok (.if_icmp .ge 12, 3) := by decide +kernel
theorem dX8_numberAt_30 : decode cX8_numberAt 30 = .ok (.aload_n 0, 1) := by decide +kernel
theorem dX8_numberAt_31 : decode cX8_numberAt 31 = .ok (.getfield 9, 3) := by decide +kernel
theorem dX8_numberAt_34 : decode cX8_numberAt 34 = .ok (.iload_n 3, 1) := by decide +kernel
theorem dX8_numberAt_35 : decode cX8_numberAt 35 = .ok (.iaload, 1) := by decide +kernel
theorem dX8_numberAt_36 : decode cX8_numberAt 36 = .ok (.goto 4, 3) := by decide +kernel
theorem dX8_numberAt_39 : decode cX8_numberAt 39 = .ok (.iconst 0, 1) := by decide +kernel
theorem dX8_numberAt_40 : decode cX8_numberAt 40 = .ok (.ior, 1) := by decide +kernel
theorem dX8_numberAt_41 : decode cX8_numberAt 41 = .ok (.istore_n 2, 1) := by decide +kernel
theorem dX8_numberAt_42 : decode cX8_numberAt 42 = .ok (.iinc 3 1, 3) := by decide +kernel
theorem dX8_numberAt_45 : decode cX8_numberAt 45 = .ok (.goto (-39), 3) := by decide +kernel
theorem dX8_numberAt_48 : decode cX8_numberAt 48 = .ok (.iload_n 2, 1) := by decide +kernel
theorem dX8_numberAt_49 : decode cX8_numberAt 49 = .ok (.ireturn, 1) := by decide +kernel
def ok_X8_numberAt_6 (K : ro_K) (v1 : Int32) (μ : ro_Mem) : Int32 → Prop := fun e => ro_X K 48 [(2, .int e)] [] μ
def fb_X8_numberAt_6 (v1 : Int32) (μ : ro_Mem) (rec : (Int32 × Int32) → Option Int32) (v2 : Int32) (v3 : Int32) : Option Int32 :=
  if ((4 * v1) + 4) ≤ v3 then
  (some v2)
  else
  (if v3 < 0 then
  (ro_lt ((v2 <<< (8 &&& 31)) ||| 0) fun z5 =>
  rec (z5, v3 + 1))
  else
  (if 220 ≤ v3 then
  (ro_lt ((v2 <<< (8 &&& 31)) ||| 0) fun z8 =>
  rec (z8, v3 + 1))
  else
  (if ro_in v3 220 then
  (ro_lt ((v2 <<< (8 &&& 31)) ||| (μ 61 v3.toNatClampNeg)) fun z11 =>
  rec (z11, v3 + 1)) else none)))
theorem bb_X8_numberAt_6 {K : ro_K} (hK : ro_C K RX8 cX8_numberAt 4 0) (hR : ro_R K (some .int)) {v1 : Int32}  {μ : ro_Mem} {rec : (Int32 × Int32) → Option Int32} {v2 : Int32} {v3 : Int32} {q : Int32} (hrec : ∀ (s : Int32 × Int32) (q : Int32), rec s = some q → ok_X8_numberAt_6 K v1 μ q → ro_X K 6 [(0, .ref (ro_ad (kG K) 60)), (1, .int v1), (2, .int s.1), (3, .int s.2)] [] μ) (hf : fb_X8_numberAt_6 v1 μ rec v2 v3 = some q) (hq : ok_X8_numberAt_6 K v1 μ q) : ro_X K 6 [(0, .ref (ro_ad (kG K) 60)), (1, .int v1), (2, .int v2), (3, .int v3)] [] μ := by
  unfold fb_X8_numberAt_6 at hf
  refine ro_iload_n hK 3 rfl dX8_numberAt_6 rfl ?_
  refine ro_iconst (v := 4) hK dX8_numberAt_7 (by decide) ?_
  refine ro_iload_n hK 1 rfl dX8_numberAt_8 rfl ?_
  refine ro_imul hK dX8_numberAt_9 ?_
  refine ro_iconst (v := 4) hK dX8_numberAt_10 (by decide) ?_
  refine ro_iadd hK dX8_numberAt_11 ?_
  refine ro_icmp_ge hK 48 dX8_numberAt_12 (by decide) (fun c3 => ?_) (fun c3 => ?_)
  · have hf := ro_it hf c3
    refine ro_sub (L' := [(2, .int v2)]) [2] rfl ?_
    obtain rfl := Option.some.inj hf
    exact hq
  · have hf := ro_ie hf c3
    refine ro_iload_n hK 2 rfl dX8_numberAt_15 rfl ?_
    refine ro_bipush (v := 8) hK dX8_numberAt_16 (by decide) ?_
    refine ro_ishl hK dX8_numberAt_18 ?_
    refine ro_iload_n hK 3 rfl dX8_numberAt_19 rfl ?_
    refine ro_if_lt hK 39 dX8_numberAt_20 (by decide) (fun c4 => ?_) (fun c4 => ?_)
    · have hf := ro_it hf c4
      refine ro_iconst (v := 0) hK dX8_numberAt_39 (by decide) ?_
      refine ro_ior hK dX8_numberAt_40 ?_
      obtain ⟨z5, e6, hf⟩ := ro_ld hf
      refine ro_iv e6 ?_
      refine ro_istore_n (L' := [(2, .int z5), (0, .ref (ro_ad (kG K) 60)), (1, .int v1), (3, .int v3)]) hK dX8_numberAt_41 rfl (by decide) rfl ?_
      refine ro_iinc (v := v3 + 1) (L' := [(3, .int (v3 + 1)), (2, .int z5), (0, .ref (ro_ad (kG K) 60)), (1, .int v1)]) hK 3 rfl dX8_numberAt_42 rfl (by decide) rfl ?_
      refine ro_goto hK 6 dX8_numberAt_45 (by decide) ?_
      refine ro_sub (L' := [(0, .ref (ro_ad (kG K) 60)), (1, .int v1), (2, .int z5), (3, .int (v3 + 1))]) [2, 3, 1, 0] rfl ?_
      exact hrec (z5, v3 + 1) _ hf hq
    · have hf := ro_ie hf c4
      refine ro_iload_n hK 3 rfl dX8_numberAt_23 rfl ?_
      refine ro_sipush (v := 220) hK dX8_numberAt_24 (by decide) ?_
      refine ro_icmp_ge hK 39 dX8_numberAt_27 (by decide) (fun c7 => ?_) (fun c7 => ?_)
      · have hf := ro_it hf c7
        refine ro_iconst (v := 0) hK dX8_numberAt_39 (by decide) ?_
        refine ro_ior hK dX8_numberAt_40 ?_
        obtain ⟨z8, e9, hf⟩ := ro_ld hf
        refine ro_iv e9 ?_
        refine ro_istore_n (L' := [(2, .int z8), (0, .ref (ro_ad (kG K) 60)), (1, .int v1), (3, .int v3)]) hK dX8_numberAt_41 rfl (by decide) rfl ?_
        refine ro_iinc (v := v3 + 1) (L' := [(3, .int (v3 + 1)), (2, .int z8), (0, .ref (ro_ad (kG K) 60)), (1, .int v1)]) hK 3 rfl dX8_numberAt_42 rfl (by decide) rfl ?_
        refine ro_goto hK 6 dX8_numberAt_45 (by decide) ?_
        refine ro_sub (L' := [(0, .ref (ro_ad (kG K) 60)), (1, .int v1), (2, .int z8), (3, .int (v3 + 1))]) [2, 3, 1, 0] rfl ?_
        exact hrec (z8, v3 + 1) _ hf hq
      · have hf := ro_ie hf c7
        refine ro_aload_n hK 0 rfl dX8_numberAt_30 rfl ?_
        refine ro_getr hK fl_X8_9 sh_60 dX8_numberAt_31 ?_
        refine ro_iload_n hK 3 rfl dX8_numberAt_34 rfl ?_
        obtain ⟨g10, hf⟩ := ro_gd hf
        refine ro_iald hK sh_61 g10 dX8_numberAt_35 ?_
        refine ro_goto hK 40 dX8_numberAt_36 (by decide) ?_
        refine ro_ior hK dX8_numberAt_40 ?_
        obtain ⟨z11, e12, hf⟩ := ro_ld hf
        refine ro_iv e12 ?_
        refine ro_istore_n (L' := [(2, .int z11), (0, .ref (ro_ad (kG K) 60)), (1, .int v1), (3, .int v3)]) hK dX8_numberAt_41 rfl (by decide) rfl ?_
        refine ro_iinc (v := v3 + 1) (L' := [(3, .int (v3 + 1)), (2, .int z11), (0, .ref (ro_ad (kG K) 60)), (1, .int v1)]) hK 3 rfl dX8_numberAt_42 rfl (by decide) rfl ?_
        refine ro_goto hK 6 dX8_numberAt_45 (by decide) ?_
        refine ro_sub (L' := [(0, .ref (ro_ad (kG K) 60)), (1, .int v1), (2, .int z11), (3, .int (v3 + 1))]) [2, 3, 1, 0] rfl ?_
        exact hrec (z11, v3 + 1) _ hf hq
def fl_X8_numberAt_6 (v1 : Int32) (μ : ro_Mem) : (Int32 × Int32) → Option Int32 :=
  ro_loop (fun rec s => fb_X8_numberAt_6 v1 μ rec s.1 s.2) ro_FU
theorem lp_X8_numberAt_6 {K : ro_K} (hK : ro_C K RX8 cX8_numberAt 4 0) (hR : ro_R K (some .int)) {v1 : Int32}  {μ : ro_Mem} {s : Int32 × Int32} {q : Int32} (hf : fl_X8_numberAt_6 v1 μ s = some q) (hq : ok_X8_numberAt_6 K v1 μ q) : ro_X K 6 [(0, .ref (ro_ad (kG K) 60)), (1, .int v1), (2, .int s.1), (3, .int s.2)] [] μ :=
  ro_loopX (b := fun rec s => fb_X8_numberAt_6 v1 μ rec s.1 s.2) (X := fun s => ro_X K 6 [(0, .ref (ro_ad (kG K) 60)), (1, .int v1), (2, .int s.1), (3, .int s.2)] [] μ) (OK := ok_X8_numberAt_6 K v1 μ) (fun rec s q hrec hb ho => bb_X8_numberAt_6 hK hR  hrec hb ho) ro_FU s q hf hq
def fn_X8_numberAt (v1 : Int32) (μ : ro_Mem) : Option Int32 :=
  ro_lt (4 * v1) fun z1 =>
  (fl_X8_numberAt_6 v1 μ (0, z1)).bind fun q13 =>
  some q13
theorem be_X8_numberAt {K : ro_K} (hK : ro_C K RX8 cX8_numberAt 4 0) (hR : ro_R K (some .int)) {v1 : Int32}  {μ : ro_Mem} {out : Int32} (hf : fn_X8_numberAt v1 μ = some out) (hq : kQ K (some (.int out)) μ) : ro_X K 0 [(0, .ref (ro_ad (kG K) 60)), (1, .int v1)] [] μ := by
  unfold fn_X8_numberAt at hf
  refine ro_iconst (v := 0) hK dX8_numberAt_0 (by decide) ?_
  refine ro_istore_n (L' := [(2, .int 0), (0, .ref (ro_ad (kG K) 60)), (1, .int v1)]) hK dX8_numberAt_1 rfl (by decide) rfl ?_
  refine ro_iconst (v := 4) hK dX8_numberAt_2 (by decide) ?_
  refine ro_iload_n hK 2 rfl dX8_numberAt_3 rfl ?_
  refine ro_imul hK dX8_numberAt_4 ?_
  obtain ⟨z1, e2, hf⟩ := ro_ld hf
  refine ro_iv e2 ?_
  refine ro_istore_n (L' := [(3, .int z1), (2, .int 0), (0, .ref (ro_ad (kG K) 60)), (1, .int v1)]) hK dX8_numberAt_5 rfl (by decide) rfl ?_
  obtain ⟨q13, e14, hf⟩ := ro_bd hf
  refine ro_sub (L' := [(0, .ref (ro_ad (kG K) 60)), (1, .int v1), (2, .int 0), (3, .int z1)]) [2, 3, 1, 0] rfl ?_
  refine lp_X8_numberAt_6 hK hR  e14 ?_
  show ro_X K 48 [(2, .int q13)] [] μ
  refine ro_iload_n hK 0 rfl dX8_numberAt_48 rfl ?_
  obtain rfl := Option.some.inj hf
  exact ro_iret hK hR dX8_numberAt_49 hq
theorem mt_X8_numberAt (l : Launch) (G : ro_G) {v1 : Int32}  {μ : ro_Mem} {out : Int32} (hf : fn_X8_numberAt v1 μ = some out) : ro_MX l G yX8_numberAt cX8_numberAt 4 (some .int) 0 [.ref (ro_ad G 60), .int v1] μ (some (.int out)) μ := by
  refine ro_MX.of (by decide +kernel) (Nat.le_of_ble_eq_true rfl) (fun K hG hl hq hK hR => ?_)
  subst hG
  exact be_X8_numberAt hK hR  hf hq
-- ===== X8_startReading =====
theorem dX8_startReading_0 : decode cX8_startReading 0 = .ok (.aload_n 0, 1) := by decide +kernel
theorem dX8_startReading_1 : decode cX8_startReading 1 = .ok (.iconst 0, 1) := by decide +kernel
theorem dX8_startReading_2 : decode cX8_startReading 2 = .ok (.putfield 19, 3) := by decide +kernel
theorem dX8_startReading_5 : decode cX8_startReading 5 = .ok (.aload_n 0, 1) := by decide +kernel
theorem dX8_startReading_6 : decode cX8_startReading 6 = .ok (.iload_n 1, 1) := by decide +kernel
theorem dX8_startReading_7 : decode cX8_startReading 7 = .ok (.aload_n 0, 1) := by decide +kernel
theorem dX8_startReading_8 : decode cX8_startReading 8 = .ok (.getfield 15, 3) := by decide +kernel
theorem dX8_startReading_11 : decode cX8_startReading 11 = .ok (.invokestatic 22, 3) := by decide +kernel
theorem dX8_startReading_14 : decode cX8_startReading 14 = .ok (.putfield 28, 3) := by decide +kernel
theorem dX8_startReading_17 : decode cX8_startReading 17 = .ok (.aload_n 0, 1) := by decide +kernel
theorem dX8_startReading_18 : decode cX8_startReading 18 = .ok (.iconst 0, 1) := by decide +kernel
theorem dX8_startReading_19 : decode cX8_startReading 19 = .ok (.putfield 31, 3) := by decide +kernel
theorem dX8_startReading_22 : decode cX8_startReading 22 = .ok (.return_, 1) := by decide +kernel
def fn_X8_startReading (v1 : Int32) (μ : ro_Mem) : Option ro_Mem :=
  ro_lt (ro_set μ 60 2 0) fun m1 =>
  ro_lt (ro_set m1 60 3 (ro_mn v1 (m1 60 1))) fun m3 =>
  ro_lt (ro_set m3 60 4 0) fun m5 =>
  some m5
theorem be_X8_startReading {K : ro_K} (hK : ro_C K RX8 cX8_startReading 2 1) (hR : ro_R K none) {v1 : Int32}  {μ : ro_Mem} {out : ro_Mem} (hf : fn_X8_startReading v1 μ = some out) (hq : kQ K none out) : ro_X K 0 [(0, .ref (ro_ad (kG K) 60)), (1, .int v1)] [] μ := by
  unfold fn_X8_startReading at hf
  refine ro_aload_n hK 0 rfl dX8_startReading_0 rfl ?_
  refine ro_iconst (v := 0) hK dX8_startReading_1 (by decide) ?_
  obtain ⟨m1, e2, hf⟩ := ro_ld hf
  refine ro_puti hK fl_X8_19 sh_60 rfl rfl dX8_startReading_2 ?_
  refine ro_mv e2 ?_
  refine ro_aload_n hK 0 rfl dX8_startReading_5 rfl ?_
  refine ro_iload_n hK 1 rfl dX8_startReading_6 rfl ?_
  refine ro_aload_n hK 0 rfl dX8_startReading_7 rfl ?_
  refine ro_geti hK fl_X8_15 sh_60 dX8_startReading_8 ?_
  refine ro_mmin hK ml_X8_22 (by decide) (Nat.le_of_ble_eq_true rfl) dX8_startReading_11 ?_
  obtain ⟨m3, e4, hf⟩ := ro_ld hf
  refine ro_puti hK fl_X8_28 sh_60 rfl rfl dX8_startReading_14 ?_
  refine ro_mv e4 ?_
  refine ro_aload_n hK 0 rfl dX8_startReading_17 rfl ?_
  refine ro_iconst (v := 0) hK dX8_startReading_18 (by decide) ?_
  obtain ⟨m5, e6, hf⟩ := ro_ld hf
  refine ro_puti hK fl_X8_31 sh_60 rfl rfl dX8_startReading_19 ?_
  refine ro_mv e6 ?_
  obtain rfl := Option.some.inj hf
  exact ro_vret hK hR dX8_startReading_22 hq
theorem mt_X8_startReading (l : Launch) (G : ro_G) {v1 : Int32}  {μ : ro_Mem} {out : ro_Mem} (hf : fn_X8_startReading v1 μ = some out) : ro_MX l G yX8_startReading cX8_startReading 2 none 1 [.ref (ro_ad G 60), .int v1] μ none out := by
  refine ro_MX.of (by decide +kernel) (Nat.le_of_ble_eq_true rfl) (fun K hG hl hq hK hR => ?_)
  subst hG
  exact be_X8_startReading hK hR  hf hq
-- ===== X9_payFor =====
theorem dX9_payFor_0 : decode cX9_payFor 0 = .ok (.aload_n 0, 1) := by decide +kernel
theorem dX9_payFor_1 : decode cX9_payFor 1 = .ok (.getfield 28, 3) := by decide +kernel
theorem dX9_payFor_4 : decode cX9_payFor 4 = .ok (.getfield 52, 3) := by decide +kernel
theorem dX9_payFor_7 : decode cX9_payFor 7 = .ok (.iconst 0, 1) := by decide +kernel
theorem dX9_payFor_8 : decode cX9_payFor 8 = .ok (.invokestatic 84, 3) := by decide +kernel
theorem dX9_payFor_11 : decode cX9_payFor 11 = .ok (.aload_n 0, 1) := by decide +kernel
theorem dX9_payFor_12 : decode cX9_payFor 12 = .ok (.iload_n 2, 1) := by decide +kernel
theorem dX9_payFor_13 : decode cX9_payFor 13 = .ok (.invokevirtual 67, 3) := by decide +kernel
theorem dX9_payFor_16 : decode cX9_payFor 16 = .ok (.aload_n 0, 1) := by decide +kernel
theorem dX9_payFor_17 : decode cX9_payFor 17 = .ok (.iload_n 1, 1) := by decide +kernel
theorem dX9_payFor_18 : decode cX9_payFor 18 = .ok (.invokevirtual 74, 3) := by decide +kernel
theorem dX9_payFor_21 : decode cX9_payFor 21 = .ok (.aload_n 0, 1) := by decide +kernel
theorem dX9_payFor_22 : decode cX9_payFor 22 = .ok (.getfield 28, 3) := by decide +kernel
theorem dX9_payFor_25 : decode cX9_payFor 25 = .ok (.iconst 3, 1) := by decide +kernel
theorem dX9_payFor_26 : decode cX9_payFor 26 = .ok (.sipush 999, 3) := by decide +kernel
theorem dX9_payFor_29 : decode cX9_payFor 29 = .ok (.invokevirtual 77, 3) := by decide +kernel
theorem dX9_payFor_32 : decode cX9_payFor 32 = .ok (.ireturn, 1) := by decide +kernel
def fn_X9_payFor (v1 : Int32) (v2 : Int32) (μ : ro_Mem) : Option (Int32 × ro_Mem) :=
  if ro_sh (ro_rf μ 1 2) = (0, 2) then
  ((fn_J7_fill_53178 ((ro_rf μ 1 2) + 7) 0 μ).bind fun q2 =>
  (fn_X9_tellAct v2 q2).bind fun q4 =>
  (fn_X9_tellSeat v1 q4).bind fun q6 =>
  if ro_sh (ro_rf q6 1 2) = (0, 2) then
  ((fn_X2_amount (ro_rf q6 1 2) 3 999 q6).bind fun q9 =>
  some (q9.1, q9.2)) else none) else none
theorem be_X9_payFor {K : ro_K} (hK : ro_C K RX9 cX9_payFor 3 3) (hR : ro_R K (some .int)) {v1 : Int32} {v2 : Int32}  {μ : ro_Mem} {out : Int32 × ro_Mem} (hf : fn_X9_payFor v1 v2 μ = some out) (hq : kQ K (some (.int out.1)) out.2) : ro_X K 0 [(0, .ref (ro_ad (kG K) 1)), (1, .int v1), (2, .int v2)] [] μ := by
  unfold fn_X9_payFor at hf
  refine ro_aload_n hK 0 rfl dX9_payFor_0 rfl ?_
  obtain ⟨g1, hf⟩ := ro_gd hf
  refine ro_getm hK fl_X9_28 sh_1 dX9_payFor_1 ?_
  refine ro_getr hK fl_X9_52 g1 dX9_payFor_4 ?_
  refine ro_iconst (v := 0) hK dX9_payFor_7 (by decide) ?_
  obtain ⟨q2, e3, hf⟩ := ro_bd hf
  refine ro_callsv hK [.ref (ro_ad (kG K) ((ro_rf μ 1 2) + 7)), .int 0] ml_X9_84 ms_J7_fill_53178 (mt_J7_fill_53178 (kl K) (kG K) (ro_shl (so_2_7 g1)) e3) (by decide) rfl rfl (Nat.le_of_ble_eq_true rfl) dX9_payFor_8 ?_
  refine ro_aload_n hK 0 rfl dX9_payFor_11 rfl ?_
  refine ro_iload_n hK 2 rfl dX9_payFor_12 rfl ?_
  obtain ⟨q4, e5, hf⟩ := ro_bd hf
  refine ro_callvv hK [.int v2] ml_X9_67 mv_X9_tellAct (mt_X9_tellAct (kl K) (kG K)  e5) sh_1 ⟨_, rfl, rfl⟩ (by decide) rfl rfl (Nat.le_of_ble_eq_true rfl) dX9_payFor_13 ?_
  refine ro_aload_n hK 0 rfl dX9_payFor_16 rfl ?_
  refine ro_iload_n hK 1 rfl dX9_payFor_17 rfl ?_
  obtain ⟨q6, e7, hf⟩ := ro_bd hf
  refine ro_callvv hK [.int v1] ml_X9_74 mv_X9_tellSeat (mt_X9_tellSeat (kl K) (kG K)  e7) sh_1 ⟨_, rfl, rfl⟩ (by decide) rfl rfl (Nat.le_of_ble_eq_true rfl) dX9_payFor_18 ?_
  refine ro_aload_n hK 0 rfl dX9_payFor_21 rfl ?_
  obtain ⟨g8, hf⟩ := ro_gd hf
  refine ro_getm hK fl_X9_28 sh_1 dX9_payFor_22 ?_
  refine ro_iconst (v := 3) hK dX9_payFor_25 (by decide) ?_
  refine ro_sipush (v := 999) hK dX9_payFor_26 (by decide) ?_
  obtain ⟨q9, e10, hf⟩ := ro_bd hf
  refine ro_callvi hK [.int 3, .int 999] ml_X9_77 mv_X2_amount (mt_X2_amount (kl K) (kG K) g8 e10) g8 ⟨_, rfl, rfl⟩ (by decide) rfl rfl (Nat.le_of_ble_eq_true rfl) dX9_payFor_29 ?_
  obtain rfl := Option.some.inj hf
  exact ro_iret hK hR dX9_payFor_32 hq
theorem mt_X9_payFor (l : Launch) (G : ro_G) {v1 : Int32} {v2 : Int32}  {μ : ro_Mem} {out : Int32 × ro_Mem} (hf : fn_X9_payFor v1 v2 μ = some out) : ro_MX l G yX9_payFor cX9_payFor 3 (some .int) 3 [.ref (ro_ad G 1), .int v1, .int v2] μ (some (.int out.1)) out.2 := by
  refine ro_MX.of (by decide +kernel) (Nat.le_of_ble_eq_true rfl) (fun K hG hl hq hK hR => ?_)
  subst hG
  exact be_X9_payFor hK hR  hf hq
-- ===== X9_growMould =====
theorem dX9_growMould_0 : decode cX9_growMould 0 = .ok (.aload_n 0, 1) := by decide +kernel
theorem dX9_growMould_1 : decode cX9_growMould 1 = .ok (.getfield 28, 3) := by decide +kernel
theorem dX9_growMould_4 : decode cX9_growMould 4 = .ok (.getfield 52, 3) := by decide +kernel
theorem dX9_growMould_7 : decode cX9_growMould 7 = .ok (.iconst 0, 1) := by decide +kernel
theorem dX9_growMould_8 : decode cX9_growMould 8 = .ok (.invokestatic 84, 3) := by decide +kernel
theorem dX9_growMould_11 : decode cX9_growMould 11 = .ok (.iconst 0, 1) := by decide +kernel
theorem dX9_growMould_12 : decode cX9_growMould 12 = .ok (.istore_n 2, 1) := by decide +kernel
theorem dX9_growMould_13 : decode cX9_growMould 13 = .ok (.iload_n 2, 1) := by decide +kernel
theorem dX9_growMould_14 : decode cX9_growMould 14 = .ok (.bipush 96, 2) := by decide +kernel
theorem dX9_growMould_16 : decode cX9_growMould 16 = .ok (.if_icmp .ge 64, 3) := by decide +kernel
theorem dX9_growMould_19 : decode cX9_growMould 19 = .ok (.aload_n 0, 1) := by decide +kernel
theorem dX9_growMould_20 : decode cX9_growMould 20 = .ok (.iload_n 2, 1) := by decide +kernel
theorem dX9_growMould_21 : decode cX9_growMould 21 = .ok (.invokevirtual 74, 3) := by decide +kernel
theorem dX9_growMould_24 : decode cX9_growMould 24 = .ok (.aload_n 0, 1) := by decide +kernel
theorem dX9_growMould_25 : decode cX9_growMould 25 = .ok (.getfield 28, 3) := by decide +kernel
theorem dX9_growMould_28 : decode cX9_growMould 28 = .ok (.getfield 52, 3) := by decide +kernel
theorem dX9_growMould_31 : decode cX9_growMould 31 = .ok (.bipush 11, 2) := by decide +kernel
theorem dX9_growMould_33 : decode cX9_growMould 33 = .ok (.aload_n 1, 1) := by decide +kernel
theorem dX9_growMould_34 : decode cX9_growMould 34 = .ok (.iload_n 2, 1) := by decide +kernel
theorem dX9_growMould_35 : decode cX9_growMould 35 = .ok (.iconst 4, 1) := by decide +kernel
theorem dX9_growMould_36 : decode cX9_growMould 36 = .ok (.invokevirtual 90, 3) := by decide +kernel
theorem dX9_growMould_39 : decode cX9_growMould 39 = .ok (.iastore, 1) := by decide +kernel
theorem dX9_growMould_40 : decode cX9_growMould 40 = .ok (.aload_n 0, 1) := by decide +kernel
theorem dX9_growMould_41 : decode cX9_growMould 41 = .ok (.getfield 12, 3) := by decide +kernel
theorem dX9_growMould_44 : decode cX9_growMould 44 = .ok (.getfield 95, 3) := by decide +kernel
theorem dX9_growMould_47 : decode cX9_growMould 47 = .ok (.iload_n 2, 1) := by decide +kernel
theorem dX9_growMould_48 : decode cX9_growMould 48 = .ok (.bipush 99, 2) := by decide +kernel
theorem dX9_growMould_50 : decode cX9_growMould 50 = .ok (.aload_n 0, 1) := by decide +kernel
theorem dX9_growMould_51 : decode cX9_growMould 51 = .ok (.getfield 12, 3) := by decide +kernel
theorem dX9_growMould_54 : decode cX9_growMould 54 = .ok (.getfield 95, 3) := by decide +kernel
theorem dX9_growMould_57 : decode cX9_growMould 57 = .ok (.iload_n 2, 1) := by decide +kernel
theorem dX9_growMould_58 : decode cX9_growMould 58 = .ok (.iaload, 1) := by decide +kernel
theorem dX9_growMould_59 : decode cX9_growMould 59 = .ok (.aload_n 0, 1) := by decide +kernel
theorem dX9_growMould_60 : decode cX9_growMould 60 = .ok (.getfield 28, 3) := by decide +kernel
theorem dX9_growMould_63 : decode cX9_growMould 63 = .ok (.iconst 2, 1) := by decide +kernel
theorem dX9_growMould_64 : decode cX9_growMould 64 = .ok (.bipush 9, 2) := by decide +kernel
theorem dX9_growMould_66 : decode cX9_growMould 66 = .ok (.invokevirtual 77, 3) := by decide +kernel
theorem dX9_growMould_69 : decode cX9_growMould 69 = .ok (.iadd, 1) := by decide +kernel
theorem dX9_growMould_70 : decode cX9_growMould 70 = .ok (.invokestatic 98, 3) := by decide +kernel
theorem dX9_growMould_73 : decode cX9_growMould 73 = .ok (.iastore, 1) := by decide +kernel
theorem dX9_growMould_74 : decode cX9_growMould 74 = .ok (.iinc 2 1, 3) := by decide +kernel
theorem dX9_growMould_77 : decode cX9_growMould 77 = .ok (.goto (-64), 3) := by decide +kernel
theorem dX9_growMould_80 : decode cX9_growMould 80 = .ok (.return_, 1) := by decide +kernel
def ok_X9_growMould_13 (K : ro_K)  : ro_Mem → Prop := fun e => ro_X K 80 [] [] e
def fb_X9_growMould_13  (rec : (Int32 × ro_Mem) → Option ro_Mem) (v2 : Int32) (μ : ro_Mem) : Option ro_Mem :=
  if 96 ≤ v2 then
  (some μ)
  else
  ((fn_X9_tellSeat v2 μ).bind fun q5 =>
  if ro_sh (ro_rf q5 1 2) = (0, 2) then
  ((fn_X0_seatWet v2 4 q5).bind fun q8 =>
  ro_lt (ro_set q5 ((ro_rf q5 1 2) + 7) (11 : Int32).toNatClampNeg q8) fun m10 =>
  if ro_in v2 96 then
  (if ro_sh (ro_rf m10 1 2) = (0, 2) then
  ((fn_X2_amount (ro_rf m10 1 2) 2 9 m10).bind fun q14 =>
  ro_lt (ro_set q14.2 5 v2.toNatClampNeg (ro_mn 99 ((m10 5 v2.toNatClampNeg) + q14.1))) fun m16 =>
  rec (v2 + 1, m16)) else none) else none) else none)
theorem bb_X9_growMould_13 {K : ro_K} (hK : ro_C K RX9 cX9_growMould 3 3) (hR : ro_R K none)   {μ : ro_Mem} {rec : (Int32 × ro_Mem) → Option ro_Mem} {v2 : Int32} {q : ro_Mem} (hrec : ∀ (s : Int32 × ro_Mem) (q : ro_Mem), rec s = some q → ok_X9_growMould_13 K q → ro_X K 13 [(0, .ref (ro_ad (kG K) 1)), (1, .ref (ro_ad (kG K) 62)), (2, .int s.1)] [] s.2) (hf : fb_X9_growMould_13 rec v2 μ = some q) (hq : ok_X9_growMould_13 K q) : ro_X K 13 [(0, .ref (ro_ad (kG K) 1)), (1, .ref (ro_ad (kG K) 62)), (2, .int v2)] [] μ := by
  unfold fb_X9_growMould_13 at hf
  refine ro_iload_n hK 2 rfl dX9_growMould_13 rfl ?_
  refine ro_bipush (v := 96) hK dX9_growMould_14 (by decide) ?_
  refine ro_icmp_ge hK 80 dX9_growMould_16 (by decide) (fun c4 => ?_) (fun c4 => ?_)
  · have hf := ro_it hf c4
    refine ro_sub (L' := []) [] rfl ?_
    obtain rfl := Option.some.inj hf
    exact hq
  · have hf := ro_ie hf c4
    refine ro_aload_n hK 0 rfl dX9_growMould_19 rfl ?_
    refine ro_iload_n hK 2 rfl dX9_growMould_20 rfl ?_
    obtain ⟨q5, e6, hf⟩ := ro_bd hf
    refine ro_callvv hK [.int v2] ml_X9_74 mv_X9_tellSeat (mt_X9_tellSeat (kl K) (kG K)  e6) sh_1 ⟨_, rfl, rfl⟩ (by decide) rfl rfl (Nat.le_of_ble_eq_true rfl) dX9_growMould_21 ?_
    refine ro_aload_n hK 0 rfl dX9_growMould_24 rfl ?_
    obtain ⟨g7, hf⟩ := ro_gd hf
    refine ro_getm hK fl_X9_28 sh_1 dX9_growMould_25 ?_
    refine ro_getr hK fl_X9_52 g7 dX9_growMould_28 ?_
    refine ro_bipush (v := 11) hK dX9_growMould_31 (by decide) ?_
    refine ro_aload_n hK 1 rfl dX9_growMould_33 rfl ?_
    refine ro_iload_n hK 2 rfl dX9_growMould_34 rfl ?_
    refine ro_iconst (v := 4) hK dX9_growMould_35 (by decide) ?_
    obtain ⟨q8, e9, hf⟩ := ro_bd hf
    refine ro_callvi hK [.int v2, .int 4] ml_X9_90 mv_X0_seatWet (mt_X0_seatWet (kl K) (kG K)  e9) sh_62 ⟨_, rfl, rfl⟩ (by decide) rfl rfl (Nat.le_of_ble_eq_true rfl) dX9_growMould_36 ?_
    obtain ⟨m10, e11, hf⟩ := ro_ld hf
    refine ro_iast hK (so_2_7 g7) (by decide) dX9_growMould_39 ?_
    refine ro_mv e11 ?_
    refine ro_aload_n hK 0 rfl dX9_growMould_40 rfl ?_
    refine ro_getr hK fl_X9_12 sh_1 dX9_growMould_41 ?_
    refine ro_getr hK fl_X9_95 sh_2 dX9_growMould_44 ?_
    refine ro_iload_n hK 2 rfl dX9_growMould_47 rfl ?_
    refine ro_bipush (v := 99) hK dX9_growMould_48 (by decide) ?_
    refine ro_aload_n hK 0 rfl dX9_growMould_50 rfl ?_
    refine ro_getr hK fl_X9_12 sh_1 dX9_growMould_51 ?_
    refine ro_getr hK fl_X9_95 sh_2 dX9_growMould_54 ?_
    refine ro_iload_n hK 2 rfl dX9_growMould_57 rfl ?_
    obtain ⟨g12, hf⟩ := ro_gd hf
    refine ro_iald hK sh_5 g12 dX9_growMould_58 ?_
    refine ro_aload_n hK 0 rfl dX9_growMould_59 rfl ?_
    obtain ⟨g13, hf⟩ := ro_gd hf
    refine ro_getm hK fl_X9_28 sh_1 dX9_growMould_60 ?_
    refine ro_iconst (v := 2) hK dX9_growMould_63 (by decide) ?_
    refine ro_bipush (v := 9) hK dX9_growMould_64 (by decide) ?_
    obtain ⟨q14, e15, hf⟩ := ro_bd hf
    refine ro_callvi hK [.int 2, .int 9] ml_X9_77 mv_X2_amount (mt_X2_amount (kl K) (kG K) g13 e15) g13 ⟨_, rfl, rfl⟩ (by decide) rfl rfl (Nat.le_of_ble_eq_true rfl) dX9_growMould_66 ?_
    refine ro_iadd hK dX9_growMould_69 ?_
    refine ro_mmin hK ml_X9_98 (by decide) (Nat.le_of_ble_eq_true rfl) dX9_growMould_70 ?_
    obtain ⟨m16, e17, hf⟩ := ro_ld hf
    refine ro_iast hK sh_5 g12 dX9_growMould_73 ?_
    refine ro_mv e17 ?_
    refine ro_iinc (v := v2 + 1) (L' := [(2, .int (v2 + 1)), (0, .ref (ro_ad (kG K) 1)), (1, .ref (ro_ad (kG K) 62))]) hK 2 rfl dX9_growMould_74 rfl (by decide) rfl ?_
    refine ro_goto hK 13 dX9_growMould_77 (by decide) ?_
    refine ro_sub (L' := [(0, .ref (ro_ad (kG K) 1)), (1, .ref (ro_ad (kG K) 62)), (2, .int (v2 + 1))]) [1, 2, 0] rfl ?_
    exact hrec (v2 + 1, m16) _ hf hq
def fl_X9_growMould_13  : (Int32 × ro_Mem) → Option ro_Mem :=
  ro_loop (fun rec s => fb_X9_growMould_13 rec s.1 s.2) ro_FU
theorem lp_X9_growMould_13 {K : ro_K} (hK : ro_C K RX9 cX9_growMould 3 3) (hR : ro_R K none)   {s : Int32 × ro_Mem} {q : ro_Mem} (hf : fl_X9_growMould_13 s = some q) (hq : ok_X9_growMould_13 K q) : ro_X K 13 [(0, .ref (ro_ad (kG K) 1)), (1, .ref (ro_ad (kG K) 62)), (2, .int s.1)] [] s.2 :=
  ro_loopX (b := fun rec s => fb_X9_growMould_13 rec s.1 s.2) (X := fun s => ro_X K 13 [(0, .ref (ro_ad (kG K) 1)), (1, .ref (ro_ad (kG K) 62)), (2, .int s.1)] [] s.2) (OK := ok_X9_growMould_13 K) (fun rec s q hrec hb ho => bb_X9_growMould_13 hK hR  hrec hb ho) ro_FU s q hf hq
def fn_X9_growMould (μ : ro_Mem) : Option ro_Mem :=
  if ro_sh (ro_rf μ 1 2) = (0, 2) then
  ((fn_J7_fill_53178 ((ro_rf μ 1 2) + 7) 0 μ).bind fun q2 =>
  (fl_X9_growMould_13  (0, q2)).bind fun q18 =>
  some q18) else none
theorem be_X9_growMould {K : ro_K} (hK : ro_C K RX9 cX9_growMould 3 3) (hR : ro_R K none)   {μ : ro_Mem} {out : ro_Mem} (hf : fn_X9_growMould μ = some out) (hq : kQ K none out) : ro_X K 0 [(0, .ref (ro_ad (kG K) 1)), (1, .ref (ro_ad (kG K) 62))] [] μ := by
  unfold fn_X9_growMould at hf
  refine ro_aload_n hK 0 rfl dX9_growMould_0 rfl ?_
  obtain ⟨g1, hf⟩ := ro_gd hf
  refine ro_getm hK fl_X9_28 sh_1 dX9_growMould_1 ?_
  refine ro_getr hK fl_X9_52 g1 dX9_growMould_4 ?_
  refine ro_iconst (v := 0) hK dX9_growMould_7 (by decide) ?_
  obtain ⟨q2, e3, hf⟩ := ro_bd hf
  refine ro_callsv hK [.ref (ro_ad (kG K) ((ro_rf μ 1 2) + 7)), .int 0] ml_X9_84 ms_J7_fill_53178 (mt_J7_fill_53178 (kl K) (kG K) (ro_shl (so_2_7 g1)) e3) (by decide) rfl rfl (Nat.le_of_ble_eq_true rfl) dX9_growMould_8 ?_
  refine ro_iconst (v := 0) hK dX9_growMould_11 (by decide) ?_
  refine ro_istore_n (L' := [(2, .int 0), (0, .ref (ro_ad (kG K) 1)), (1, .ref (ro_ad (kG K) 62))]) hK dX9_growMould_12 rfl (by decide) rfl ?_
  obtain ⟨q18, e19, hf⟩ := ro_bd hf
  refine ro_sub (L' := [(0, .ref (ro_ad (kG K) 1)), (1, .ref (ro_ad (kG K) 62)), (2, .int 0)]) [1, 2, 0] rfl ?_
  refine lp_X9_growMould_13 hK hR  e19 ?_
  show ro_X K 80 [] [] q18
  obtain rfl := Option.some.inj hf
  exact ro_vret hK hR dX9_growMould_80 hq
theorem mt_X9_growMould (l : Launch) (G : ro_G)   {μ : ro_Mem} {out : ro_Mem} (hf : fn_X9_growMould μ = some out) : ro_MX l G yX9_growMould cX9_growMould 3 none 3 [.ref (ro_ad G 1), .ref (ro_ad G 62)] μ none out := by
  refine ro_MX.of (by decide +kernel) (Nat.le_of_ble_eq_true rfl) (fun K hG hl hq hK hR => ?_)
  subst hG
  exact be_X9_growMould hK hR  hf hq
-- ===== X9_addShifted =====
theorem dX9_addShifted_0 : decode cX9_addShifted 0 = .ok (.aload_n 0, 1) := by decide +kernel
theorem dX9_addShifted_1 : decode cX9_addShifted 1 = .ok (.getfield 21, 3) := by decide +kernel
theorem dX9_addShifted_4 : decode cX9_addShifted 4 = .ok (.getfield 64, 3) := by decide +kernel
theorem dX9_addShifted_7 : decode cX9_addShifted 7 = .ok (.iload_n 2, 1) := by decide +kernel
theorem dX9_addShifted_8 : decode cX9_addShifted 8 = .ok (.iaload, 1) := by decide +kernel
theorem dX9_addShifted_9 : decode cX9_addShifted 9 = .ok (.istore 5, 2) := by decide +kernel
theorem dX9_addShifted_11 : decode cX9_addShifted 11 = .ok (.aload_n 0, 1) := by decide +kernel
theorem dX9_addShifted_12 : decode cX9_addShifted 12 = .ok (.getfield 12, 3) := by decide +kernel
theorem dX9_addShifted_15 : decode cX9_addShifted 15 = .ok (.getfield 114, 3) := by decide +kernel
theorem dX9_addShifted_18 : decode cX9_addShifted 18 = .ok (.iload 5, 2) := by decide +kernel
theorem dX9_addShifted_20 : decode cX9_addShifted 20 = .ok (.bipush 10, 2) := by decide +kernel
theorem dX9_addShifted_22 : decode cX9_addShifted 22 = .ok (.imul, 1) := by decide +kernel
theorem dX9_addShifted_23 : decode cX9_addShifted 23 = .ok (.iload_n 1, 1) := by decide +kernel
theorem dX9_addShifted_24 : decode cX9_addShifted 24 = .ok (.iadd, 1) := by decide +kernel
theorem dX9_addShifted_25 : decode cX9_addShifted 25 = .ok (.iaload, 1) := by decide +kernel
theorem dX9_addShifted_26 : decode cX9_addShifted 26 = .ok (.istore 6, 2) := by decide +kernel
theorem dX9_addShifted_28 : decode cX9_addShifted 28 = .ok (.iload 5, 2) := by decide +kernel
theorem dX9_addShifted_30 : decode cX9_addShifted 30 = .ok (.iconst 1, 1) := by decide +kernel
theorem dX9_addShifted_31 : decode cX9_addShifted 31 = .ok (.iadd, 1) := by decide +kernel
theorem dX9_addShifted_32 : decode cX9_addShifted 32 = .ok (.iconst 4, 1) := by decide +kernel
theorem dX9_addShifted_33 : decode cX9_addShifted 33 = .ok (.if_icmp .ge 23, 3) := by decide +kernel
theorem dX9_addShifted_36 : decode cX9_addShifted 36 = .ok (.aload_n 0, 1) := by decide +kernel
theorem dX9_addShifted_37 : decode cX9_addShifted 37 = .ok (.getfield 12, 3) := by decide +kernel
theorem dX9_addShifted_40 : decode cX9_addShifted 40 = .ok (.getfield 114, 3) := by decide +kernel
theorem dX9_addShifted_43 : decode cX9_addShifted 43 = .ok (.iload 5, 2) := by decide +kernel
theorem dX9_addShifted_45 : decode cX9_addShifted 45 = .ok (.iconst 1, 1) := by decide +kernel
theorem dX9_addShifted_46 : decode cX9_addShifted 46 = .ok (.iadd, 1) := by decide +kernel
theorem dX9_addShifted_47 : decode cX9_addShifted 47 = .ok (.bipush 10, 2) := by decide +kernel
theorem dX9_addShifted_49 : decode cX9_addShifted 49 = .ok (.imul, 1) := by decide +kernel
theorem dX9_addShifted_50 : decode cX9_addShifted 50 = .ok (.iload_n 1, 1) := by decide +kernel
theorem dX9_addShifted_51 : decode cX9_addShifted 51 = .ok (.iadd, 1) := by decide +kernel
theorem dX9_addShifted_52 : decode cX9_addShifted 52 = .ok (.iaload, 1) := by decide +kernel
theorem dX9_addShifted_53 : decode cX9_addShifted 53 = .ok (.goto 6, 3) := by decide +kernel
theorem dX9_addShifted_56 : decode cX9_addShifted 56 = .ok (.sipush 255, 3) := by decide +kernel
theorem dX9_addShifted_59 : decode cX9_addShifted 59 = .ok (.istore 7, 2) := by decide +kernel
theorem dX9_addShifted_61 : decode cX9_addShifted 61 = .ok (.aload_n 0, 1) := by decide +kernel
theorem dX9_addShifted_62 : decode cX9_addShifted 62 = .ok (.getfield 12, 3) := by decide +kernel
theorem dX9_addShifted_65 : decode cX9_addShifted 65 = .ok (.getfield 71, 3) := by decide +kernel
theorem dX9_addShifted_68 : decode cX9_addShifted 68 = .ok (.iload_n 3, 1) := by decide +kernel
theorem dX9_addShifted_69 : decode cX9_addShifted 69 = .ok (.iaload, 1) := by decide +kernel
theorem dX9_addShifted_70 : decode cX9_addShifted 70 = .ok (.istore 8, 2) := by decide +kernel
theorem dX9_addShifted_72 : decode cX9_addShifted 72 = .ok (.aload_n 0, 1) := by decide +kernel
theorem dX9_addShifted_73 : decode cX9_addShifted 73 = .ok (.getfield 12, 3) := by decide +kernel
theorem dX9_addShifted_76 : decode cX9_addShifted 76 = .ok (.iload 8, 2) := by decide +kernel
theorem dX9_addShifted_78 : decode cX9_addShifted 78 = .ok (.iload 6, 2) := by decide +kernel
theorem dX9_addShifted_80 : decode cX9_addShifted 80 = .ok (.iconst 3, 1) := by decide +kernel
theorem dX9_addShifted_81 : decode cX9_addShifted 81 = .ok (.invokevirtual 123, 3) := by decide +kernel
theorem dX9_addShifted_84 : decode cX9_addShifted 84 = .ok (.ifCond .ne 19, 3) := by decide +kernel
theorem dX9_addShifted_87 : decode cX9_addShifted 87 = .ok (.aload_n 0, 1) := by decide +kernel
theorem dX9_addShifted_88 : decode cX9_addShifted 88 = .ok (.getfield 12, 3) := by decide +kernel
theorem dX9_addShifted_91 : decode cX9_addShifted 91 = .ok (.iload 8, 2) := by decide +kernel
theorem dX9_addShifted_93 : decode cX9_addShifted 93 = .ok (.iload 7, 2) := by decide +kernel
theorem dX9_addShifted_95 : decode cX9_addShifted 95 = .ok (.iconst 3, 1) := by decide +kernel
theorem dX9_addShifted_96 : decode cX9_addShifted 96 = .ok (.invokevirtual 123, 3) := by decide +kernel
theorem dX9_addShifted_99 : decode cX9_addShifted 99 = .ok (.ifCond .ne 4, 3) := by decide +kernel
theorem dX9_addShifted_102 : decode cX9_addShifted 102 = .ok (.return_, 1) := by decide +kernel
theorem dX9_addShifted_103 : decode cX9_addShifted 103 = .ok (.aload_n 0, 1) := by decide +kernel
theorem dX9_addShifted_104 : decode cX9_addShifted 104 = .ok (.iload_n 2, 1) := by decide +kernel
theorem dX9_addShifted_105 : decode cX9_addShifted 105 = .ok (.iload_n 3, 1) := by decide +kernel
theorem dX9_addShifted_106 : decode cX9_addShifted 106 = .ok (.iload 4, 2) := by decide +kernel
theorem dX9_addShifted_108 : decode cX9_addShifted 108 = .ok (.invokevirtual 127, 3) := by decide +kernel
theorem dX9_addShifted_111 : decode cX9_addShifted 111 = .ok (.istore 9, 2) := by decide +kernel
theorem dX9_addShifted_113 : decode cX9_addShifted 113 = .ok (.iload 9, 2) := by decide +kernel
theorem dX9_addShifted_115 : decode cX9_addShifted 115 = .ok (.ifCond .ne 4, 3) := by decide +kernel
theorem dX9_addShifted_118 : decode cX9_addShifted 118 = .ok (.return_, 1) := by decide +kernel
theorem dX9_addShifted_119 : decode cX9_addShifted 119 = .ok (.aload_n 0, 1) := by decide +kernel
theorem dX9_addShifted_120 : decode cX9_addShifted 120 = .ok (.invokevirtual 130, 3) := by decide +kernel
theorem dX9_addShifted_123 : decode cX9_addShifted 123 = .ok (.ifCond .ne 29, 3) := by decide +kernel
theorem dX9_addShifted_126 : decode cX9_addShifted 126 = .ok (.aload_n 0, 1) := by decide +kernel
theorem dX9_addShifted_127 : decode cX9_addShifted 127 = .ok (.getfield 32, 3) := by decide +kernel
theorem dX9_addShifted_130 : decode cX9_addShifted 130 = .ok (.iload 5, 2) := by decide +kernel
theorem dX9_addShifted_132 : decode cX9_addShifted 132 = .ok (.dup2, 1) := by decide +kernel
theorem dX9_addShifted_133 : decode cX9_addShifted 133 = .ok (.iaload, 1) := by decide +kernel
theorem dX9_addShifted_134 : decode cX9_addShifted 134 = .ok (.aload_n 0, 1) := by decide +kernel
theorem dX9_addShifted_135 : decode cX9_addShifted 135 = .ok (.getfield 12, 3) := by decide +kernel
theorem dX9_addShifted_138 : decode cX9_addShifted 138 = .ok (.iload 8, 2) := by decide +kernel
theorem dX9_addShifted_140 : decode cX9_addShifted 140 = .ok (.iload 6, 2) := by decide +kernel
theorem dX9_addShifted_142 : decode cX9_addShifted 142 = .ok (.iload 9, 2) := by decide +kernel
theorem dX9_addShifted_144 : decode cX9_addShifted 144 = .ok (.invokevirtual 123, 3) := by decide +kernel
theorem dX9_addShifted_147 : decode cX9_addShifted 147 = .ok (.iadd, 1) := by decide +kernel
theorem dX9_addShifted_148 : decode cX9_addShifted 148 = .ok (.iastore, 1) := by decide +kernel
theorem dX9_addShifted_149 : decode cX9_addShifted 149 = .ok (.goto 36, 3) := by decide +kernel
theorem dX9_addShifted_152 : decode cX9_addShifted 152 = .ok (.iload 5, 2) := by decide +kernel
theorem dX9_addShifted_154 : decode cX9_addShifted 154 = .ok (.iconst 1, 1) := by decide +kernel
theorem dX9_addShifted_155 : decode cX9_addShifted 155 = .ok (.iadd, 1) := by decide +kernel
theorem dX9_addShifted_156 : decode cX9_addShifted 156 = .ok (.iconst 4, 1) := by decide +kernel
theorem dX9_addShifted_157 : decode cX9_addShifted 157 = .ok (.if_icmp .ge 28, 3) := by decide +kernel
theorem dX9_addShifted_160 : decode cX9_addShifted 160 = .ok (.aload_n 0, 1) := by decide +kernel
theorem dX9_addShifted_161 : decode cX9_addShifted 161 = .ok (.getfield 32, 3) := by decide +kernel
theorem dX9_addShifted_164 : decode cX9_addShifted 164 = .ok (.iload 5, 2) := by decide +kernel
theorem dX9_addShifted_166 : decode cX9_addShifted 166 = .ok (.iconst 1, 1) := by decide +kernel
theorem dX9_addShifted_167 : decode cX9_addShifted 167 = .ok (.iadd, 1) := by decide +kernel
theorem dX9_addShifted_168 : decode cX9_addShifted 168 = .ok (.dup2, 1) := by decide +kernel
theorem dX9_addShifted_169 : decode cX9_addShifted 169 = .ok (.iaload, 1) := by decide +kernel
theorem dX9_addShifted_170 : decode cX9_addShifted 170 = .ok (.aload_n 0, 1) := by decide +kernel
theorem dX9_addShifted_171 : decode cX9_addShifted 171 = .ok (.getfield 12, 3) := by decide +kernel
theorem dX9_addShifted_174 : decode cX9_addShifted 174 = .ok (.iload 8, 2) := by decide +kernel
theorem dX9_addShifted_176 : decode cX9_addShifted 176 = .ok (.iload 7, 2) := by decide +kernel
theorem dX9_addShifted_178 : decode cX9_addShifted 178 = .ok (.iload 9, 2) := by decide +kernel
theorem dX9_addShifted_180 : decode cX9_addShifted 180 = .ok (.invokevirtual 123, 3) := by decide +kernel
theorem dX9_addShifted_183 : decode cX9_addShifted 183 = .ok (.iadd, 1) := by decide +kernel
theorem dX9_addShifted_184 : decode cX9_addShifted 184 = .ok (.iastore, 1) := by decide +kernel
theorem dX9_addShifted_185 : decode cX9_addShifted 185 = .ok (.return_, 1) := by decide +kernel
def fj_X9_addShifted_103 (v2 : Int32) (v3 : Int32) (v4 : Int32) (v5 : Int32) (v6 : Int32) (v7 : Int32) (v8 : Int32) (μ : ro_Mem) : Option ro_Mem :=
  (fn_X9_dropsThrough v2 v3 v4 μ).bind fun q15 =>
  if q15.1 = 0 then
  (some q15.2)
  else
  ((fn_X9_isSnow q15.2).bind fun q18 =>
  if q18.1 = 0 then
  (if ro_in v5 4 then
  ((fn_X1_share 2 v8 v6 q15.1 q18.2).bind fun q28 =>
  ro_lt (ro_set q18.2 30 v5.toNatClampNeg ((q18.2 30 v5.toNatClampNeg) + q28)) fun m30 =>
  some m30) else none)
  else
  (if 4 ≤ (v5 + 1) then
  (some q18.2)
  else
  (if ro_in (v5 + 1) 4 then
  ((fn_X1_share 2 v8 v7 q15.1 q18.2).bind fun q23 =>
  ro_lt (ro_set q18.2 30 (v5 + 1).toNatClampNeg ((q18.2 30 (v5 + 1).toNatClampNeg) + q23)) fun m25 =>
  some m25) else none)))
theorem bj_X9_addShifted_103 {K : ro_K} (hK : ro_C K RX9 cX9_addShifted 10 4) (hR : ro_R K none) {v2 : Int32} {v3 : Int32} {v4 : Int32} {v5 : Int32} {v6 : Int32} {v7 : Int32} {v8 : Int32}   {μ : ro_Mem}  {out : ro_Mem} (hf : fj_X9_addShifted_103 v2 v3 v4 v5 v6 v7 v8 μ = some out) (hq : kQ K none out) : ro_X K 103 [(0, .ref (ro_ad (kG K) 1)), (2, .int v2), (3, .int v3), (4, .int v4), (5, .int v5), (6, .int v6), (7, .int v7), (8, .int v8)] [] μ := by
  unfold fj_X9_addShifted_103 at hf
  refine ro_aload_n hK 0 rfl dX9_addShifted_103 rfl ?_
  refine ro_iload_n hK 1 rfl dX9_addShifted_104 rfl ?_
  refine ro_iload_n hK 2 rfl dX9_addShifted_105 rfl ?_
  refine ro_iload hK 3 rfl dX9_addShifted_106 ?_
  obtain ⟨q15, e16, hf⟩ := ro_bd hf
  refine ro_callvi hK [.int v2, .int v3, .int v4] ml_X9_127 mv_X9_dropsThrough (mt_X9_dropsThrough (kl K) (kG K)  e16) sh_1 ⟨_, rfl, rfl⟩ (by decide) rfl rfl (Nat.le_of_ble_eq_true rfl) dX9_addShifted_108 ?_
  refine ro_istore (L' := [(9, .int q15.1), (0, .ref (ro_ad (kG K) 1)), (2, .int v2), (3, .int v3), (4, .int v4), (5, .int v5), (6, .int v6), (7, .int v7), (8, .int v8)]) hK dX9_addShifted_111 (by decide) rfl ?_
  refine ro_iload hK 0 rfl dX9_addShifted_113 ?_
  refine ro_if_ne hK 119 dX9_addShifted_115 (by decide) (fun c17 => ?_) (fun c17 => ?_)
  · have hf := ro_ie hf c17
    refine ro_aload_n hK 1 rfl dX9_addShifted_119 rfl ?_
    obtain ⟨q18, e19, hf⟩ := ro_bd hf
    refine ro_callvi hK [] ml_X9_130 mv_X9_isSnow (mt_X9_isSnow (kl K) (kG K)  e19) sh_1 ⟨_, rfl, rfl⟩ (by decide) rfl rfl (Nat.le_of_ble_eq_true rfl) dX9_addShifted_120 ?_
    refine ro_if_ne hK 152 dX9_addShifted_123 (by decide) (fun c20 => ?_) (fun c20 => ?_)
    · have hf := ro_ie hf c20
      refine ro_iload hK 5 rfl dX9_addShifted_152 ?_
      refine ro_iconst (v := 1) hK dX9_addShifted_154 (by decide) ?_
      refine ro_iadd hK dX9_addShifted_155 ?_
      refine ro_iconst (v := 4) hK dX9_addShifted_156 (by decide) ?_
      refine ro_icmp_ge hK 185 dX9_addShifted_157 (by decide) (fun c21 => ?_) (fun c21 => ?_)
      · have hf := ro_it hf c21
        obtain rfl := Option.some.inj hf
        exact ro_vret hK hR dX9_addShifted_185 hq
      · have hf := ro_ie hf c21
        refine ro_aload_n hK 1 rfl dX9_addShifted_160 rfl ?_
        refine ro_getr hK fl_X9_32 sh_1 dX9_addShifted_161 ?_
        refine ro_iload hK 5 rfl dX9_addShifted_164 ?_
        refine ro_iconst (v := 1) hK dX9_addShifted_166 (by decide) ?_
        refine ro_iadd hK dX9_addShifted_167 ?_
        refine ro_dup2 hK dX9_addShifted_168 rfl rfl ?_
        obtain ⟨g22, hf⟩ := ro_gd hf
        refine ro_iald hK sh_30 g22 dX9_addShifted_169 ?_
        refine ro_aload_n hK 1 rfl dX9_addShifted_170 rfl ?_
        refine ro_getr hK fl_X9_12 sh_1 dX9_addShifted_171 ?_
        refine ro_iload hK 8 rfl dX9_addShifted_174 ?_
        refine ro_iload hK 7 rfl dX9_addShifted_176 ?_
        refine ro_iload hK 0 rfl dX9_addShifted_178 ?_
        obtain ⟨q23, e24, hf⟩ := ro_bd hf
        refine ro_callvi hK [.int v8, .int v7, .int q15.1] ml_X9_123 mv_X1_share (mt_X1_share (kl K) (kG K) sh_2 e24) sh_2 ⟨_, rfl, rfl⟩ (by decide) rfl rfl (Nat.le_of_ble_eq_true rfl) dX9_addShifted_180 ?_
        refine ro_iadd hK dX9_addShifted_183 ?_
        obtain ⟨m25, e26, hf⟩ := ro_ld hf
        refine ro_iast hK sh_30 g22 dX9_addShifted_184 ?_
        refine ro_mv e26 ?_
        obtain rfl := Option.some.inj hf
        exact ro_vret hK hR dX9_addShifted_185 hq
    · have hf := ro_it hf c20
      refine ro_aload_n hK 1 rfl dX9_addShifted_126 rfl ?_
      refine ro_getr hK fl_X9_32 sh_1 dX9_addShifted_127 ?_
      refine ro_iload hK 5 rfl dX9_addShifted_130 ?_
      refine ro_dup2 hK dX9_addShifted_132 rfl rfl ?_
      obtain ⟨g27, hf⟩ := ro_gd hf
      refine ro_iald hK sh_30 g27 dX9_addShifted_133 ?_
      refine ro_aload_n hK 1 rfl dX9_addShifted_134 rfl ?_
      refine ro_getr hK fl_X9_12 sh_1 dX9_addShifted_135 ?_
      refine ro_iload hK 8 rfl dX9_addShifted_138 ?_
      refine ro_iload hK 6 rfl dX9_addShifted_140 ?_
      refine ro_iload hK 0 rfl dX9_addShifted_142 ?_
      obtain ⟨q28, e29, hf⟩ := ro_bd hf
      refine ro_callvi hK [.int v8, .int v6, .int q15.1] ml_X9_123 mv_X1_share (mt_X1_share (kl K) (kG K) sh_2 e29) sh_2 ⟨_, rfl, rfl⟩ (by decide) rfl rfl (Nat.le_of_ble_eq_true rfl) dX9_addShifted_144 ?_
      refine ro_iadd hK dX9_addShifted_147 ?_
      obtain ⟨m30, e31, hf⟩ := ro_ld hf
      refine ro_iast hK sh_30 g27 dX9_addShifted_148 ?_
      refine ro_mv e31 ?_
      refine ro_goto hK 185 dX9_addShifted_149 (by decide) ?_
      obtain rfl := Option.some.inj hf
      exact ro_vret hK hR dX9_addShifted_185 hq
  · have hf := ro_it hf c17
    obtain rfl := Option.some.inj hf
    exact ro_vret hK hR dX9_addShifted_118 hq
def fj_X9_addShifted_59 (v2 : Int32) (v3 : Int32) (v4 : Int32) (v5 : Int32) (v6 : Int32) (t0 : Int32) (μ : ro_Mem) : Option ro_Mem :=
  if ro_in v3 16 then
  (ro_lt (μ 6 v3.toNatClampNeg) fun z10 =>
  (fn_X1_share 2 z10 v6 3 μ).bind fun q12 =>
  if q12 = 0 then
  ((fn_X1_share 2 z10 t0 3 μ).bind fun q32 =>
  if q32 = 0 then
  (some μ)
  else
  (fj_X9_addShifted_103 v2 v3 v4 v5 v6 t0 z10 μ))
  else
  (fj_X9_addShifted_103 v2 v3 v4 v5 v6 t0 z10 μ)) else none
theorem bj_X9_addShifted_59 {K : ro_K} (hK : ro_C K RX9 cX9_addShifted 10 4) (hR : ro_R K none) {v2 : Int32} {v3 : Int32} {v4 : Int32} {v5 : Int32} {v6 : Int32} {t0 : Int32}   {μ : ro_Mem}  {out : ro_Mem} (hf : fj_X9_addShifted_59 v2 v3 v4 v5 v6 t0 μ = some out) (hq : kQ K none out) : ro_X K 59 [(0, .ref (ro_ad (kG K) 1)), (2, .int v2), (3, .int v3), (4, .int v4), (5, .int v5), (6, .int v6)] [.int t0] μ := by
  unfold fj_X9_addShifted_59 at hf
  refine ro_istore (L' := [(7, .int t0), (0, .ref (ro_ad (kG K) 1)), (2, .int v2), (3, .int v3), (4, .int v4), (5, .int v5), (6, .int v6)]) hK dX9_addShifted_59 (by decide) rfl ?_
  refine ro_aload_n hK 1 rfl dX9_addShifted_61 rfl ?_
  refine ro_getr hK fl_X9_12 sh_1 dX9_addShifted_62 ?_
  refine ro_getr hK fl_X9_71 sh_2 dX9_addShifted_65 ?_
  refine ro_iload_n hK 3 rfl dX9_addShifted_68 rfl ?_
  obtain ⟨g9, hf⟩ := ro_gd hf
  refine ro_iald hK sh_6 g9 dX9_addShifted_69 ?_
  obtain ⟨z10, e11, hf⟩ := ro_ld hf
  refine ro_iv e11 ?_
  refine ro_istore (L' := [(8, .int z10), (7, .int t0), (0, .ref (ro_ad (kG K) 1)), (2, .int v2), (3, .int v3), (4, .int v4), (5, .int v5), (6, .int v6)]) hK dX9_addShifted_70 (by decide) rfl ?_
  refine ro_aload_n hK 2 rfl dX9_addShifted_72 rfl ?_
  refine ro_getr hK fl_X9_12 sh_1 dX9_addShifted_73 ?_
  refine ro_iload hK 0 rfl dX9_addShifted_76 ?_
  refine ro_iload hK 7 rfl dX9_addShifted_78 ?_
  refine ro_iconst (v := 3) hK dX9_addShifted_80 (by decide) ?_
  obtain ⟨q12, e13, hf⟩ := ro_bd hf
  refine ro_callvi hK [.int z10, .int v6, .int 3] ml_X9_123 mv_X1_share (mt_X1_share (kl K) (kG K) sh_2 e13) sh_2 ⟨_, rfl, rfl⟩ (by decide) rfl rfl (Nat.le_of_ble_eq_true rfl) dX9_addShifted_81 ?_
  refine ro_if_ne hK 103 dX9_addShifted_84 (by decide) (fun c14 => ?_) (fun c14 => ?_)
  · have hf := ro_ie hf c14
    refine ro_sub (L' := [(0, .ref (ro_ad (kG K) 1)), (2, .int v2), (3, .int v3), (4, .int v4), (5, .int v5), (6, .int v6), (7, .int t0), (8, .int z10)]) [2, 3, 4, 5, 6, 7, 1, 0] rfl ?_
    exact bj_X9_addShifted_103 hK hR  hf hq
  · have hf := ro_it hf c14
    refine ro_aload_n hK 2 rfl dX9_addShifted_87 rfl ?_
    refine ro_getr hK fl_X9_12 sh_1 dX9_addShifted_88 ?_
    refine ro_iload hK 0 rfl dX9_addShifted_91 ?_
    refine ro_iload hK 1 rfl dX9_addShifted_93 ?_
    refine ro_iconst (v := 3) hK dX9_addShifted_95 (by decide) ?_
    obtain ⟨q32, e33, hf⟩ := ro_bd hf
    refine ro_callvi hK [.int z10, .int t0, .int 3] ml_X9_123 mv_X1_share (mt_X1_share (kl K) (kG K) sh_2 e33) sh_2 ⟨_, rfl, rfl⟩ (by decide) rfl rfl (Nat.le_of_ble_eq_true rfl) dX9_addShifted_96 ?_
    refine ro_if_ne hK 103 dX9_addShifted_99 (by decide) (fun c34 => ?_) (fun c34 => ?_)
    · have hf := ro_ie hf c34
      refine ro_sub (L' := [(0, .ref (ro_ad (kG K) 1)), (2, .int v2), (3, .int v3), (4, .int v4), (5, .int v5), (6, .int v6), (7, .int t0), (8, .int z10)]) [2, 3, 4, 5, 6, 7, 1, 0] rfl ?_
      exact bj_X9_addShifted_103 hK hR  hf hq
    · have hf := ro_it hf c34
      obtain rfl := Option.some.inj hf
      exact ro_vret hK hR dX9_addShifted_102 hq
def fn_X9_addShifted (v1 : Int32) (v2 : Int32) (v3 : Int32) (v4 : Int32) (μ : ro_Mem) : Option ro_Mem :=
  if ro_sh (ro_rf μ 1 1) = (0, 5) then
  (if ro_in v2 32 then
  (ro_lt (μ ((ro_rf μ 1 1) + 5) v2.toNatClampNeg) fun z3 =>
  if ro_in ((z3 * 10) + v1) 40 then
  (ro_lt (μ 11 ((z3 * 10) + v1).toNatClampNeg) fun z6 =>
  if 4 ≤ (z3 + 1) then
  (fj_X9_addShifted_59 v2 v3 v4 z3 z6 255 μ)
  else
  (if ro_in (((z3 + 1) * 10) + v1) 40 then
  (fj_X9_addShifted_59 v2 v3 v4 z3 z6 (μ 11 (((z3 + 1) * 10) + v1).toNatClampNeg) μ) else none)) else none) else none) else none
theorem be_X9_addShifted {K : ro_K} (hK : ro_C K RX9 cX9_addShifted 10 4) (hR : ro_R K none) {v1 : Int32} {v2 : Int32} {v3 : Int32} {v4 : Int32}  {μ : ro_Mem} {out : ro_Mem} (hf : fn_X9_addShifted v1 v2 v3 v4 μ = some out) (hq : kQ K none out) : ro_X K 0 [(0, .ref (ro_ad (kG K) 1)), (1, .int v1), (2, .int v2), (3, .int v3), (4, .int v4)] [] μ := by
  unfold fn_X9_addShifted at hf
  refine ro_aload_n hK 0 rfl dX9_addShifted_0 rfl ?_
  obtain ⟨g1, hf⟩ := ro_gd hf
  refine ro_getm hK fl_X9_21 sh_1 dX9_addShifted_1 ?_
  refine ro_getr hK fl_X9_64 g1 dX9_addShifted_4 ?_
  refine ro_iload_n hK 2 rfl dX9_addShifted_7 rfl ?_
  obtain ⟨g2, hf⟩ := ro_gd hf
  refine ro_iald hK (so_5_5 g1) g2 dX9_addShifted_8 ?_
  obtain ⟨z3, e4, hf⟩ := ro_ld hf
  refine ro_iv e4 ?_
  refine ro_istore (L' := [(5, .int z3), (0, .ref (ro_ad (kG K) 1)), (1, .int v1), (2, .int v2), (3, .int v3), (4, .int v4)]) hK dX9_addShifted_9 (by decide) rfl ?_
  refine ro_aload_n hK 1 rfl dX9_addShifted_11 rfl ?_
  refine ro_getr hK fl_X9_12 sh_1 dX9_addShifted_12 ?_
  refine ro_getr hK fl_X9_114 sh_2 dX9_addShifted_15 ?_
  refine ro_iload hK 0 rfl dX9_addShifted_18 ?_
  refine ro_bipush (v := 10) hK dX9_addShifted_20 (by decide) ?_
  refine ro_imul hK dX9_addShifted_22 ?_
  refine ro_iload_n hK 2 rfl dX9_addShifted_23 rfl ?_
  refine ro_iadd hK dX9_addShifted_24 ?_
  obtain ⟨g5, hf⟩ := ro_gd hf
  refine ro_iald hK sh_11 g5 dX9_addShifted_25 ?_
  obtain ⟨z6, e7, hf⟩ := ro_ld hf
  refine ro_iv e7 ?_
  refine ro_istore (L' := [(6, .int z6), (5, .int z3), (0, .ref (ro_ad (kG K) 1)), (1, .int v1), (2, .int v2), (3, .int v3), (4, .int v4)]) hK dX9_addShifted_26 (by decide) rfl ?_
  refine ro_iload hK 1 rfl dX9_addShifted_28 ?_
  refine ro_iconst (v := 1) hK dX9_addShifted_30 (by decide) ?_
  refine ro_iadd hK dX9_addShifted_31 ?_
  refine ro_iconst (v := 4) hK dX9_addShifted_32 (by decide) ?_
  refine ro_icmp_ge hK 56 dX9_addShifted_33 (by decide) (fun c8 => ?_) (fun c8 => ?_)
  · have hf := ro_it hf c8
    refine ro_sipush (v := 255) hK dX9_addShifted_56 (by decide) ?_
    refine ro_sub (L' := [(0, .ref (ro_ad (kG K) 1)), (2, .int v2), (3, .int v3), (4, .int v4), (5, .int z3), (6, .int z6)]) [2, 4, 5, 6, 1, 0] rfl ?_
    exact bj_X9_addShifted_59 hK hR  hf hq
  · have hf := ro_ie hf c8
    refine ro_aload_n hK 2 rfl dX9_addShifted_36 rfl ?_
    refine ro_getr hK fl_X9_12 sh_1 dX9_addShifted_37 ?_
    refine ro_getr hK fl_X9_114 sh_2 dX9_addShifted_40 ?_
    refine ro_iload hK 1 rfl dX9_addShifted_43 ?_
    refine ro_iconst (v := 1) hK dX9_addShifted_45 (by decide) ?_
    refine ro_iadd hK dX9_addShifted_46 ?_
    refine ro_bipush (v := 10) hK dX9_addShifted_47 (by decide) ?_
    refine ro_imul hK dX9_addShifted_49 ?_
    refine ro_iload_n hK 3 rfl dX9_addShifted_50 rfl ?_
    refine ro_iadd hK dX9_addShifted_51 ?_
    obtain ⟨g35, hf⟩ := ro_gd hf
    refine ro_iald hK sh_11 g35 dX9_addShifted_52 ?_
    refine ro_goto hK 59 dX9_addShifted_53 (by decide) ?_
    refine ro_sub (L' := [(0, .ref (ro_ad (kG K) 1)), (2, .int v2), (3, .int v3), (4, .int v4), (5, .int z3), (6, .int z6)]) [2, 4, 5, 6, 1, 0] rfl ?_
    exact bj_X9_addShifted_59 hK hR  hf hq
theorem mt_X9_addShifted (l : Launch) (G : ro_G) {v1 : Int32} {v2 : Int32} {v3 : Int32} {v4 : Int32}  {μ : ro_Mem} {out : ro_Mem} (hf : fn_X9_addShifted v1 v2 v3 v4 μ = some out) : ro_MX l G yX9_addShifted cX9_addShifted 10 none 4 [.ref (ro_ad G 1), .int v1, .int v2, .int v3, .int v4] μ none out := by
  refine ro_MX.of (by decide +kernel) (Nat.le_of_ble_eq_true rfl) (fun K hG hl hq hK hR => ?_)
  subst hG
  exact be_X9_addShifted hK hR  hf hq
-- ===== X9_shiftedWet =====
theorem dX9_shiftedWet_0 : decode cX9_shiftedWet 0 = .ok (.aload_n 0, 1) := by decide +kernel
theorem dX9_shiftedWet_1 : decode cX9_shiftedWet 1 = .ok (.getfield 32, 3) := by decide +kernel
theorem dX9_shiftedWet_4 : decode cX9_shiftedWet 4 = .ok (.iconst 0, 1) := by decide +kernel
theorem dX9_shiftedWet_5 : decode cX9_shiftedWet 5 = .ok (.invokestatic 84, 3) := by decide +kernel
theorem dX9_shiftedWet_8 : decode cX9_shiftedWet 8 = .ok (.iconst 0, 1) := by decide +kernel
theorem dX9_shiftedWet_9 : decode cX9_shiftedWet 9 = .ok (.istore_n 3, 1) := by decide +kernel
theorem dX9_shiftedWet_10 : decode cX9_shiftedWet 10 = .ok (.iload_n 3, 1) := by decide +kernel
theorem dX9_shiftedWet_11 : decode cX9_shiftedWet 11 = .ok (.aload_n 0, 1) := by decide +kernel
theorem dX9_shiftedWet_12 : decode cX9_shiftedWet 12 = .ok (.getfield 21, 3) := by decide +kernel
theorem dX9_shiftedWet_15 : decode cX9_shiftedWet 15 = .ok (.getfield 106, 3) := by decide +kernel
theorem dX9_shiftedWet_18 : decode cX9_shiftedWet 18 = .ok (.if_icmp .ge 34, 3) := by decide +kernel
theorem dX9_shiftedWet_21 : decode cX9_shiftedWet 21 = .ok (.iconst 0, 1) := by decide +kernel
theorem dX9_shiftedWet_22 : decode cX9_shiftedWet 22 = .ok (.istore 4, 2) := by decide +kernel
theorem dX9_shiftedWet_24 : decode cX9_shiftedWet 24 = .ok (.iload 4, 2) := by decide +kernel
theorem dX9_shiftedWet_26 : decode cX9_shiftedWet 26 = .ok (.bipush 16, 2) := by decide +kernel
theorem dX9_shiftedWet_28 : decode cX9_shiftedWet 28 = .ok (.if_icmp .ge 18, 3) := by decide +kernel
theorem dX9_shiftedWet_31 : decode cX9_shiftedWet 31 = .ok (.aload_n 0, 1) := by decide +kernel
theorem dX9_shiftedWet_32 : decode cX9_shiftedWet 32 = .ok (.iload_n 1, 1) := by decide +kernel
theorem dX9_shiftedWet_33 : decode cX9_shiftedWet 33 = .ok (.iload_n 3, 1) := by decide +kernel
theorem dX9_shiftedWet_34 : decode cX9_shiftedWet 34 = .ok (.iload 4, 2) := by decide +kernel
theorem dX9_shiftedWet_36 : decode cX9_shiftedWet 36 = .ok (.iload_n 2, 1) := by decide +kernel
theorem dX9_shiftedWet_37 : decode cX9_shiftedWet 37 = .ok (.invokevirtual 110, 3) := by decide +kernel
theorem dX9_shiftedWet_40 : decode cX9_shiftedWet 40 = .ok (.iinc 4 1, 3) := by decide +kernel
theorem dX9_shiftedWet_43 : decode cX9_shiftedWet 43 = .ok (.goto (-19), 3) := by decide +kernel
theorem dX9_shiftedWet_46 : decode cX9_shiftedWet 46 = .ok (.iinc 3 1, 3) := by decide +kernel
theorem dX9_shiftedWet_49 : decode cX9_shiftedWet 49 = .ok (.goto (-39), 3) := by decide +kernel
theorem dX9_shiftedWet_52 : decode cX9_shiftedWet 52 = .ok (.iconst 0, 1) := by decide +kernel
theorem dX9_shiftedWet_53 : decode cX9_shiftedWet 53 = .ok (.istore_n 3, 1) := by decide +kernel
theorem dX9_shiftedWet_54 : decode cX9_shiftedWet 54 = .ok (.iconst 0, 1) := by decide +kernel
theorem dX9_shiftedWet_55 : decode cX9_shiftedWet 55 = .ok (.istore 4, 2) := by decide +kernel
theorem dX9_shiftedWet_57 : decode cX9_shiftedWet 57 = .ok (.iload 4, 2) := by decide +kernel
theorem dX9_shiftedWet_59 : decode cX9_shiftedWet 59 = .ok (.iconst 4, 1) := by decide +kernel
theorem dX9_shiftedWet_60 : decode cX9_shiftedWet 60 = .ok (.if_icmp .ge 62, 3) := by decide +kernel
theorem dX9_shiftedWet_63 : decode cX9_shiftedWet 63 = .ok (.aload_n 0, 1) := by decide +kernel
theorem dX9_shiftedWet_64 : decode cX9_shiftedWet 64 = .ok (.getfield 12, 3) := by decide +kernel
theorem dX9_shiftedWet_67 : decode cX9_shiftedWet 67 = .ok (.getfield 114, 3) := by decide +kernel
theorem dX9_shiftedWet_70 : decode cX9_shiftedWet 70 = .ok (.iload 4, 2) := by decide +kernel
theorem dX9_shiftedWet_72 : decode cX9_shiftedWet 72 = .ok (.bipush 10, 2) := by decide +kernel
theorem dX9_shiftedWet_74 : decode cX9_shiftedWet 74 = .ok (.imul, 1) := by decide +kernel
theorem dX9_shiftedWet_75 : decode cX9_shiftedWet 75 = .ok (.iload_n 1, 1) := by decide +kernel
theorem dX9_shiftedWet_76 : decode cX9_shiftedWet 76 = .ok (.iadd, 1) := by decide +kernel
theorem dX9_shiftedWet_77 : decode cX9_shiftedWet 77 = .ok (.iaload, 1) := by decide +kernel
theorem dX9_shiftedWet_78 : decode cX9_shiftedWet 78 = .ok (.istore 5, 2) := by decide +kernel
theorem dX9_shiftedWet_80 : decode cX9_shiftedWet 80 = .ok (.iload_n 3, 1) := by decide +kernel
theorem dX9_shiftedWet_81 : decode cX9_shiftedWet 81 = .ok (.iload 5, 2) := by decide +kernel
theorem dX9_shiftedWet_83 : decode cX9_shiftedWet 83 = .ok (.bipush 96, 2) := by decide +kernel
theorem dX9_shiftedWet_85 : decode cX9_shiftedWet 85 = .ok (.if_icmp .ge 28, 3) := by decide +kernel
theorem dX9_shiftedWet_88 : decode cX9_shiftedWet 88 = .ok (.iconst 0, 1) := by decide +kernel
theorem dX9_shiftedWet_89 : decode cX9_shiftedWet 89 = .ok (.aload_n 0, 1) := by decide +kernel
theorem dX9_shiftedWet_90 : decode cX9_shiftedWet 90 = .ok (.getfield 32, 3) := by decide +kernel
theorem dX9_shiftedWet_93 : decode cX9_shiftedWet 93 = .ok (.iload 4, 2) := by decide +kernel
theorem dX9_shiftedWet_95 : decode cX9_shiftedWet 95 = .ok (.iaload, 1) := by decide +kernel
theorem dX9_shiftedWet_96 : decode cX9_shiftedWet 96 = .ok (.aload_n 0, 1) := by decide +kernel
theorem dX9_shiftedWet_97 : decode cX9_shiftedWet 97 = .ok (.getfield 12, 3) := by decide +kernel
theorem dX9_shiftedWet_100 : decode cX9_shiftedWet 100 = .ok (.getfield 117, 3) := by decide +kernel
theorem dX9_shiftedWet_103 : decode cX9_shiftedWet 103 = .ok (.iload 5, 2) := by decide +kernel
theorem dX9_shiftedWet_105 : decode cX9_shiftedWet 105 = .ok (.iaload, 1) := by decide +kernel
theorem dX9_shiftedWet_106 : decode cX9_shiftedWet 106 = .ok (.isub, 1) := by decide +kernel
theorem dX9_shiftedWet_107 : decode cX9_shiftedWet 107 = .ok (.invokestatic 120, 3) := by decide +kernel
theorem dX9_shiftedWet_110 : decode cX9_shiftedWet 110 = .ok (.goto 4, 3) := by decide +kernel
theorem dX9_shiftedWet_113 : decode cX9_shiftedWet 113 = .ok (.iconst 0, 1) := by decide +kernel
theorem dX9_shiftedWet_114 : decode cX9_shiftedWet 114 = .ok (.iadd, 1) := by decide +kernel
theorem dX9_shiftedWet_115 : decode cX9_shiftedWet 115 = .ok (.istore_n 3, 1) := by decide +kernel
theorem dX9_shiftedWet_116 : decode cX9_shiftedWet 116 = .ok (.iinc 4 1, 3) := by decide +kernel
theorem dX9_shiftedWet_119 : decode cX9_shiftedWet 119 = .ok (.goto (-62), 3) := by decide +kernel
theorem dX9_shiftedWet_122 : decode cX9_shiftedWet 122 = .ok (.iload_n 3, 1) := by decide +kernel
theorem dX9_shiftedWet_123 : decode cX9_shiftedWet 123 = .ok (.ireturn, 1) := by decide +kernel
def ok_X9_shiftedWet_10 (K : ro_K) (v1 : Int32) (v2 : Int32) : ro_Mem → Prop := fun e => ro_X K 52 [(0, .ref (ro_ad (kG K) 1)), (1, .int v1)] [] e
def ok_X9_shiftedWet_24 (K : ro_K) (v1 : Int32) (v2 : Int32) (v3 : Int32) : ro_Mem → Prop := fun e => ro_X K 46 [(0, .ref (ro_ad (kG K) 1)), (1, .int v1), (2, .int v2), (3, .int v3)] [] e
def fb_X9_shiftedWet_24 (v1 : Int32) (v2 : Int32) (v3 : Int32) (rec : (Int32 × ro_Mem) → Option ro_Mem) (v4 : Int32) (μ : ro_Mem) : Option ro_Mem :=
  if 16 ≤ v4 then
  (some μ)
  else
  ((fn_X9_addShifted v1 v3 v4 v2 μ).bind fun q6 =>
  rec (v4 + 1, q6))
theorem bb_X9_shiftedWet_24 {K : ro_K} (hK : ro_C K RX9 cX9_shiftedWet 6 5) (hR : ro_R K (some .int)) {v1 : Int32} {v2 : Int32} {v3 : Int32}  {μ : ro_Mem} {rec : (Int32 × ro_Mem) → Option ro_Mem} {v4 : Int32} {q : ro_Mem} (hrec : ∀ (s : Int32 × ro_Mem) (q : ro_Mem), rec s = some q → ok_X9_shiftedWet_24 K v1 v2 v3 q → ro_X K 24 [(0, .ref (ro_ad (kG K) 1)), (1, .int v1), (2, .int v2), (3, .int v3), (4, .int s.1)] [] s.2) (hf : fb_X9_shiftedWet_24 v1 v2 v3 rec v4 μ = some q) (hq : ok_X9_shiftedWet_24 K v1 v2 v3 q) : ro_X K 24 [(0, .ref (ro_ad (kG K) 1)), (1, .int v1), (2, .int v2), (3, .int v3), (4, .int v4)] [] μ := by
  unfold fb_X9_shiftedWet_24 at hf
  refine ro_iload hK 4 rfl dX9_shiftedWet_24 ?_
  refine ro_bipush (v := 16) hK dX9_shiftedWet_26 (by decide) ?_
  refine ro_icmp_ge hK 46 dX9_shiftedWet_28 (by decide) (fun c5 => ?_) (fun c5 => ?_)
  · have hf := ro_it hf c5
    refine ro_sub (L' := [(0, .ref (ro_ad (kG K) 1)), (1, .int v1), (2, .int v2), (3, .int v3)]) [0, 1, 2, 3] rfl ?_
    obtain rfl := Option.some.inj hf
    exact hq
  · have hf := ro_ie hf c5
    refine ro_aload_n hK 0 rfl dX9_shiftedWet_31 rfl ?_
    refine ro_iload_n hK 1 rfl dX9_shiftedWet_32 rfl ?_
    refine ro_iload_n hK 3 rfl dX9_shiftedWet_33 rfl ?_
    refine ro_iload hK 4 rfl dX9_shiftedWet_34 ?_
    refine ro_iload_n hK 2 rfl dX9_shiftedWet_36 rfl ?_
    obtain ⟨q6, e7, hf⟩ := ro_bd hf
    refine ro_callvv hK [.int v1, .int v3, .int v4, .int v2] ml_X9_110 mv_X9_addShifted (mt_X9_addShifted (kl K) (kG K)  e7) sh_1 ⟨_, rfl, rfl⟩ (by decide) rfl rfl (Nat.le_of_ble_eq_true rfl) dX9_shiftedWet_37 ?_
    refine ro_iinc (v := v4 + 1) (L' := [(4, .int (v4 + 1)), (0, .ref (ro_ad (kG K) 1)), (1, .int v1), (2, .int v2), (3, .int v3)]) hK 4 rfl dX9_shiftedWet_40 rfl (by decide) rfl ?_
    refine ro_goto hK 24 dX9_shiftedWet_43 (by decide) ?_
    refine ro_sub (L' := [(0, .ref (ro_ad (kG K) 1)), (1, .int v1), (2, .int v2), (3, .int v3), (4, .int (v4 + 1))]) [1, 2, 3, 4, 0] rfl ?_
    exact hrec (v4 + 1, q6) _ hf hq
def fl_X9_shiftedWet_24 (v1 : Int32) (v2 : Int32) (v3 : Int32) : (Int32 × ro_Mem) → Option ro_Mem :=
  ro_loop (fun rec s => fb_X9_shiftedWet_24 v1 v2 v3 rec s.1 s.2) ro_FU
theorem lp_X9_shiftedWet_24 {K : ro_K} (hK : ro_C K RX9 cX9_shiftedWet 6 5) (hR : ro_R K (some .int)) {v1 : Int32} {v2 : Int32} {v3 : Int32}  {s : Int32 × ro_Mem} {q : ro_Mem} (hf : fl_X9_shiftedWet_24 v1 v2 v3 s = some q) (hq : ok_X9_shiftedWet_24 K v1 v2 v3 q) : ro_X K 24 [(0, .ref (ro_ad (kG K) 1)), (1, .int v1), (2, .int v2), (3, .int v3), (4, .int s.1)] [] s.2 :=
  ro_loopX (b := fun rec s => fb_X9_shiftedWet_24 v1 v2 v3 rec s.1 s.2) (X := fun s => ro_X K 24 [(0, .ref (ro_ad (kG K) 1)), (1, .int v1), (2, .int v2), (3, .int v3), (4, .int s.1)] [] s.2) (OK := ok_X9_shiftedWet_24 K v1 v2 v3) (fun rec s q hrec hb ho => bb_X9_shiftedWet_24 hK hR  hrec hb ho) ro_FU s q hf hq
def fb_X9_shiftedWet_10 (v1 : Int32) (v2 : Int32) (rec : (Int32 × ro_Mem) → Option ro_Mem) (v3 : Int32) (μ : ro_Mem) : Option ro_Mem :=
  if ro_sh (ro_rf μ 1 1) = (0, 5) then
  (if (μ (ro_rf μ 1 1) 5) ≤ v3 then
  (some μ)
  else
  ((fl_X9_shiftedWet_24 v1 v2 v3 (0, μ)).bind fun q8 =>
  rec (v3 + 1, q8))) else none
theorem bb_X9_shiftedWet_10 {K : ro_K} (hK : ro_C K RX9 cX9_shiftedWet 6 5) (hR : ro_R K (some .int)) {v1 : Int32} {v2 : Int32}  {μ : ro_Mem} {rec : (Int32 × ro_Mem) → Option ro_Mem} {v3 : Int32} {q : ro_Mem} (hrec : ∀ (s : Int32 × ro_Mem) (q : ro_Mem), rec s = some q → ok_X9_shiftedWet_10 K v1 v2 q → ro_X K 10 [(0, .ref (ro_ad (kG K) 1)), (1, .int v1), (2, .int v2), (3, .int s.1)] [] s.2) (hf : fb_X9_shiftedWet_10 v1 v2 rec v3 μ = some q) (hq : ok_X9_shiftedWet_10 K v1 v2 q) : ro_X K 10 [(0, .ref (ro_ad (kG K) 1)), (1, .int v1), (2, .int v2), (3, .int v3)] [] μ := by
  unfold fb_X9_shiftedWet_10 at hf
  refine ro_iload_n hK 3 rfl dX9_shiftedWet_10 rfl ?_
  refine ro_aload_n hK 0 rfl dX9_shiftedWet_11 rfl ?_
  obtain ⟨g3, hf⟩ := ro_gd hf
  refine ro_getm hK fl_X9_21 sh_1 dX9_shiftedWet_12 ?_
  refine ro_geti hK fl_X9_106 g3 dX9_shiftedWet_15 ?_
  refine ro_icmp_ge hK 52 dX9_shiftedWet_18 (by decide) (fun c4 => ?_) (fun c4 => ?_)
  · have hf := ro_it hf c4
    refine ro_sub (L' := [(0, .ref (ro_ad (kG K) 1)), (1, .int v1)]) [0, 1] rfl ?_
    obtain rfl := Option.some.inj hf
    exact hq
  · have hf := ro_ie hf c4
    refine ro_iconst (v := 0) hK dX9_shiftedWet_21 (by decide) ?_
    refine ro_istore (L' := [(4, .int 0), (0, .ref (ro_ad (kG K) 1)), (1, .int v1), (2, .int v2), (3, .int v3)]) hK dX9_shiftedWet_22 (by decide) rfl ?_
    obtain ⟨q8, e9, hf⟩ := ro_bd hf
    refine ro_sub (L' := [(0, .ref (ro_ad (kG K) 1)), (1, .int v1), (2, .int v2), (3, .int v3), (4, .int 0)]) [1, 2, 3, 4, 0] rfl ?_
    refine lp_X9_shiftedWet_24 hK hR  e9 ?_
    show ro_X K 46 [(0, .ref (ro_ad (kG K) 1)), (1, .int v1), (2, .int v2), (3, .int v3)] [] q8
    refine ro_iinc (v := v3 + 1) (L' := [(3, .int (v3 + 1)), (0, .ref (ro_ad (kG K) 1)), (1, .int v1), (2, .int v2)]) hK 3 rfl dX9_shiftedWet_46 rfl (by decide) rfl ?_
    refine ro_goto hK 10 dX9_shiftedWet_49 (by decide) ?_
    refine ro_sub (L' := [(0, .ref (ro_ad (kG K) 1)), (1, .int v1), (2, .int v2), (3, .int (v3 + 1))]) [1, 2, 3, 0] rfl ?_
    exact hrec (v3 + 1, q8) _ hf hq
def fl_X9_shiftedWet_10 (v1 : Int32) (v2 : Int32) : (Int32 × ro_Mem) → Option ro_Mem :=
  ro_loop (fun rec s => fb_X9_shiftedWet_10 v1 v2 rec s.1 s.2) ro_FU
theorem lp_X9_shiftedWet_10 {K : ro_K} (hK : ro_C K RX9 cX9_shiftedWet 6 5) (hR : ro_R K (some .int)) {v1 : Int32} {v2 : Int32}  {s : Int32 × ro_Mem} {q : ro_Mem} (hf : fl_X9_shiftedWet_10 v1 v2 s = some q) (hq : ok_X9_shiftedWet_10 K v1 v2 q) : ro_X K 10 [(0, .ref (ro_ad (kG K) 1)), (1, .int v1), (2, .int v2), (3, .int s.1)] [] s.2 :=
  ro_loopX (b := fun rec s => fb_X9_shiftedWet_10 v1 v2 rec s.1 s.2) (X := fun s => ro_X K 10 [(0, .ref (ro_ad (kG K) 1)), (1, .int v1), (2, .int v2), (3, .int s.1)] [] s.2) (OK := ok_X9_shiftedWet_10 K v1 v2) (fun rec s q hrec hb ho => bb_X9_shiftedWet_10 hK hR  hrec hb ho) ro_FU s q hf hq
def ok_X9_shiftedWet_57 (K : ro_K) (v1 : Int32) (μ : ro_Mem) : Int32 → Prop := fun e => ro_X K 122 [(3, .int e)] [] μ
def fb_X9_shiftedWet_57 (v1 : Int32) (μ : ro_Mem) (rec : (Int32 × Int32) → Option Int32) (v3 : Int32) (v4 : Int32) : Option Int32 :=
  if 4 ≤ v4 then
  (some v3)
  else
  (if ro_in ((v4 * 10) + v1) 40 then
  (ro_lt (μ 11 ((v4 * 10) + v1).toNatClampNeg) fun z14 =>
  if 96 ≤ z14 then
  (ro_lt (v3 + 0) fun z17 =>
  rec (z17, v4 + 1))
  else
  (if ro_in v4 4 then
  (if ro_in z14 96 then
  (ro_lt (v3 + (ro_mx 0 ((μ 30 v4.toNatClampNeg) - (μ 4 z14.toNatClampNeg)))) fun z21 =>
  rec (z21, v4 + 1)) else none) else none)) else none)
theorem bb_X9_shiftedWet_57 {K : ro_K} (hK : ro_C K RX9 cX9_shiftedWet 6 5) (hR : ro_R K (some .int)) {v1 : Int32}  {μ : ro_Mem} {rec : (Int32 × Int32) → Option Int32} {v3 : Int32} {v4 : Int32} {q : Int32} (hrec : ∀ (s : Int32 × Int32) (q : Int32), rec s = some q → ok_X9_shiftedWet_57 K v1 μ q → ro_X K 57 [(0, .ref (ro_ad (kG K) 1)), (1, .int v1), (3, .int s.1), (4, .int s.2)] [] μ) (hf : fb_X9_shiftedWet_57 v1 μ rec v3 v4 = some q) (hq : ok_X9_shiftedWet_57 K v1 μ q) : ro_X K 57 [(0, .ref (ro_ad (kG K) 1)), (1, .int v1), (3, .int v3), (4, .int v4)] [] μ := by
  unfold fb_X9_shiftedWet_57 at hf
  refine ro_iload hK 3 rfl dX9_shiftedWet_57 ?_
  refine ro_iconst (v := 4) hK dX9_shiftedWet_59 (by decide) ?_
  refine ro_icmp_ge hK 122 dX9_shiftedWet_60 (by decide) (fun c12 => ?_) (fun c12 => ?_)
  · have hf := ro_it hf c12
    refine ro_sub (L' := [(3, .int v3)]) [2] rfl ?_
    obtain rfl := Option.some.inj hf
    exact hq
  · have hf := ro_ie hf c12
    refine ro_aload_n hK 0 rfl dX9_shiftedWet_63 rfl ?_
    refine ro_getr hK fl_X9_12 sh_1 dX9_shiftedWet_64 ?_
    refine ro_getr hK fl_X9_114 sh_2 dX9_shiftedWet_67 ?_
    refine ro_iload hK 3 rfl dX9_shiftedWet_70 ?_
    refine ro_bipush (v := 10) hK dX9_shiftedWet_72 (by decide) ?_
    refine ro_imul hK dX9_shiftedWet_74 ?_
    refine ro_iload_n hK 1 rfl dX9_shiftedWet_75 rfl ?_
    refine ro_iadd hK dX9_shiftedWet_76 ?_
    obtain ⟨g13, hf⟩ := ro_gd hf
    refine ro_iald hK sh_11 g13 dX9_shiftedWet_77 ?_
    obtain ⟨z14, e15, hf⟩ := ro_ld hf
    refine ro_iv e15 ?_
    refine ro_istore (L' := [(5, .int z14), (0, .ref (ro_ad (kG K) 1)), (1, .int v1), (3, .int v3), (4, .int v4)]) hK dX9_shiftedWet_78 (by decide) rfl ?_
    refine ro_iload_n hK 3 rfl dX9_shiftedWet_80 rfl ?_
    refine ro_iload hK 0 rfl dX9_shiftedWet_81 ?_
    refine ro_bipush (v := 96) hK dX9_shiftedWet_83 (by decide) ?_
    refine ro_icmp_ge hK 113 dX9_shiftedWet_85 (by decide) (fun c16 => ?_) (fun c16 => ?_)
    · have hf := ro_it hf c16
      refine ro_iconst (v := 0) hK dX9_shiftedWet_113 (by decide) ?_
      refine ro_iadd hK dX9_shiftedWet_114 ?_
      obtain ⟨z17, e18, hf⟩ := ro_ld hf
      refine ro_iv e18 ?_
      refine ro_istore_n (L' := [(3, .int z17), (5, .int z14), (0, .ref (ro_ad (kG K) 1)), (1, .int v1), (4, .int v4)]) hK dX9_shiftedWet_115 rfl (by decide) rfl ?_
      refine ro_iinc (v := v4 + 1) (L' := [(4, .int (v4 + 1)), (3, .int z17), (5, .int z14), (0, .ref (ro_ad (kG K) 1)), (1, .int v1)]) hK 4 rfl dX9_shiftedWet_116 rfl (by decide) rfl ?_
      refine ro_goto hK 57 dX9_shiftedWet_119 (by decide) ?_
      refine ro_sub (L' := [(0, .ref (ro_ad (kG K) 1)), (1, .int v1), (3, .int z17), (4, .int (v4 + 1))]) [3, 4, 1, 0] rfl ?_
      exact hrec (z17, v4 + 1) _ hf hq
    · have hf := ro_ie hf c16
      refine ro_iconst (v := 0) hK dX9_shiftedWet_88 (by decide) ?_
      refine ro_aload_n hK 1 rfl dX9_shiftedWet_89 rfl ?_
      refine ro_getr hK fl_X9_32 sh_1 dX9_shiftedWet_90 ?_
      refine ro_iload hK 4 rfl dX9_shiftedWet_93 ?_
      obtain ⟨g19, hf⟩ := ro_gd hf
      refine ro_iald hK sh_30 g19 dX9_shiftedWet_95 ?_
      refine ro_aload_n hK 1 rfl dX9_shiftedWet_96 rfl ?_
      refine ro_getr hK fl_X9_12 sh_1 dX9_shiftedWet_97 ?_
      refine ro_getr hK fl_X9_117 sh_2 dX9_shiftedWet_100 ?_
      refine ro_iload hK 0 rfl dX9_shiftedWet_103 ?_
      obtain ⟨g20, hf⟩ := ro_gd hf
      refine ro_iald hK sh_4 g20 dX9_shiftedWet_105 ?_
      refine ro_isub hK dX9_shiftedWet_106 ?_
      refine ro_mmax hK ml_X9_120 (by decide) (Nat.le_of_ble_eq_true rfl) dX9_shiftedWet_107 ?_
      refine ro_goto hK 114 dX9_shiftedWet_110 (by decide) ?_
      refine ro_iadd hK dX9_shiftedWet_114 ?_
      obtain ⟨z21, e22, hf⟩ := ro_ld hf
      refine ro_iv e22 ?_
      refine ro_istore_n (L' := [(3, .int z21), (5, .int z14), (0, .ref (ro_ad (kG K) 1)), (1, .int v1), (4, .int v4)]) hK dX9_shiftedWet_115 rfl (by decide) rfl ?_
      refine ro_iinc (v := v4 + 1) (L' := [(4, .int (v4 + 1)), (3, .int z21), (5, .int z14), (0, .ref (ro_ad (kG K) 1)), (1, .int v1)]) hK 4 rfl dX9_shiftedWet_116 rfl (by decide) rfl ?_
      refine ro_goto hK 57 dX9_shiftedWet_119 (by decide) ?_
      refine ro_sub (L' := [(0, .ref (ro_ad (kG K) 1)), (1, .int v1), (3, .int z21), (4, .int (v4 + 1))]) [3, 4, 1, 0] rfl ?_
      exact hrec (z21, v4 + 1) _ hf hq
def fl_X9_shiftedWet_57 (v1 : Int32) (μ : ro_Mem) : (Int32 × Int32) → Option Int32 :=
  ro_loop (fun rec s => fb_X9_shiftedWet_57 v1 μ rec s.1 s.2) ro_FU
theorem lp_X9_shiftedWet_57 {K : ro_K} (hK : ro_C K RX9 cX9_shiftedWet 6 5) (hR : ro_R K (some .int)) {v1 : Int32}  {μ : ro_Mem} {s : Int32 × Int32} {q : Int32} (hf : fl_X9_shiftedWet_57 v1 μ s = some q) (hq : ok_X9_shiftedWet_57 K v1 μ q) : ro_X K 57 [(0, .ref (ro_ad (kG K) 1)), (1, .int v1), (3, .int s.1), (4, .int s.2)] [] μ :=
  ro_loopX (b := fun rec s => fb_X9_shiftedWet_57 v1 μ rec s.1 s.2) (X := fun s => ro_X K 57 [(0, .ref (ro_ad (kG K) 1)), (1, .int v1), (3, .int s.1), (4, .int s.2)] [] μ) (OK := ok_X9_shiftedWet_57 K v1 μ) (fun rec s q hrec hb ho => bb_X9_shiftedWet_57 hK hR  hrec hb ho) ro_FU s q hf hq
def fn_X9_shiftedWet (v1 : Int32) (v2 : Int32) (μ : ro_Mem) : Option (Int32 × ro_Mem) :=
  (fn_J7_fill_53178 30 0 μ).bind fun q1 =>
  (fl_X9_shiftedWet_10 v1 v2 (0, q1)).bind fun q10 =>
  (fl_X9_shiftedWet_57 v1 q10 (0, 0)).bind fun q23 =>
  some (q23, q10)
theorem be_X9_shiftedWet {K : ro_K} (hK : ro_C K RX9 cX9_shiftedWet 6 5) (hR : ro_R K (some .int)) {v1 : Int32} {v2 : Int32}  {μ : ro_Mem} {out : Int32 × ro_Mem} (hf : fn_X9_shiftedWet v1 v2 μ = some out) (hq : kQ K (some (.int out.1)) out.2) : ro_X K 0 [(0, .ref (ro_ad (kG K) 1)), (1, .int v1), (2, .int v2)] [] μ := by
  unfold fn_X9_shiftedWet at hf
  refine ro_aload_n hK 0 rfl dX9_shiftedWet_0 rfl ?_
  refine ro_getr hK fl_X9_32 sh_1 dX9_shiftedWet_1 ?_
  refine ro_iconst (v := 0) hK dX9_shiftedWet_4 (by decide) ?_
  obtain ⟨q1, e2, hf⟩ := ro_bd hf
  refine ro_callsv hK [.ref (ro_ad (kG K) 30), .int 0] ml_X9_84 ms_J7_fill_53178 (mt_J7_fill_53178 (kl K) (kG K) (ro_shl sh_30) e2) (by decide) rfl rfl (Nat.le_of_ble_eq_true rfl) dX9_shiftedWet_5 ?_
  refine ro_iconst (v := 0) hK dX9_shiftedWet_8 (by decide) ?_
  refine ro_istore_n (L' := [(3, .int 0), (0, .ref (ro_ad (kG K) 1)), (1, .int v1), (2, .int v2)]) hK dX9_shiftedWet_9 rfl (by decide) rfl ?_
  obtain ⟨q10, e11, hf⟩ := ro_bd hf
  refine ro_sub (L' := [(0, .ref (ro_ad (kG K) 1)), (1, .int v1), (2, .int v2), (3, .int 0)]) [1, 2, 3, 0] rfl ?_
  refine lp_X9_shiftedWet_10 hK hR  e11 ?_
  show ro_X K 52 [(0, .ref (ro_ad (kG K) 1)), (1, .int v1)] [] q10
  refine ro_iconst (v := 0) hK dX9_shiftedWet_52 (by decide) ?_
  refine ro_istore_n (L' := [(3, .int 0), (0, .ref (ro_ad (kG K) 1)), (1, .int v1)]) hK dX9_shiftedWet_53 rfl (by decide) rfl ?_
  refine ro_iconst (v := 0) hK dX9_shiftedWet_54 (by decide) ?_
  refine ro_istore (L' := [(4, .int 0), (3, .int 0), (0, .ref (ro_ad (kG K) 1)), (1, .int v1)]) hK dX9_shiftedWet_55 (by decide) rfl ?_
  obtain ⟨q23, e24, hf⟩ := ro_bd hf
  refine ro_sub (L' := [(0, .ref (ro_ad (kG K) 1)), (1, .int v1), (3, .int 0), (4, .int 0)]) [2, 3, 1, 0] rfl ?_
  refine lp_X9_shiftedWet_57 hK hR  e24 ?_
  show ro_X K 122 [(3, .int q23)] [] q10
  refine ro_iload_n hK 0 rfl dX9_shiftedWet_122 rfl ?_
  obtain rfl := Option.some.inj hf
  exact ro_iret hK hR dX9_shiftedWet_123 hq
theorem mt_X9_shiftedWet (l : Launch) (G : ro_G) {v1 : Int32} {v2 : Int32}  {μ : ro_Mem} {out : Int32 × ro_Mem} (hf : fn_X9_shiftedWet v1 v2 μ = some out) : ro_MX l G yX9_shiftedWet cX9_shiftedWet 6 (some .int) 5 [.ref (ro_ad G 1), .int v1, .int v2] μ (some (.int out.1)) out.2 := by
  refine ro_MX.of (by decide +kernel) (Nat.le_of_ble_eq_true rfl) (fun K hG hl hq hK hR => ?_)
  subst hG
  exact be_X9_shiftedWet hK hR  hf hq
-- ===== X10_fewest =====
theorem dX10_fewest_0 : decode cX10_fewest 0 = .ok (.iconst 0, 1) := by decide +kernel
theorem dX10_fewest_1 : decode cX10_fewest 1 = .ok (.istore_n 2, 1) := by decide +kernel
theorem dX10_fewest_2 : decode cX10_fewest 2 = .ok (.iload_n 2, 1) := by decide +kernel
theorem dX10_fewest_3 : decode cX10_fewest 3 = .ok (.aload_n 0, 1) := by decide +kernel
theorem dX10_fewest_4 : decode cX10_fewest 4 = .ok (.getfield 15, 3) := by decide +kernel
theorem dX10_fewest_7 : decode cX10_fewest 7 = .ok (.arraylength, 1) := by decide +kernel
theorem dX10_fewest_8 : decode cX10_fewest 8 = .ok (.if_icmp .gt 26, 3) := by decide +kernel
theorem dX10_fewest_11 : decode cX10_fewest 11 = .ok (.aload_n 0, 1) := by decide +kernel
theorem dX10_fewest_12 : decode cX10_fewest 12 = .ok (.iconst 0, 1) := by decide +kernel
theorem dX10_fewest_13 : decode cX10_fewest 13 = .ok (.aload_n 0, 1) := by decide +kernel
theorem dX10_fewest_14 : decode cX10_fewest 14 = .ok (.getfield 15, 3) := by decide +kernel
theorem dX10_fewest_17 : decode cX10_fewest 17 = .ok (.arraylength, 1) := by decide +kernel
theorem dX10_fewest_18 : decode cX10_fewest 18 = .ok (.iload_n 2, 1) := by decide +kernel
theorem dX10_fewest_19 : decode cX10_fewest 19 = .ok (.invokevirtual 24, 3) := by decide +kernel
theorem dX10_fewest_22 : decode cX10_fewest 22 = .ok (.iload_n 1, 1) := by decide +kernel
theorem dX10_fewest_23 : decode cX10_fewest 23 = .ok (.if_icmp .lt 5, 3) := by decide +kernel
theorem dX10_fewest_26 : decode cX10_fewest 26 = .ok (.iload_n 2, 1) := by decide +kernel
theorem dX10_fewest_27 : decode cX10_fewest 27 = .ok (.ireturn, 1) := by decide +kernel
theorem dX10_fewest_28 : decode cX10_fewest 28 = .ok (.iinc 2 1, 3) := by decide +kernel
theorem dX10_fewest_31 : decode cX10_fewest 31 = .ok (.goto (-29), 3) := by decide +kernel
theorem dX10_fewest_34 : decode cX10_fewest 34 = .ok (.iconst (-1), 1) := by decide +kernel
theorem dX10_fewest_35 : decode cX10_fewest 35 = .ok (.ireturn, 1) := by decide +kernel
def ok_X10_fewest_2 (K : ro_K) (o0 : Nat) (v1 : Int32) (μ : ro_Mem) : (Int32 ⊕ Unit) → Prop := Sum.elim (fun e => ro_X K 26 [(2, .int e)] [] μ) (fun e => ro_X K 34 [] [] μ)
def fb_X10_fewest_2 (o0 : Nat) (v1 : Int32) (μ : ro_Mem) (rec : Int32 → Option (Int32 ⊕ Unit)) (v2 : Int32) : Option (Int32 ⊕ Unit) :=
  if (nI (ro_len (o0 + 1))) < v2 then
  (some (.inr ()))
  else
  ((fn_X10_heaviest o0 0 (nI (ro_len (o0 + 1))) v2 μ).bind fun q2 =>
  if q2 < v1 then
  (rec (v2 + 1))
  else
  (some (.inl v2)))
theorem bb_X10_fewest_2 {K : ro_K} (hK : ro_C K RX10 cX10_fewest 3 1) (hR : ro_R K (some .int)) {o0 : Nat} {v1 : Int32} (h0 : ro_sh o0 = (0, 10)) {μ : ro_Mem} {rec : Int32 → Option (Int32 ⊕ Unit)} {v2 : Int32} {q : (Int32 ⊕ Unit)} (hrec : ∀ (s : Int32) (q : (Int32 ⊕ Unit)), rec s = some q → ok_X10_fewest_2 K o0 v1 μ q → ro_X K 2 [(0, .ref (ro_ad (kG K) o0)), (1, .int v1), (2, .int s)] [] μ) (hf : fb_X10_fewest_2 o0 v1 μ rec v2 = some q) (hq : ok_X10_fewest_2 K o0 v1 μ q) : ro_X K 2 [(0, .ref (ro_ad (kG K) o0)), (1, .int v1), (2, .int v2)] [] μ := by
  unfold fb_X10_fewest_2 at hf
  refine ro_iload_n hK 2 rfl dX10_fewest_2 rfl ?_
  refine ro_aload_n hK 0 rfl dX10_fewest_3 rfl ?_
  refine ro_getr hK fl_X10_15 h0 dX10_fewest_4 ?_
  refine ro_alen hK (so_10_1 h0) dX10_fewest_7 ?_
  refine ro_icmp_gt hK 34 dX10_fewest_8 (by decide) (fun c1 => ?_) (fun c1 => ?_)
  · have hf := ro_it hf c1
    refine ro_sub (L' := []) [] rfl ?_
    obtain rfl := Option.some.inj hf
    exact hq
  · have hf := ro_ie hf c1
    refine ro_aload_n hK 0 rfl dX10_fewest_11 rfl ?_
    refine ro_iconst (v := 0) hK dX10_fewest_12 (by decide) ?_
    refine ro_aload_n hK 0 rfl dX10_fewest_13 rfl ?_
    refine ro_getr hK fl_X10_15 h0 dX10_fewest_14 ?_
    refine ro_alen hK (so_10_1 h0) dX10_fewest_17 ?_
    refine ro_iload_n hK 2 rfl dX10_fewest_18 rfl ?_
    obtain ⟨q2, e3, hf⟩ := ro_bd hf
    refine ro_callvi hK [.int 0, .int (nI (ro_len (o0 + 1))), .int v2] ml_X10_24 mv_X10_heaviest (mt_X10_heaviest (kl K) (kG K) h0 e3) h0 ⟨_, rfl, rfl⟩ (by decide) rfl rfl (Nat.le_of_ble_eq_true rfl) dX10_fewest_19 ?_
    refine ro_iload_n hK 1 rfl dX10_fewest_22 rfl ?_
    refine ro_icmp_lt hK 28 dX10_fewest_23 (by decide) (fun c4 => ?_) (fun c4 => ?_)
    · have hf := ro_it hf c4
      refine ro_iinc (v := v2 + 1) (L' := [(2, .int (v2 + 1)), (0, .ref (ro_ad (kG K) o0)), (1, .int v1)]) hK 2 rfl dX10_fewest_28 rfl (by decide) rfl ?_
      refine ro_goto hK 2 dX10_fewest_31 (by decide) ?_
      refine ro_sub (L' := [(0, .ref (ro_ad (kG K) o0)), (1, .int v1), (2, .int (v2 + 1))]) [1, 2, 0] rfl ?_
      exact hrec (v2 + 1) _ hf hq
    · have hf := ro_ie hf c4
      refine ro_sub (L' := [(2, .int v2)]) [2] rfl ?_
      obtain rfl := Option.some.inj hf
      exact hq
def fl_X10_fewest_2 (o0 : Nat) (v1 : Int32) (μ : ro_Mem) : Int32 → Option (Int32 ⊕ Unit) :=
  ro_loop (fun rec s => fb_X10_fewest_2 o0 v1 μ rec s) ro_FU
theorem lp_X10_fewest_2 {K : ro_K} (hK : ro_C K RX10 cX10_fewest 3 1) (hR : ro_R K (some .int)) {o0 : Nat} {v1 : Int32} (h0 : ro_sh o0 = (0, 10)) {μ : ro_Mem} {s : Int32} {q : (Int32 ⊕ Unit)} (hf : fl_X10_fewest_2 o0 v1 μ s = some q) (hq : ok_X10_fewest_2 K o0 v1 μ q) : ro_X K 2 [(0, .ref (ro_ad (kG K) o0)), (1, .int v1), (2, .int s)] [] μ :=
  ro_loopX (b := fun rec s => fb_X10_fewest_2 o0 v1 μ rec s) (X := fun s => ro_X K 2 [(0, .ref (ro_ad (kG K) o0)), (1, .int v1), (2, .int s)] [] μ) (OK := ok_X10_fewest_2 K o0 v1 μ) (fun rec s q hrec hb ho => bb_X10_fewest_2 hK hR h0 hrec hb ho) ro_FU s q hf hq
def fn_X10_fewest (o0 : Nat) (v1 : Int32) (μ : ro_Mem) : Option Int32 :=
  (fl_X10_fewest_2 o0 v1 μ 0).bind fun q5 =>
  q5.elim (fun e7 => some e7) (fun e8 => some (-1))
theorem be_X10_fewest {K : ro_K} (hK : ro_C K RX10 cX10_fewest 3 1) (hR : ro_R K (some .int)) {o0 : Nat} {v1 : Int32} (h0 : ro_sh o0 = (0, 10)) {μ : ro_Mem} {out : Int32} (hf : fn_X10_fewest o0 v1 μ = some out) (hq : kQ K (some (.int out)) μ) : ro_X K 0 [(0, .ref (ro_ad (kG K) o0)), (1, .int v1)] [] μ := by
  unfold fn_X10_fewest at hf
  refine ro_iconst (v := 0) hK dX10_fewest_0 (by decide) ?_
  refine ro_istore_n (L' := [(2, .int 0), (0, .ref (ro_ad (kG K) o0)), (1, .int v1)]) hK dX10_fewest_1 rfl (by decide) rfl ?_
  obtain ⟨q5, e6, hf⟩ := ro_bd hf
  refine ro_sub (L' := [(0, .ref (ro_ad (kG K) o0)), (1, .int v1), (2, .int 0)]) [1, 2, 0] rfl ?_
  refine lp_X10_fewest_2 hK hR h0 e6 ?_
  rcases q5 with e7 | e8
  · have hf := ro_el hf
    show ro_X K 26 [(2, .int e7)] [] μ
    refine ro_iload_n hK 0 rfl dX10_fewest_26 rfl ?_
    obtain rfl := Option.some.inj hf
    exact ro_iret hK hR dX10_fewest_27 hq
  · have hf := ro_er hf
    show ro_X K 34 [] [] μ
    refine ro_iconst (v := (-1)) hK dX10_fewest_34 (by decide) ?_
    obtain rfl := Option.some.inj hf
    exact ro_iret hK hR dX10_fewest_35 hq
theorem mt_X10_fewest (l : Launch) (G : ro_G) {o0 : Nat} {v1 : Int32} (h0 : ro_sh o0 = (0, 10)) {μ : ro_Mem} {out : Int32} (hf : fn_X10_fewest o0 v1 μ = some out) : ro_MX l G yX10_fewest cX10_fewest 3 (some .int) 1 [.ref (ro_ad G o0), .int v1] μ (some (.int out)) μ := by
  refine ro_MX.of (by decide +kernel) (Nat.le_of_ble_eq_true rfl) (fun K hG hl hq hK hR => ?_)
  subst hG
  exact be_X10_fewest hK hR h0 hf hq
-- ===== X10_pick =====
theorem dX10_pick_0 : decode cX10_pick 0 = .ok (.aload_n 0, 1) := by decide +kernel
theorem dX10_pick_1 : decode cX10_pick 1 = .ok (.iload_n 1, 1) := by decide +kernel
theorem dX10_pick_2 : decode cX10_pick 2 = .ok (.invokevirtual 28, 3) := by decide +kernel
theorem dX10_pick_5 : decode cX10_pick 5 = .ok (.istore_n 3, 1) := by decide +kernel
theorem dX10_pick_6 : decode cX10_pick 6 = .ok (.iload_n 1, 1) := by decide +kernel
theorem dX10_pick_7 : decode cX10_pick 7 = .ok (.istore 4, 2) := by decide +kernel
theorem dX10_pick_9 : decode cX10_pick 9 = .ok (.iconst 0, 1) := by decide +kernel
theorem dX10_pick_10 : decode cX10_pick 10 = .ok (.istore 5, 2) := by decide +kernel
theorem dX10_pick_12 : decode cX10_pick 12 = .ok (.iconst 0, 1) := by decide +kernel
theorem dX10_pick_13 : decode cX10_pick 13 = .ok (.istore 6, 2) := by decide +kernel
theorem dX10_pick_15 : decode cX10_pick 15 = .ok (.iload 6, 2) := by decide +kernel
theorem dX10_pick_17 : decode cX10_pick 17 = .ok (.aload_n 0, 1) := by decide +kernel
theorem dX10_pick_18 : decode cX10_pick 18 = .ok (.getfield 15, 3) := by decide +kernel
theorem dX10_pick_21 : decode cX10_pick 21 = .ok (.arraylength, 1) := by decide +kernel
theorem dX10_pick_22 : decode cX10_pick 22 = .ok (.if_icmp .ge 71, 3) := by decide +kernel
theorem dX10_pick_25 : decode cX10_pick 25 = .ok (.iload 5, 2) := by decide +kernel
theorem dX10_pick_27 : decode cX10_pick 27 = .ok (.iload_n 3, 1) := by decide +kernel
theorem dX10_pick_28 : decode cX10_pick 28 = .ok (.if_icmp .ge 65, 3) := by decide +kernel
theorem dX10_pick_31 : decode cX10_pick 31 = .ok (.aload_n 0, 1) := by decide +kernel
theorem dX10_pick_32 : decode cX10_pick 32 = .ok (.getfield 15, 3) := by decide +kernel
theorem dX10_pick_35 : decode cX10_pick 35 = .ok (.iload 6, 2) := by decide +kernel
theorem dX10_pick_37 : decode cX10_pick 37 = .ok (.iaload, 1) := by decide +kernel
theorem dX10_pick_38 : decode cX10_pick 38 = .ok (.aload_n 0, 1) := by decide +kernel
theorem dX10_pick_39 : decode cX10_pick 39 = .ok (.iload 6, 2) := by decide +kernel
theorem dX10_pick_41 : decode cX10_pick 41 = .ok (.iconst 1, 1) := by decide +kernel
theorem dX10_pick_42 : decode cX10_pick 42 = .ok (.iadd, 1) := by decide +kernel
theorem dX10_pick_43 : decode cX10_pick 43 = .ok (.aload_n 0, 1) := by decide +kernel
theorem dX10_pick_44 : decode cX10_pick 44 = .ok (.getfield 15, 3) := by decide +kernel
theorem dX10_pick_47 : decode cX10_pick 47 = .ok (.arraylength, 1) := by decide +kernel
theorem dX10_pick_48 : decode cX10_pick 48 = .ok (.iload_n 3, 1) := by decide +kernel
theorem dX10_pick_49 : decode cX10_pick 49 = .ok (.iload 5, 2) := by decide +kernel
theorem dX10_pick_51 : decode cX10_pick 51 = .ok (.isub, 1) := by decide +kernel
theorem dX10_pick_52 : decode cX10_pick 52 = .ok (.iconst 1, 1) := by decide +kernel
theorem dX10_pick_53 : decode cX10_pick 53 = .ok (.isub, 1) := by decide +kernel
theorem dX10_pick_54 : decode cX10_pick 54 = .ok (.invokevirtual 24, 3) := by decide +kernel
theorem dX10_pick_57 : decode cX10_pick 57 = .ok (.iadd, 1) := by decide +kernel
theorem dX10_pick_58 : decode cX10_pick 58 = .ok (.iload 4, 2) := by decide +kernel
theorem dX10_pick_60 : decode cX10_pick 60 = .ok (.if_icmp .lt 27, 3) := by decide +kernel
theorem dX10_pick_63 : decode cX10_pick 63 = .ok (.iload 5, 2) := by decide +kernel
theorem dX10_pick_65 : decode cX10_pick 65 = .ok (.iload_n 2, 1) := by decide +kernel
theorem dX10_pick_66 : decode cX10_pick 66 = .ok (.if_icmp .ne 6, 3) := by decide +kernel
theorem dX10_pick_69 : decode cX10_pick 69 = .ok (.iload 6, 2) := by decide +kernel
theorem dX10_pick_71 : decode cX10_pick 71 = .ok (.ireturn, 1) := by decide +kernel
theorem dX10_pick_72 : decode cX10_pick 72 = .ok (.iload 4, 2) := by decide +kernel
theorem dX10_pick_74 : decode cX10_pick 74 = .ok (.aload_n 0, 1) := by decide +kernel
theorem dX10_pick_75 : decode cX10_pick 75 = .ok (.getfield 15, 3) := by decide +kernel
theorem dX10_pick_78 : decode cX10_pick 78 = .ok (.iload 6, 2) := by decide +kernel
theorem dX10_pick_80 : decode cX10_pick 80 = .ok (.iaload, 1) := by decide +kernel
theorem dX10_pick_81 : decode cX10_pick 81 = .ok (.isub, 1) := by decide +kernel
theorem dX10_pick_82 : decode cX10_pick 82 = .ok (.istore 4, 2) := by decide +kernel
theorem dX10_pick_84 : decode cX10_pick 84 = .ok (.iinc 5 1, 3) := by decide +kernel
theorem dX10_pick_87 : decode cX10_pick 87 = .ok (.iinc 6 1, 3) := by decide +kernel
theorem dX10_pick_90 : decode cX10_pick 90 = .ok (.goto (-75), 3) := by decide +kernel
theorem dX10_pick_93 : decode cX10_pick 93 = .ok (.iconst (-1), 1) := by decide +kernel
theorem dX10_pick_94 : decode cX10_pick 94 = .ok (.ireturn, 1) := by decide +kernel
def ok_X10_pick_15 (K : ro_K) (o0 : Nat) (v2 : Int32) (v3 : Int32) (μ : ro_Mem) : (Int32 ⊕ Unit) → Prop := Sum.elim (fun e => ro_X K 69 [(6, .int e)] [] μ) (fun e => ro_X K 93 [] [] μ)
def fb_X10_pick_15 (o0 : Nat) (v2 : Int32) (v3 : Int32) (μ : ro_Mem) (rec : (Int32 × Int32 × Int32) → Option (Int32 ⊕ Unit)) (v4 : Int32) (v5 : Int32) (v6 : Int32) : Option (Int32 ⊕ Unit) :=
  if (nI (ro_len (o0 + 1))) ≤ v6 then
  (some (.inr ()))
  else
  (if v3 ≤ v5 then
  (some (.inr ()))
  else
  (if ro_in v6 (ro_len (o0 + 1)) then
  ((fn_X10_heaviest o0 (v6 + 1) (nI (ro_len (o0 + 1))) ((v3 - v5) - 1) μ).bind fun q6 =>
  if ((μ (o0 + 1) v6.toNatClampNeg) + q6) < v4 then
  (rec (v4, v5, v6 + 1))
  else
  (if v5 = v2 then
  (some (.inl v6))
  else
  (ro_lt (v4 - (μ (o0 + 1) v6.toNatClampNeg)) fun z10 =>
  rec (z10, v5 + 1, v6 + 1)))) else none))
theorem bb_X10_pick_15 {K : ro_K} (hK : ro_C K RX10 cX10_pick 7 2) (hR : ro_R K (some .int)) {o0 : Nat} {v2 : Int32} {v3 : Int32} (h0 : ro_sh o0 = (0, 10)) {μ : ro_Mem} {rec : (Int32 × Int32 × Int32) → Option (Int32 ⊕ Unit)} {v4 : Int32} {v5 : Int32} {v6 : Int32} {q : (Int32 ⊕ Unit)} (hrec : ∀ (s : Int32 × Int32 × Int32) (q : (Int32 ⊕ Unit)), rec s = some q → ok_X10_pick_15 K o0 v2 v3 μ q → ro_X K 15 [(0, .ref (ro_ad (kG K) o0)), (2, .int v2), (3, .int v3), (4, .int s.1), (5, .int s.2.1), (6, .int s.2.2)] [] μ) (hf : fb_X10_pick_15 o0 v2 v3 μ rec v4 v5 v6 = some q) (hq : ok_X10_pick_15 K o0 v2 v3 μ q) : ro_X K 15 [(0, .ref (ro_ad (kG K) o0)), (2, .int v2), (3, .int v3), (4, .int v4), (5, .int v5), (6, .int v6)] [] μ := by
  unfold fb_X10_pick_15 at hf
  refine ro_iload hK 5 rfl dX10_pick_15 ?_
  refine ro_aload_n hK 0 rfl dX10_pick_17 rfl ?_
  refine ro_getr hK fl_X10_15 h0 dX10_pick_18 ?_
  refine ro_alen hK (so_10_1 h0) dX10_pick_21 ?_
  refine ro_icmp_ge hK 93 dX10_pick_22 (by decide) (fun c3 => ?_) (fun c3 => ?_)
  · have hf := ro_it hf c3
    refine ro_sub (L' := []) [] rfl ?_
    obtain rfl := Option.some.inj hf
    exact hq
  · have hf := ro_ie hf c3
    refine ro_iload hK 4 rfl dX10_pick_25 ?_
    refine ro_iload_n hK 2 rfl dX10_pick_27 rfl ?_
    refine ro_icmp_ge hK 93 dX10_pick_28 (by decide) (fun c4 => ?_) (fun c4 => ?_)
    · have hf := ro_it hf c4
      refine ro_sub (L' := []) [] rfl ?_
      obtain rfl := Option.some.inj hf
      exact hq
    · have hf := ro_ie hf c4
      refine ro_aload_n hK 0 rfl dX10_pick_31 rfl ?_
      refine ro_getr hK fl_X10_15 h0 dX10_pick_32 ?_
      refine ro_iload hK 5 rfl dX10_pick_35 ?_
      obtain ⟨g5, hf⟩ := ro_gd hf
      refine ro_iald hK (so_10_1 h0) g5 dX10_pick_37 ?_
      refine ro_aload_n hK 0 rfl dX10_pick_38 rfl ?_
      refine ro_iload hK 5 rfl dX10_pick_39 ?_
      refine ro_iconst (v := 1) hK dX10_pick_41 (by decide) ?_
      refine ro_iadd hK dX10_pick_42 ?_
      refine ro_aload_n hK 0 rfl dX10_pick_43 rfl ?_
      refine ro_getr hK fl_X10_15 h0 dX10_pick_44 ?_
      refine ro_alen hK (so_10_1 h0) dX10_pick_47 ?_
      refine ro_iload_n hK 2 rfl dX10_pick_48 rfl ?_
      refine ro_iload hK 4 rfl dX10_pick_49 ?_
      refine ro_isub hK dX10_pick_51 ?_
      refine ro_iconst (v := 1) hK dX10_pick_52 (by decide) ?_
      refine ro_isub hK dX10_pick_53 ?_
      obtain ⟨q6, e7, hf⟩ := ro_bd hf
      refine ro_callvi hK [.int (v6 + 1), .int (nI (ro_len (o0 + 1))), .int ((v3 - v5) - 1)] ml_X10_24 mv_X10_heaviest (mt_X10_heaviest (kl K) (kG K) h0 e7) h0 ⟨_, rfl, rfl⟩ (by decide) rfl rfl (Nat.le_of_ble_eq_true rfl) dX10_pick_54 ?_
      refine ro_iadd hK dX10_pick_57 ?_
      refine ro_iload hK 3 rfl dX10_pick_58 ?_
      refine ro_icmp_lt hK 87 dX10_pick_60 (by decide) (fun c8 => ?_) (fun c8 => ?_)
      · have hf := ro_it hf c8
        refine ro_iinc (v := v6 + 1) (L' := [(6, .int (v6 + 1)), (0, .ref (ro_ad (kG K) o0)), (2, .int v2), (3, .int v3), (4, .int v4), (5, .int v5)]) hK 5 rfl dX10_pick_87 rfl (by decide) rfl ?_
        refine ro_goto hK 15 dX10_pick_90 (by decide) ?_
        refine ro_sub (L' := [(0, .ref (ro_ad (kG K) o0)), (2, .int v2), (3, .int v3), (4, .int v4), (5, .int v5), (6, .int (v6 + 1))]) [1, 2, 3, 4, 5, 0] rfl ?_
        exact hrec (v4, v5, v6 + 1) _ hf hq
      · have hf := ro_ie hf c8
        refine ro_iload hK 4 rfl dX10_pick_63 ?_
        refine ro_iload_n hK 1 rfl dX10_pick_65 rfl ?_
        refine ro_icmp_ne hK 72 dX10_pick_66 (by decide) (fun c9 => ?_) (fun c9 => ?_)
        · have hf := ro_ie hf c9
          refine ro_iload hK 3 rfl dX10_pick_72 ?_
          refine ro_aload_n hK 0 rfl dX10_pick_74 rfl ?_
          refine ro_getr hK fl_X10_15 h0 dX10_pick_75 ?_
          refine ro_iload hK 5 rfl dX10_pick_78 ?_
          refine ro_iald hK (so_10_1 h0) g5 dX10_pick_80 ?_
          refine ro_isub hK dX10_pick_81 ?_
          obtain ⟨z10, e11, hf⟩ := ro_ld hf
          refine ro_iv e11 ?_
          refine ro_istore (L' := [(4, .int z10), (0, .ref (ro_ad (kG K) o0)), (2, .int v2), (3, .int v3), (5, .int v5), (6, .int v6)]) hK dX10_pick_82 (by decide) rfl ?_
          refine ro_iinc (v := v5 + 1) (L' := [(5, .int (v5 + 1)), (4, .int z10), (0, .ref (ro_ad (kG K) o0)), (2, .int v2), (3, .int v3), (6, .int v6)]) hK 4 rfl dX10_pick_84 rfl (by decide) rfl ?_
          refine ro_iinc (v := v6 + 1) (L' := [(6, .int (v6 + 1)), (5, .int (v5 + 1)), (4, .int z10), (0, .ref (ro_ad (kG K) o0)), (2, .int v2), (3, .int v3)]) hK 5 rfl dX10_pick_87 rfl (by decide) rfl ?_
          refine ro_goto hK 15 dX10_pick_90 (by decide) ?_
          refine ro_sub (L' := [(0, .ref (ro_ad (kG K) o0)), (2, .int v2), (3, .int v3), (4, .int z10), (5, .int (v5 + 1)), (6, .int (v6 + 1))]) [3, 4, 5, 2, 1, 0] rfl ?_
          exact hrec (z10, v5 + 1, v6 + 1) _ hf hq
        · have hf := ro_it hf c9
          refine ro_sub (L' := [(6, .int v6)]) [5] rfl ?_
          obtain rfl := Option.some.inj hf
          exact hq
def fl_X10_pick_15 (o0 : Nat) (v2 : Int32) (v3 : Int32) (μ : ro_Mem) : (Int32 × Int32 × Int32) → Option (Int32 ⊕ Unit) :=
  ro_loop (fun rec s => fb_X10_pick_15 o0 v2 v3 μ rec s.1 s.2.1 s.2.2) ro_FU
theorem lp_X10_pick_15 {K : ro_K} (hK : ro_C K RX10 cX10_pick 7 2) (hR : ro_R K (some .int)) {o0 : Nat} {v2 : Int32} {v3 : Int32} (h0 : ro_sh o0 = (0, 10)) {μ : ro_Mem} {s : Int32 × Int32 × Int32} {q : (Int32 ⊕ Unit)} (hf : fl_X10_pick_15 o0 v2 v3 μ s = some q) (hq : ok_X10_pick_15 K o0 v2 v3 μ q) : ro_X K 15 [(0, .ref (ro_ad (kG K) o0)), (2, .int v2), (3, .int v3), (4, .int s.1), (5, .int s.2.1), (6, .int s.2.2)] [] μ :=
  ro_loopX (b := fun rec s => fb_X10_pick_15 o0 v2 v3 μ rec s.1 s.2.1 s.2.2) (X := fun s => ro_X K 15 [(0, .ref (ro_ad (kG K) o0)), (2, .int v2), (3, .int v3), (4, .int s.1), (5, .int s.2.1), (6, .int s.2.2)] [] μ) (OK := ok_X10_pick_15 K o0 v2 v3 μ) (fun rec s q hrec hb ho => bb_X10_pick_15 hK hR h0 hrec hb ho) ro_FU s q hf hq
def fn_X10_pick (o0 : Nat) (v1 : Int32) (v2 : Int32) (μ : ro_Mem) : Option Int32 :=
  (fn_X10_fewest o0 v1 μ).bind fun q1 =>
  (fl_X10_pick_15 o0 v2 q1 μ (v1, 0, 0)).bind fun q12 =>
  q12.elim (fun e14 => some e14) (fun e15 => some (-1))
theorem be_X10_pick {K : ro_K} (hK : ro_C K RX10 cX10_pick 7 2) (hR : ro_R K (some .int)) {o0 : Nat} {v1 : Int32} {v2 : Int32} (h0 : ro_sh o0 = (0, 10)) {μ : ro_Mem} {out : Int32} (hf : fn_X10_pick o0 v1 v2 μ = some out) (hq : kQ K (some (.int out)) μ) : ro_X K 0 [(0, .ref (ro_ad (kG K) o0)), (1, .int v1), (2, .int v2)] [] μ := by
  unfold fn_X10_pick at hf
  refine ro_aload_n hK 0 rfl dX10_pick_0 rfl ?_
  refine ro_iload_n hK 1 rfl dX10_pick_1 rfl ?_
  obtain ⟨q1, e2, hf⟩ := ro_bd hf
  refine ro_callvi hK [.int v1] ml_X10_28 mv_X10_fewest (mt_X10_fewest (kl K) (kG K) h0 e2) h0 ⟨_, rfl, rfl⟩ (by decide) rfl rfl (Nat.le_of_ble_eq_true rfl) dX10_pick_2 ?_
  refine ro_istore_n (L' := [(3, .int q1), (0, .ref (ro_ad (kG K) o0)), (1, .int v1), (2, .int v2)]) hK dX10_pick_5 rfl (by decide) rfl ?_
  refine ro_iload_n hK 2 rfl dX10_pick_6 rfl ?_
  refine ro_istore (L' := [(4, .int v1), (3, .int q1), (0, .ref (ro_ad (kG K) o0)), (1, .int v1), (2, .int v2)]) hK dX10_pick_7 (by decide) rfl ?_
  refine ro_iconst (v := 0) hK dX10_pick_9 (by decide) ?_
  refine ro_istore (L' := [(5, .int 0), (4, .int v1), (3, .int q1), (0, .ref (ro_ad (kG K) o0)), (1, .int v1), (2, .int v2)]) hK dX10_pick_10 (by decide) rfl ?_
  refine ro_iconst (v := 0) hK dX10_pick_12 (by decide) ?_
  refine ro_istore (L' := [(6, .int 0), (5, .int 0), (4, .int v1), (3, .int q1), (0, .ref (ro_ad (kG K) o0)), (1, .int v1), (2, .int v2)]) hK dX10_pick_13 (by decide) rfl ?_
  obtain ⟨q12, e13, hf⟩ := ro_bd hf
  refine ro_sub (L' := [(0, .ref (ro_ad (kG K) o0)), (2, .int v2), (3, .int q1), (4, .int v1), (5, .int 0), (6, .int 0)]) [4, 6, 3, 2, 1, 0] rfl ?_
  refine lp_X10_pick_15 hK hR h0 e13 ?_
  rcases q12 with e14 | e15
  · have hf := ro_el hf
    show ro_X K 69 [(6, .int e14)] [] μ
    refine ro_iload hK 0 rfl dX10_pick_69 ?_
    obtain rfl := Option.some.inj hf
    exact ro_iret hK hR dX10_pick_71 hq
  · have hf := ro_er hf
    show ro_X K 93 [] [] μ
    refine ro_iconst (v := (-1)) hK dX10_pick_93 (by decide) ?_
    obtain rfl := Option.some.inj hf
    exact ro_iret hK hR dX10_pick_94 hq
theorem mt_X10_pick (l : Launch) (G : ro_G) {o0 : Nat} {v1 : Int32} {v2 : Int32} (h0 : ro_sh o0 = (0, 10)) {μ : ro_Mem} {out : Int32} (hf : fn_X10_pick o0 v1 v2 μ = some out) : ro_MX l G yX10_pick cX10_pick 7 (some .int) 2 [.ref (ro_ad G o0), .int v1, .int v2] μ (some (.int out)) μ := by
  refine ro_MX.of (by decide +kernel) (Nat.le_of_ble_eq_true rfl) (fun K hG hl hq hK hR => ?_)
  subst hG
  exact be_X10_pick hK hR h0 hf hq
-- ===== X11_seatNumber =====
theorem dX11_seatNumber_0 : decode cX11_seatNumber 0 = .ok (.iload_n 0, 1) := by decide +kernel
theorem dX11_seatNumber_1 : decode cX11_seatNumber 1 = .ok (.ifCond .lt 23, 3) := by decide +kernel
theorem dX11_seatNumber_4 : decode cX11_seatNumber 4 = .ok (.iload_n 0, 1) := by decide +kernel
theorem dX11_seatNumber_5 : decode cX11_seatNumber 5 = .ok (.bipush 8, 2) := by decide +kernel
theorem dX11_seatNumber_7 : decode cX11_seatNumber 7 = .ok (.if_icmp .ge 17, 3) := by decide +kernel
theorem dX11_seatNumber_10 : decode cX11_seatNumber 10 = .ok (.iload_n 1, 1) := by decide +kernel
theorem dX11_seatNumber_11 : decode cX11_seatNumber 11 = .ok (.ifCond .lt 13, 3) := by decide +kernel
theorem dX11_seatNumber_14 : decode cX11_seatNumber 14 = .ok (.iload_n 1, 1) := by decide +kernel
theorem dX11_seatNumber_15 : decode cX11_seatNumber 15 = .ok (.bipush 12, 2) := by decide +kernel
theorem dX11_seatNumber_17 : decode cX11_seatNumber 17 = .ok (.if_icmp .ge 7, 3) := by decide +kernel
theorem dX11_seatNumber_20 : decode cX11_seatNumber 20 = .ok (.iconst 1, 1) := by decide +kernel
theorem dX11_seatNumber_21 : decode cX11_seatNumber 21 = .ok (.goto 4, 3) := by decide +kernel
theorem dX11_seatNumber_24 : decode cX11_seatNumber 24 = .ok (.iconst 0, 1) := by decide +kernel
theorem dX11_seatNumber_25 : decode cX11_seatNumber 25 = .ok (.istore_n 2, 1) := by decide +kernel
theorem dX11_seatNumber_26 : decode cX11_seatNumber 26 = .ok (.iload_n 2, 1) := by decide +kernel
theorem dX11_seatNumber_27 : decode cX11_seatNumber 27 = .ok (.ifCond .eq 12, 3) := by decide +kernel
theorem dX11_seatNumber_30 : decode cX11_seatNumber 30 = .ok (.iload_n 0, 1) := by decide +kernel
theorem dX11_seatNumber_31 : decode cX11_seatNumber 31 = .ok (.bipush 12, 2) := by decide +kernel
theorem dX11_seatNumber_33 : decode cX11_seatNumber 33 = .ok (.imul, 1) := by decide +kernel
theorem dX11_seatNumber_34 : decode cX11_seatNumber 34 = .ok (.iload_n 1, 1) := by decide +kernel
theorem dX11_seatNumber_35 : decode cX11_seatNumber 35 = .ok (.iadd, 1) := by decide +kernel
theorem dX11_seatNumber_36 : decode cX11_seatNumber 36 = .ok (.goto 4, 3) := by decide +kernel
theorem dX11_seatNumber_39 : decode cX11_seatNumber 39 = .ok (.iconst (-1), 1) := by decide +kernel
theorem dX11_seatNumber_40 : decode cX11_seatNumber 40 = .ok (.ireturn, 1) := by decide +kernel
def fj_X11_seatNumber_25 (v0 : Int32) (v1 : Int32) (t0 : Int32) : Option Int32 :=
  if t0 = 0 then
  (some (-1))
  else
  (some ((v0 * 12) + v1))
theorem bj_X11_seatNumber_25 {K : ro_K} (hK : ro_C K RX11 cX11_seatNumber 3 0) (hR : ro_R K (some .int)) {v0 : Int32} {v1 : Int32} {t0 : Int32}   {μ : ro_Mem}  {out : Int32} (hf : fj_X11_seatNumber_25 v0 v1 t0 = some out) (hq : kQ K (some (.int out)) μ) : ro_X K 25 [(0, .int v0), (1, .int v1)] [.int t0] μ := by
  unfold fj_X11_seatNumber_25 at hf
  refine ro_istore_n (L' := [(2, .int t0), (0, .int v0), (1, .int v1)]) hK dX11_seatNumber_25 rfl (by decide) rfl ?_
  refine ro_iload_n hK 0 rfl dX11_seatNumber_26 rfl ?_
  refine ro_if_eq hK 39 dX11_seatNumber_27 (by decide) (fun c2 => ?_) (fun c2 => ?_)
  · have hf := ro_it hf c2
    refine ro_iconst (v := (-1)) hK dX11_seatNumber_39 (by decide) ?_
    obtain rfl := Option.some.inj hf
    exact ro_iret hK hR dX11_seatNumber_40 hq
  · have hf := ro_ie hf c2
    refine ro_iload_n hK 1 rfl dX11_seatNumber_30 rfl ?_
    refine ro_bipush (v := 12) hK dX11_seatNumber_31 (by decide) ?_
    refine ro_imul hK dX11_seatNumber_33 ?_
    refine ro_iload_n hK 2 rfl dX11_seatNumber_34 rfl ?_
    refine ro_iadd hK dX11_seatNumber_35 ?_
    refine ro_goto hK 40 dX11_seatNumber_36 (by decide) ?_
    obtain rfl := Option.some.inj hf
    exact ro_iret hK hR dX11_seatNumber_40 hq
def fj_X11_seatNumber_24 (v0 : Int32) (v1 : Int32) : Option Int32 :=
  fj_X11_seatNumber_25 v0 v1 0
theorem bj_X11_seatNumber_24 {K : ro_K} (hK : ro_C K RX11 cX11_seatNumber 3 0) (hR : ro_R K (some .int)) {v0 : Int32} {v1 : Int32}   {μ : ro_Mem}  {out : Int32} (hf : fj_X11_seatNumber_24 v0 v1 = some out) (hq : kQ K (some (.int out)) μ) : ro_X K 24 [(0, .int v0), (1, .int v1)] [] μ := by
  unfold fj_X11_seatNumber_24 at hf
  refine ro_iconst (v := 0) hK dX11_seatNumber_24 (by decide) ?_
  exact bj_X11_seatNumber_25 hK hR  hf hq
def fn_X11_seatNumber (v0 : Int32) (v1 : Int32) : Option Int32 :=
  if v0 < 0 then
  (fj_X11_seatNumber_24 v0 v1)
  else
  (if 8 ≤ v0 then
  (fj_X11_seatNumber_24 v0 v1)
  else
  (if v1 < 0 then
  (fj_X11_seatNumber_24 v0 v1)
  else
  (if 12 ≤ v1 then
  (fj_X11_seatNumber_24 v0 v1)
  else
  (fj_X11_seatNumber_25 v0 v1 1))))
theorem be_X11_seatNumber {K : ro_K} (hK : ro_C K RX11 cX11_seatNumber 3 0) (hR : ro_R K (some .int)) {v0 : Int32} {v1 : Int32}  {μ : ro_Mem} {out : Int32} (hf : fn_X11_seatNumber v0 v1 = some out) (hq : kQ K (some (.int out)) μ) : ro_X K 0 [(0, .int v0), (1, .int v1)] [] μ := by
  unfold fn_X11_seatNumber at hf
  refine ro_iload_n hK 0 rfl dX11_seatNumber_0 rfl ?_
  refine ro_if_lt hK 24 dX11_seatNumber_1 (by decide) (fun c1 => ?_) (fun c1 => ?_)
  · have hf := ro_it hf c1
    exact bj_X11_seatNumber_24 hK hR  hf hq
  · have hf := ro_ie hf c1
    refine ro_iload_n hK 0 rfl dX11_seatNumber_4 rfl ?_
    refine ro_bipush (v := 8) hK dX11_seatNumber_5 (by decide) ?_
    refine ro_icmp_ge hK 24 dX11_seatNumber_7 (by decide) (fun c3 => ?_) (fun c3 => ?_)
    · have hf := ro_it hf c3
      exact bj_X11_seatNumber_24 hK hR  hf hq
    · have hf := ro_ie hf c3
      refine ro_iload_n hK 1 rfl dX11_seatNumber_10 rfl ?_
      refine ro_if_lt hK 24 dX11_seatNumber_11 (by decide) (fun c4 => ?_) (fun c4 => ?_)
      · have hf := ro_it hf c4
        exact bj_X11_seatNumber_24 hK hR  hf hq
      · have hf := ro_ie hf c4
        refine ro_iload_n hK 1 rfl dX11_seatNumber_14 rfl ?_
        refine ro_bipush (v := 12) hK dX11_seatNumber_15 (by decide) ?_
        refine ro_icmp_ge hK 24 dX11_seatNumber_17 (by decide) (fun c5 => ?_) (fun c5 => ?_)
        · have hf := ro_it hf c5
          exact bj_X11_seatNumber_24 hK hR  hf hq
        · have hf := ro_ie hf c5
          refine ro_iconst (v := 1) hK dX11_seatNumber_20 (by decide) ?_
          refine ro_goto hK 25 dX11_seatNumber_21 (by decide) ?_
          exact bj_X11_seatNumber_25 hK hR  hf hq
theorem mt_X11_seatNumber (l : Launch) (G : ro_G) {v0 : Int32} {v1 : Int32}  {μ : ro_Mem} {out : Int32} (hf : fn_X11_seatNumber v0 v1 = some out) : ro_MX l G yX11_seatNumber cX11_seatNumber 3 (some .int) 0 [.int v0, .int v1] μ (some (.int out)) μ := by
  refine ro_MX.of (by decide +kernel) (Nat.le_of_ble_eq_true rfl) (fun K hG hl hq hK hR => ?_)
  subst hG
  exact be_X11_seatNumber hK hR  hf hq
-- ===== X11_seat =====
theorem dX11_seat_0 : decode cX11_seat 0 = .ok (.iload_n 1, 1) := by decide +kernel
theorem dX11_seat_1 : decode cX11_seat 1 = .ok (.iload_n 2, 1) := by decide +kernel
theorem dX11_seat_2 : decode cX11_seat 2 = .ok (.invokestatic 85, 3) := by decide +kernel
theorem dX11_seat_5 : decode cX11_seat 5 = .ok (.istore 5, 2) := by decide +kernel
theorem dX11_seat_7 : decode cX11_seat 7 = .ok (.iload 5, 2) := by decide +kernel
theorem dX11_seat_9 : decode cX11_seat 9 = .ok (.iconst (-1), 1) := by decide +kernel
theorem dX11_seat_10 : decode cX11_seat 10 = .ok (.if_icmp .eq 15, 3) := by decide +kernel
theorem dX11_seat_13 : decode cX11_seat 13 = .ok (.iload 4, 2) := by decide +kernel
theorem dX11_seat_15 : decode cX11_seat 15 = .ok (.ifCond .lt 10, 3) := by decide +kernel
theorem dX11_seat_18 : decode cX11_seat 18 = .ok (.iload 4, 2) := by decide +kernel
theorem dX11_seat_20 : decode cX11_seat 20 = .ok (.bipush 99, 2) := by decide +kernel
theorem dX11_seat_22 : decode cX11_seat 22 = .ok (.if_icmp .le 5, 3) := by decide +kernel
theorem dX11_seat_25 : decode cX11_seat 25 = .ok (.iconst 0, 1) := by decide +kernel
theorem dX11_seat_26 : decode cX11_seat 26 = .ok (.ireturn, 1) := by decide +kernel
theorem dX11_seat_27 : decode cX11_seat 27 = .ok (.aload_n 0, 1) := by decide +kernel
theorem dX11_seat_28 : decode cX11_seat 28 = .ok (.getfield 10, 3) := by decide +kernel
theorem dX11_seat_31 : decode cX11_seat 31 = .ok (.getfield 89, 3) := by decide +kernel
theorem dX11_seat_34 : decode cX11_seat 34 = .ok (.getfield 92, 3) := by decide +kernel
theorem dX11_seat_37 : decode cX11_seat 37 = .ok (.iload 5, 2) := by decide +kernel
theorem dX11_seat_39 : decode cX11_seat 39 = .ok (.iload_n 3, 1) := by decide +kernel
theorem dX11_seat_40 : decode cX11_seat 40 = .ok (.bastore, 1) := by decide +kernel
theorem dX11_seat_41 : decode cX11_seat 41 = .ok (.aload_n 0, 1) := by decide +kernel
theorem dX11_seat_42 : decode cX11_seat 42 = .ok (.getfield 10, 3) := by decide +kernel
theorem dX11_seat_45 : decode cX11_seat 45 = .ok (.getfield 89, 3) := by decide +kernel
theorem dX11_seat_48 : decode cX11_seat 48 = .ok (.getfield 96, 3) := by decide +kernel
theorem dX11_seat_51 : decode cX11_seat 51 = .ok (.iload 5, 2) := by decide +kernel
theorem dX11_seat_53 : decode cX11_seat 53 = .ok (.iload 4, 2) := by decide +kernel
theorem dX11_seat_55 : decode cX11_seat 55 = .ok (.iastore, 1) := by decide +kernel
theorem dX11_seat_56 : decode cX11_seat 56 = .ok (.aload_n 0, 1) := by decide +kernel
theorem dX11_seat_57 : decode cX11_seat 57 = .ok (.iconst 1, 1) := by decide +kernel
theorem dX11_seat_58 : decode cX11_seat 58 = .ok (.putfield 51, 3) := by decide +kernel
theorem dX11_seat_61 : decode cX11_seat 61 = .ok (.iconst 1, 1) := by decide +kernel
theorem dX11_seat_62 : decode cX11_seat 62 = .ok (.ireturn, 1) := by decide +kernel
def fn_X11_seat (v1 : Int32) (v2 : Int32) (v3 : Int32) (v4 : Int32) (μ : ro_Mem) : Option (Int32 × ro_Mem) :=
  (fn_X11_seatNumber v1 v2).bind fun q1 =>
  if q1 = (-1) then
  (some (0, μ))
  else
  (if v4 < 0 then
  (some (0, μ))
  else
  (if v4 ≤ 99 then
  (if ro_in q1 96 then
  (ro_lt (ro_set μ 3 q1.toNatClampNeg (vp_nar .boolean v3)) fun m7 =>
  ro_lt (ro_set m7 4 q1.toNatClampNeg v4) fun m9 =>
  ro_lt (ro_set m9 0 7 1) fun m11 =>
  some (1, m11)) else none)
  else
  (some (0, μ))))
theorem be_X11_seat {K : ro_K} (hK : ro_C K RX11 cX11_seat 6 1) (hR : ro_R K (some .boolean)) {v1 : Int32} {v2 : Int32} {v3 : Int32} {v4 : Int32}  {μ : ro_Mem} {out : Int32 × ro_Mem} (hf : fn_X11_seat v1 v2 v3 v4 μ = some out) (hq : kQ K (some (.int out.1)) out.2) : ro_X K 0 [(0, .ref (ro_ad (kG K) 0)), (1, .int v1), (2, .int v2), (3, .int v3), (4, .int v4)] [] μ := by
  unfold fn_X11_seat at hf
  refine ro_iload_n hK 1 rfl dX11_seat_0 rfl ?_
  refine ro_iload_n hK 2 rfl dX11_seat_1 rfl ?_
  obtain ⟨q1, e2, hf⟩ := ro_bd hf
  refine ro_callsi hK [.int v1, .int v2] ml_X11_85 ms_X11_seatNumber (mt_X11_seatNumber (kl K) (kG K)  e2) (by decide) rfl rfl (Nat.le_of_ble_eq_true rfl) dX11_seat_2 ?_
  refine ro_istore (L' := [(5, .int q1), (0, .ref (ro_ad (kG K) 0)), (1, .int v1), (2, .int v2), (3, .int v3), (4, .int v4)]) hK dX11_seat_5 (by decide) rfl ?_
  refine ro_iload hK 0 rfl dX11_seat_7 ?_
  refine ro_iconst (v := (-1)) hK dX11_seat_9 (by decide) ?_
  refine ro_icmp_eq hK 25 dX11_seat_10 (by decide) (fun c3 => ?_) (fun c3 => ?_)
  · have hf := ro_it hf c3
    refine ro_iconst (v := 0) hK dX11_seat_25 (by decide) ?_
    obtain rfl := Option.some.inj hf
    exact ro_zret hK hR dX11_seat_26 (by decide) hq
  · have hf := ro_ie hf c3
    refine ro_iload hK 5 rfl dX11_seat_13 ?_
    refine ro_if_lt hK 25 dX11_seat_15 (by decide) (fun c4 => ?_) (fun c4 => ?_)
    · have hf := ro_it hf c4
      refine ro_iconst (v := 0) hK dX11_seat_25 (by decide) ?_
      obtain rfl := Option.some.inj hf
      exact ro_zret hK hR dX11_seat_26 (by decide) hq
    · have hf := ro_ie hf c4
      refine ro_iload hK 5 rfl dX11_seat_18 ?_
      refine ro_bipush (v := 99) hK dX11_seat_20 (by decide) ?_
      refine ro_icmp_le hK 27 dX11_seat_22 (by decide) (fun c5 => ?_) (fun c5 => ?_)
      · have hf := ro_it hf c5
        refine ro_aload_n hK 1 rfl dX11_seat_27 rfl ?_
        refine ro_getr hK fl_X11_10 sh_0 dX11_seat_28 ?_
        refine ro_getr hK fl_X11_89 sh_1 dX11_seat_31 ?_
        refine ro_getr hK fl_X11_92 sh_2 dX11_seat_34 ?_
        refine ro_iload hK 0 rfl dX11_seat_37 ?_
        refine ro_iload_n hK 4 rfl dX11_seat_39 rfl ?_
        obtain ⟨g6, hf⟩ := ro_gd hf
        obtain ⟨m7, e8, hf⟩ := ro_ld hf
        refine ro_zast hK sh_3 g6 dX11_seat_40 ?_
        refine ro_mv e8 ?_
        refine ro_aload_n hK 1 rfl dX11_seat_41 rfl ?_
        refine ro_getr hK fl_X11_10 sh_0 dX11_seat_42 ?_
        refine ro_getr hK fl_X11_89 sh_1 dX11_seat_45 ?_
        refine ro_getr hK fl_X11_96 sh_2 dX11_seat_48 ?_
        refine ro_iload hK 0 rfl dX11_seat_51 ?_
        refine ro_iload hK 5 rfl dX11_seat_53 ?_
        obtain ⟨m9, e10, hf⟩ := ro_ld hf
        refine ro_iast hK sh_4 g6 dX11_seat_55 ?_
        refine ro_mv e10 ?_
        refine ro_aload_n hK 1 rfl dX11_seat_56 rfl ?_
        refine ro_iconst (v := 1) hK dX11_seat_57 (by decide) ?_
        obtain ⟨m11, e12, hf⟩ := ro_ld hf
        refine ro_putz hK fl_X11_51 sh_0 (by decide) dX11_seat_58 ?_
        refine ro_mv e12 ?_
        refine ro_iconst (v := 1) hK dX11_seat_61 (by decide) ?_
        obtain rfl := Option.some.inj hf
        exact ro_zret hK hR dX11_seat_62 (by decide) hq
      · have hf := ro_ie hf c5
        refine ro_iconst (v := 0) hK dX11_seat_25 (by decide) ?_
        obtain rfl := Option.some.inj hf
        exact ro_zret hK hR dX11_seat_26 (by decide) hq
theorem mt_X11_seat (l : Launch) (G : ro_G) {v1 : Int32} {v2 : Int32} {v3 : Int32} {v4 : Int32}  {μ : ro_Mem} {out : Int32 × ro_Mem} (hf : fn_X11_seat v1 v2 v3 v4 μ = some out) : ro_MX l G yX11_seat cX11_seat 6 (some .boolean) 1 [.ref (ro_ad G 0), .int v1, .int v2, .int v3, .int v4] μ (some (.int out.1)) out.2 := by
  refine ro_MX.of (by decide +kernel) (Nat.le_of_ble_eq_true rfl) (fun K hG hl hq hK hR => ?_)
  subst hG
  exact be_X11_seat hK hR  hf hq
-- ===== X11_slate =====
theorem dX11_slate_0 : decode cX11_slate 0 = .ok (.iload_n 2, 1) := by decide +kernel
theorem dX11_slate_1 : decode cX11_slate 1 = .ok (.iload_n 3, 1) := by decide +kernel
theorem dX11_slate_2 : decode cX11_slate 2 = .ok (.invokestatic 85, 3) := by decide +kernel
theorem dX11_slate_5 : decode cX11_slate 5 = .ok (.istore 6, 2) := by decide +kernel
theorem dX11_slate_7 : decode cX11_slate 7 = .ok (.iload_n 1, 1) := by decide +kernel
theorem dX11_slate_8 : decode cX11_slate 8 = .ok (.ifCond .lt 34, 3) := by decide +kernel
theorem dX11_slate_11 : decode cX11_slate 11 = .ok (.iload_n 1, 1) := by decide +kernel
theorem dX11_slate_12 : decode cX11_slate 12 = .ok (.bipush 16, 2) := by decide +kernel
theorem dX11_slate_14 : decode cX11_slate 14 = .ok (.if_icmp .ge 28, 3) := by decide +kernel
theorem dX11_slate_17 : decode cX11_slate 17 = .ok (.iload 6, 2) := by decide +kernel
theorem dX11_slate_19 : decode cX11_slate 19 = .ok (.iconst (-1), 1) := by decide +kernel
theorem dX11_slate_20 : decode cX11_slate 20 = .ok (.if_icmp .eq 22, 3) := by decide +kernel
theorem dX11_slate_23 : decode cX11_slate 23 = .ok (.iload 4, 2) := by decide +kernel
theorem dX11_slate_25 : decode cX11_slate 25 = .ok (.ifCond .lt 17, 3) := by decide +kernel
theorem dX11_slate_28 : decode cX11_slate 28 = .ok (.iload 5, 2) := by decide +kernel
theorem dX11_slate_30 : decode cX11_slate 30 = .ok (.bipush 48, 2) := by decide +kernel
theorem dX11_slate_32 : decode cX11_slate 32 = .ok (.if_icmp .ge 10, 3) := by decide +kernel
theorem dX11_slate_35 : decode cX11_slate 35 = .ok (.iload 4, 2) := by decide +kernel
theorem dX11_slate_37 : decode cX11_slate 37 = .ok (.iload 5, 2) := by decide +kernel
theorem dX11_slate_39 : decode cX11_slate 39 = .ok (.if_icmp .le 5, 3) := by decide +kernel
theorem dX11_slate_42 : decode cX11_slate 42 = .ok (.iconst 0, 1) := by decide +kernel
theorem dX11_slate_43 : decode cX11_slate 43 = .ok (.ireturn, 1) := by decide +kernel
theorem dX11_slate_44 : decode cX11_slate 44 = .ok (.aload_n 0, 1) := by decide +kernel
theorem dX11_slate_45 : decode cX11_slate 45 = .ok (.getfield 10, 3) := by decide +kernel
theorem dX11_slate_48 : decode cX11_slate 48 = .ok (.getfield 89, 3) := by decide +kernel
theorem dX11_slate_51 : decode cX11_slate 51 = .ok (.iload_n 1, 1) := by decide +kernel
theorem dX11_slate_52 : decode cX11_slate 52 = .ok (.iload 6, 2) := by decide +kernel
theorem dX11_slate_54 : decode cX11_slate 54 = .ok (.iload 4, 2) := by decide +kernel
theorem dX11_slate_56 : decode cX11_slate 56 = .ok (.iload 5, 2) := by decide +kernel
theorem dX11_slate_58 : decode cX11_slate 58 = .ok (.invokevirtual 100, 3) := by decide +kernel
theorem dX11_slate_61 : decode cX11_slate 61 = .ok (.aload_n 0, 1) := by decide +kernel
theorem dX11_slate_62 : decode cX11_slate 62 = .ok (.iconst 1, 1) := by decide +kernel
theorem dX11_slate_63 : decode cX11_slate 63 = .ok (.putfield 51, 3) := by decide +kernel
theorem dX11_slate_66 : decode cX11_slate 66 = .ok (.iconst 1, 1) := by decide +kernel
theorem dX11_slate_67 : decode cX11_slate 67 = .ok (.ireturn, 1) := by decide +kernel
def fn_X11_slate (v1 : Int32) (v2 : Int32) (v3 : Int32) (v4 : Int32) (v5 : Int32) (μ : ro_Mem) : Option (Int32 × ro_Mem) :=
  (fn_X11_seatNumber v2 v3).bind fun q1 =>
  if v1 < 0 then
  (some (0, μ))
  else
  (if 16 ≤ v1 then
  (some (0, μ))
  else
  (if q1 = (-1) then
  (some (0, μ))
  else
  (if v4 < 0 then
  (some (0, μ))
  else
  (if 48 ≤ v5 then
  (some (0, μ))
  else
  (if v4 ≤ v5 then
  ((fn_X1_putSlate 2 v1 q1 v4 v5 μ).bind fun q9 =>
  ro_lt (ro_set q9 0 7 1) fun m11 =>
  some (1, m11))
  else
  (some (0, μ)))))))
theorem be_X11_slate {K : ro_K} (hK : ro_C K RX11 cX11_slate 7 1) (hR : ro_R K (some .boolean)) {v1 : Int32} {v2 : Int32} {v3 : Int32} {v4 : Int32} {v5 : Int32}  {μ : ro_Mem} {out : Int32 × ro_Mem} (hf : fn_X11_slate v1 v2 v3 v4 v5 μ = some out) (hq : kQ K (some (.int out.1)) out.2) : ro_X K 0 [(0, .ref (ro_ad (kG K) 0)), (1, .int v1), (2, .int v2), (3, .int v3), (4, .int v4), (5, .int v5)] [] μ := by
  unfold fn_X11_slate at hf
  refine ro_iload_n hK 2 rfl dX11_slate_0 rfl ?_
  refine ro_iload_n hK 3 rfl dX11_slate_1 rfl ?_
  obtain ⟨q1, e2, hf⟩ := ro_bd hf
  refine ro_callsi hK [.int v2, .int v3] ml_X11_85 ms_X11_seatNumber (mt_X11_seatNumber (kl K) (kG K)  e2) (by decide) rfl rfl (Nat.le_of_ble_eq_true rfl) dX11_slate_2 ?_
  refine ro_istore (L' := [(6, .int q1), (0, .ref (ro_ad (kG K) 0)), (1, .int v1), (2, .int v2), (3, .int v3), (4, .int v4), (5, .int v5)]) hK dX11_slate_5 (by decide) rfl ?_
  refine ro_iload_n hK 2 rfl dX11_slate_7 rfl ?_
  refine ro_if_lt hK 42 dX11_slate_8 (by decide) (fun c3 => ?_) (fun c3 => ?_)
  · have hf := ro_it hf c3
    refine ro_iconst (v := 0) hK dX11_slate_42 (by decide) ?_
    obtain rfl := Option.some.inj hf
    exact ro_zret hK hR dX11_slate_43 (by decide) hq
  · have hf := ro_ie hf c3
    refine ro_iload_n hK 2 rfl dX11_slate_11 rfl ?_
    refine ro_bipush (v := 16) hK dX11_slate_12 (by decide) ?_
    refine ro_icmp_ge hK 42 dX11_slate_14 (by decide) (fun c4 => ?_) (fun c4 => ?_)
    · have hf := ro_it hf c4
      refine ro_iconst (v := 0) hK dX11_slate_42 (by decide) ?_
      obtain rfl := Option.some.inj hf
      exact ro_zret hK hR dX11_slate_43 (by decide) hq
    · have hf := ro_ie hf c4
      refine ro_iload hK 0 rfl dX11_slate_17 ?_
      refine ro_iconst (v := (-1)) hK dX11_slate_19 (by decide) ?_
      refine ro_icmp_eq hK 42 dX11_slate_20 (by decide) (fun c5 => ?_) (fun c5 => ?_)
      · have hf := ro_it hf c5
        refine ro_iconst (v := 0) hK dX11_slate_42 (by decide) ?_
        obtain rfl := Option.some.inj hf
        exact ro_zret hK hR dX11_slate_43 (by decide) hq
      · have hf := ro_ie hf c5
        refine ro_iload hK 5 rfl dX11_slate_23 ?_
        refine ro_if_lt hK 42 dX11_slate_25 (by decide) (fun c6 => ?_) (fun c6 => ?_)
        · have hf := ro_it hf c6
          refine ro_iconst (v := 0) hK dX11_slate_42 (by decide) ?_
          obtain rfl := Option.some.inj hf
          exact ro_zret hK hR dX11_slate_43 (by decide) hq
        · have hf := ro_ie hf c6
          refine ro_iload hK 6 rfl dX11_slate_28 ?_
          refine ro_bipush (v := 48) hK dX11_slate_30 (by decide) ?_
          refine ro_icmp_ge hK 42 dX11_slate_32 (by decide) (fun c7 => ?_) (fun c7 => ?_)
          · have hf := ro_it hf c7
            refine ro_iconst (v := 0) hK dX11_slate_42 (by decide) ?_
            obtain rfl := Option.some.inj hf
            exact ro_zret hK hR dX11_slate_43 (by decide) hq
          · have hf := ro_ie hf c7
            refine ro_iload hK 5 rfl dX11_slate_35 ?_
            refine ro_iload hK 6 rfl dX11_slate_37 ?_
            refine ro_icmp_le hK 44 dX11_slate_39 (by decide) (fun c8 => ?_) (fun c8 => ?_)
            · have hf := ro_it hf c8
              refine ro_aload_n hK 1 rfl dX11_slate_44 rfl ?_
              refine ro_getr hK fl_X11_10 sh_0 dX11_slate_45 ?_
              refine ro_getr hK fl_X11_89 sh_1 dX11_slate_48 ?_
              refine ro_iload_n hK 2 rfl dX11_slate_51 rfl ?_
              refine ro_iload hK 0 rfl dX11_slate_52 ?_
              refine ro_iload hK 5 rfl dX11_slate_54 ?_
              refine ro_iload hK 6 rfl dX11_slate_56 ?_
              obtain ⟨q9, e10, hf⟩ := ro_bd hf
              refine ro_callvv hK [.int v1, .int q1, .int v4, .int v5] ml_X11_100 mv_X1_putSlate (mt_X1_putSlate (kl K) (kG K) sh_2 e10) sh_2 ⟨_, rfl, rfl⟩ (by decide) rfl rfl (Nat.le_of_ble_eq_true rfl) dX11_slate_58 ?_
              refine ro_aload_n hK 1 rfl dX11_slate_61 rfl ?_
              refine ro_iconst (v := 1) hK dX11_slate_62 (by decide) ?_
              obtain ⟨m11, e12, hf⟩ := ro_ld hf
              refine ro_putz hK fl_X11_51 sh_0 (by decide) dX11_slate_63 ?_
              refine ro_mv e12 ?_
              refine ro_iconst (v := 1) hK dX11_slate_66 (by decide) ?_
              obtain rfl := Option.some.inj hf
              exact ro_zret hK hR dX11_slate_67 (by decide) hq
            · have hf := ro_ie hf c8
              refine ro_iconst (v := 0) hK dX11_slate_42 (by decide) ?_
              obtain rfl := Option.some.inj hf
              exact ro_zret hK hR dX11_slate_43 (by decide) hq
theorem mt_X11_slate (l : Launch) (G : ro_G) {v1 : Int32} {v2 : Int32} {v3 : Int32} {v4 : Int32} {v5 : Int32}  {μ : ro_Mem} {out : Int32 × ro_Mem} (hf : fn_X11_slate v1 v2 v3 v4 v5 μ = some out) : ro_MX l G yX11_slate cX11_slate 7 (some .boolean) 1 [.ref (ro_ad G 0), .int v1, .int v2, .int v3, .int v4, .int v5] μ (some (.int out.1)) out.2 := by
  refine ro_MX.of (by decide +kernel) (Nat.le_of_ble_eq_true rfl) (fun K hG hl hq hK hR => ?_)
  subst hG
  exact be_X11_slate hK hR  hf hq
-- ===== X11_nail =====
theorem dX11_nail_0 : decode cX11_nail 0 = .ok (.aload_n 0, 1) := by decide +kernel
theorem dX11_nail_1 : decode cX11_nail 1 = .ok (.getfield 10, 3) := by decide +kernel
theorem dX11_nail_4 : decode cX11_nail 4 = .ok (.getfield 89, 3) := by decide +kernel
theorem dX11_nail_7 : decode cX11_nail 7 = .ok (.astore_n 3, 1) := by decide +kernel
theorem dX11_nail_8 : decode cX11_nail 8 = .ok (.aload_n 3, 1) := by decide +kernel
theorem dX11_nail_9 : decode cX11_nail 9 = .ok (.iload_n 1, 1) := by decide +kernel
theorem dX11_nail_10 : decode cX11_nail 10 = .ok (.invokevirtual 104, 3) := by decide +kernel
theorem dX11_nail_13 : decode cX11_nail 13 = .ok (.ifCond .eq 12, 3) := by decide +kernel
theorem dX11_nail_16 : decode cX11_nail 16 = .ok (.aload_n 3, 1) := by decide +kernel
theorem dX11_nail_17 : decode cX11_nail 17 = .ok (.iload_n 1, 1) := by decide +kernel
theorem dX11_nail_18 : decode cX11_nail 18 = .ok (.invokevirtual 108, 3) := by decide +kernel
theorem dX11_nail_21 : decode cX11_nail 21 = .ok (.iload_n 2, 1) := by decide +kernel
theorem dX11_nail_22 : decode cX11_nail 22 = .ok (.if_icmp .ne 5, 3) := by decide +kernel
theorem dX11_nail_25 : decode cX11_nail 25 = .ok (.iconst 0, 1) := by decide +kernel
theorem dX11_nail_26 : decode cX11_nail 26 = .ok (.ireturn, 1) := by decide +kernel
theorem dX11_nail_27 : decode cX11_nail 27 = .ok (.aload_n 3, 1) := by decide +kernel
theorem dX11_nail_28 : decode cX11_nail 28 = .ok (.dup, 1) := by decide +kernel
theorem dX11_nail_29 : decode cX11_nail 29 = .ok (.getfield 111, 3) := by decide +kernel
theorem dX11_nail_32 : decode cX11_nail 32 = .ok (.iconst 1, 1) := by decide +kernel
theorem dX11_nail_33 : decode cX11_nail 33 = .ok (.iload_n 1, 1) := by decide +kernel
theorem dX11_nail_34 : decode cX11_nail 34 = .ok (.ishl, 1) := by decide +kernel
theorem dX11_nail_35 : decode cX11_nail 35 = .ok (.ixor, 1) := by decide +kernel
theorem dX11_nail_36 : decode cX11_nail 36 = .ok (.putfield 111, 3) := by decide +kernel
theorem dX11_nail_39 : decode cX11_nail 39 = .ok (.aload_n 0, 1) := by decide +kernel
theorem dX11_nail_40 : decode cX11_nail 40 = .ok (.iconst 1, 1) := by decide +kernel
theorem dX11_nail_41 : decode cX11_nail 41 = .ok (.putfield 51, 3) := by decide +kernel
theorem dX11_nail_44 : decode cX11_nail 44 = .ok (.iconst 1, 1) := by decide +kernel
theorem dX11_nail_45 : decode cX11_nail 45 = .ok (.ireturn, 1) := by decide +kernel
def fn_X11_nail (v1 : Int32) (v2 : Int32) (μ : ro_Mem) : Option (Int32 × ro_Mem) :=
  (fn_X1_isSlate 2 v1 μ).bind fun q1 =>
  if q1 = 0 then
  (some (0, μ))
  else
  ((fn_X1_isNailed 2 v1 μ).bind fun q4 =>
  if q4 = v2 then
  (some (0, μ))
  else
  (ro_lt (ro_set μ 2 7 ((μ 2 7) ^^^ ((1 : Int32) <<< (v1 &&& 31)))) fun m7 =>
  ro_lt (ro_set m7 0 7 1) fun m9 =>
  some (1, m9)))
theorem be_X11_nail {K : ro_K} (hK : ro_C K RX11 cX11_nail 4 1) (hR : ro_R K (some .boolean)) {v1 : Int32} {v2 : Int32}  {μ : ro_Mem} {out : Int32 × ro_Mem} (hf : fn_X11_nail v1 v2 μ = some out) (hq : kQ K (some (.int out.1)) out.2) : ro_X K 0 [(0, .ref (ro_ad (kG K) 0)), (1, .int v1), (2, .int v2)] [] μ := by
  unfold fn_X11_nail at hf
  refine ro_aload_n hK 0 rfl dX11_nail_0 rfl ?_
  refine ro_getr hK fl_X11_10 sh_0 dX11_nail_1 ?_
  refine ro_getr hK fl_X11_89 sh_1 dX11_nail_4 ?_
  refine ro_astore_n (L' := [(3, .ref (ro_ad (kG K) 2)), (0, .ref (ro_ad (kG K) 0)), (1, .int v1), (2, .int v2)]) hK dX11_nail_7 rfl (by decide) rfl ?_
  refine ro_aload_n hK 0 rfl dX11_nail_8 rfl ?_
  refine ro_iload_n hK 2 rfl dX11_nail_9 rfl ?_
  obtain ⟨q1, e2, hf⟩ := ro_bd hf
  refine ro_callvi hK [.int v1] ml_X11_104 mv_X1_isSlate (mt_X1_isSlate (kl K) (kG K) sh_2 e2) sh_2 ⟨_, rfl, rfl⟩ (by decide) rfl rfl (Nat.le_of_ble_eq_true rfl) dX11_nail_10 ?_
  refine ro_if_eq hK 25 dX11_nail_13 (by decide) (fun c3 => ?_) (fun c3 => ?_)
  · have hf := ro_it hf c3
    refine ro_iconst (v := 0) hK dX11_nail_25 (by decide) ?_
    obtain rfl := Option.some.inj hf
    exact ro_zret hK hR dX11_nail_26 (by decide) hq
  · have hf := ro_ie hf c3
    refine ro_aload_n hK 0 rfl dX11_nail_16 rfl ?_
    refine ro_iload_n hK 2 rfl dX11_nail_17 rfl ?_
    obtain ⟨q4, e5, hf⟩ := ro_bd hf
    refine ro_callvi hK [.int v1] ml_X11_108 mv_X1_isNailed (mt_X1_isNailed (kl K) (kG K) sh_2 e5) sh_2 ⟨_, rfl, rfl⟩ (by decide) rfl rfl (Nat.le_of_ble_eq_true rfl) dX11_nail_18 ?_
    refine ro_iload_n hK 3 rfl dX11_nail_21 rfl ?_
    refine ro_icmp_ne hK 27 dX11_nail_22 (by decide) (fun c6 => ?_) (fun c6 => ?_)
    · have hf := ro_ie hf c6
      refine ro_aload_n hK 0 rfl dX11_nail_27 rfl ?_
      refine ro_dup hK dX11_nail_28 rfl ?_
      refine ro_geti hK fl_X11_111 sh_2 dX11_nail_29 ?_
      refine ro_iconst (v := 1) hK dX11_nail_32 (by decide) ?_
      refine ro_iload_n hK 2 rfl dX11_nail_33 rfl ?_
      refine ro_ishl hK dX11_nail_34 ?_
      refine ro_ixor hK dX11_nail_35 ?_
      obtain ⟨m7, e8, hf⟩ := ro_ld hf
      refine ro_puti hK fl_X11_111 sh_2 rfl rfl dX11_nail_36 ?_
      refine ro_mv e8 ?_
      refine ro_aload_n hK 1 rfl dX11_nail_39 rfl ?_
      refine ro_iconst (v := 1) hK dX11_nail_40 (by decide) ?_
      obtain ⟨m9, e10, hf⟩ := ro_ld hf
      refine ro_putz hK fl_X11_51 sh_0 (by decide) dX11_nail_41 ?_
      refine ro_mv e10 ?_
      refine ro_iconst (v := 1) hK dX11_nail_44 (by decide) ?_
      obtain rfl := Option.some.inj hf
      exact ro_zret hK hR dX11_nail_45 (by decide) hq
    · have hf := ro_it hf c6
      refine ro_iconst (v := 0) hK dX11_nail_25 (by decide) ?_
      obtain rfl := Option.some.inj hf
      exact ro_zret hK hR dX11_nail_26 (by decide) hq
theorem mt_X11_nail (l : Launch) (G : ro_G) {v1 : Int32} {v2 : Int32}  {μ : ro_Mem} {out : Int32 × ro_Mem} (hf : fn_X11_nail v1 v2 μ = some out) : ro_MX l G yX11_nail cX11_nail 4 (some .boolean) 1 [.ref (ro_ad G 0), .int v1, .int v2] μ (some (.int out.1)) out.2 := by
  refine ro_MX.of (by decide +kernel) (Nat.le_of_ble_eq_true rfl) (fun K hG hl hq hK hR => ?_)
  subst hG
  exact be_X11_nail hK hR  hf hq
-- ===== X11_isAct =====
theorem dX11_isAct_0 : decode cX11_isAct 0 = .ok (.iload_n 0, 1) := by decide +kernel
theorem dX11_isAct_1 : decode cX11_isAct 1 = .ok (.ifCond .lt 12, 3) := by decide +kernel
theorem dX11_isAct_4 : decode cX11_isAct 4 = .ok (.iload_n 0, 1) := by decide +kernel
theorem dX11_isAct_5 : decode cX11_isAct 5 = .ok (.iconst 4, 1) := by decide +kernel
theorem dX11_isAct_6 : decode cX11_isAct 6 = .ok (.if_icmp .ge 7, 3) := by decide +kernel
theorem dX11_isAct_9 : decode cX11_isAct 9 = .ok (.iconst 1, 1) := by decide +kernel
theorem dX11_isAct_10 : decode cX11_isAct 10 = .ok (.goto 4, 3) := by decide +kernel
theorem dX11_isAct_13 : decode cX11_isAct 13 = .ok (.iconst 0, 1) := by decide +kernel
theorem dX11_isAct_14 : decode cX11_isAct 14 = .ok (.ireturn, 1) := by decide +kernel
def fn_X11_isAct (v0 : Int32) : Option Int32 :=
  if v0 < 0 then
  (some 0)
  else
  (if 4 ≤ v0 then
  (some 0)
  else
  (some 1))
theorem be_X11_isAct {K : ro_K} (hK : ro_C K RX11 cX11_isAct 1 0) (hR : ro_R K (some .boolean)) {v0 : Int32}  {μ : ro_Mem} {out : Int32} (hf : fn_X11_isAct v0 = some out) (hq : kQ K (some (.int out)) μ) : ro_X K 0 [(0, .int v0)] [] μ := by
  unfold fn_X11_isAct at hf
  refine ro_iload_n hK 0 rfl dX11_isAct_0 rfl ?_
  refine ro_if_lt hK 13 dX11_isAct_1 (by decide) (fun c1 => ?_) (fun c1 => ?_)
  · have hf := ro_it hf c1
    refine ro_iconst (v := 0) hK dX11_isAct_13 (by decide) ?_
    obtain rfl := Option.some.inj hf
    exact ro_zret hK hR dX11_isAct_14 (by decide) hq
  · have hf := ro_ie hf c1
    refine ro_iload_n hK 0 rfl dX11_isAct_4 rfl ?_
    refine ro_iconst (v := 4) hK dX11_isAct_5 (by decide) ?_
    refine ro_icmp_ge hK 13 dX11_isAct_6 (by decide) (fun c2 => ?_) (fun c2 => ?_)
    · have hf := ro_it hf c2
      refine ro_iconst (v := 0) hK dX11_isAct_13 (by decide) ?_
      obtain rfl := Option.some.inj hf
      exact ro_zret hK hR dX11_isAct_14 (by decide) hq
    · have hf := ro_ie hf c2
      refine ro_iconst (v := 1) hK dX11_isAct_9 (by decide) ?_
      refine ro_goto hK 14 dX11_isAct_10 (by decide) ?_
      obtain rfl := Option.some.inj hf
      exact ro_zret hK hR dX11_isAct_14 (by decide) hq
theorem mt_X11_isAct (l : Launch) (G : ro_G) {v0 : Int32}  {μ : ro_Mem} {out : Int32} (hf : fn_X11_isAct v0 = some out) : ro_MX l G yX11_isAct cX11_isAct 1 (some .boolean) 0 [.int v0] μ (some (.int out)) μ := by
  refine ro_MX.of (by decide +kernel) (Nat.le_of_ble_eq_true rfl) (fun K hG hl hq hK hR => ?_)
  subst hG
  exact be_X11_isAct hK hR  hf hq
-- ===== X11_rain =====
theorem dX11_rain_0 : decode cX11_rain 0 = .ok (.iload_n 1, 1) := by decide +kernel
theorem dX11_rain_1 : decode cX11_rain 1 = .ok (.invokestatic 115, 3) := by decide +kernel
theorem dX11_rain_4 : decode cX11_rain 4 = .ok (.ifCond .eq 13, 3) := by decide +kernel
theorem dX11_rain_7 : decode cX11_rain 7 = .ok (.iload_n 2, 1) := by decide +kernel
theorem dX11_rain_8 : decode cX11_rain 8 = .ok (.ifCond .lt 9, 3) := by decide +kernel
theorem dX11_rain_11 : decode cX11_rain 11 = .ok (.iload_n 2, 1) := by decide +kernel
theorem dX11_rain_12 : decode cX11_rain 12 = .ok (.bipush 9, 2) := by decide +kernel
theorem dX11_rain_14 : decode cX11_rain 14 = .ok (.if_icmp .le 5, 3) := by decide +kernel
theorem dX11_rain_17 : decode cX11_rain 17 = .ok (.iconst 0, 1) := by decide +kernel
theorem dX11_rain_18 : decode cX11_rain 18 = .ok (.ireturn, 1) := by decide +kernel
theorem dX11_rain_19 : decode cX11_rain 19 = .ok (.aload_n 0, 1) := by decide +kernel
theorem dX11_rain_20 : decode cX11_rain 20 = .ok (.getfield 10, 3) := by decide +kernel
theorem dX11_rain_23 : decode cX11_rain 23 = .ok (.getfield 89, 3) := by decide +kernel
theorem dX11_rain_26 : decode cX11_rain 26 = .ok (.getfield 118, 3) := by decide +kernel
theorem dX11_rain_29 : decode cX11_rain 29 = .ok (.iload_n 1, 1) := by decide +kernel
theorem dX11_rain_30 : decode cX11_rain 30 = .ok (.iload_n 2, 1) := by decide +kernel
theorem dX11_rain_31 : decode cX11_rain 31 = .ok (.iastore, 1) := by decide +kernel
theorem dX11_rain_32 : decode cX11_rain 32 = .ok (.aload_n 0, 1) := by decide +kernel
theorem dX11_rain_33 : decode cX11_rain 33 = .ok (.iconst 1, 1) := by decide +kernel
theorem dX11_rain_34 : decode cX11_rain 34 = .ok (.putfield 51, 3) := by decide +kernel
theorem dX11_rain_37 : decode cX11_rain 37 = .ok (.iconst 1, 1) := by decide +kernel
theorem dX11_rain_38 : decode cX11_rain 38 = .ok (.ireturn, 1) := by decide +kernel
def fn_X11_rain (v1 : Int32) (v2 : Int32) (μ : ro_Mem) : Option (Int32 × ro_Mem) :=
  (fn_X11_isAct v1).bind fun q1 =>
  if q1 = 0 then
  (some (0, μ))
  else
  (if v2 < 0 then
  (some (0, μ))
  else
  (if v2 ≤ 9 then
  (if ro_in v1 4 then
  (ro_lt (ro_set μ 9 v1.toNatClampNeg v2) fun m7 =>
  ro_lt (ro_set m7 0 7 1) fun m9 =>
  some (1, m9)) else none)
  else
  (some (0, μ))))
theorem be_X11_rain {K : ro_K} (hK : ro_C K RX11 cX11_rain 3 1) (hR : ro_R K (some .boolean)) {v1 : Int32} {v2 : Int32}  {μ : ro_Mem} {out : Int32 × ro_Mem} (hf : fn_X11_rain v1 v2 μ = some out) (hq : kQ K (some (.int out.1)) out.2) : ro_X K 0 [(0, .ref (ro_ad (kG K) 0)), (1, .int v1), (2, .int v2)] [] μ := by
  unfold fn_X11_rain at hf
  refine ro_iload_n hK 1 rfl dX11_rain_0 rfl ?_
  obtain ⟨q1, e2, hf⟩ := ro_bd hf
  refine ro_callsi hK [.int v1] ml_X11_115 ms_X11_isAct (mt_X11_isAct (kl K) (kG K)  e2) (by decide) rfl rfl (Nat.le_of_ble_eq_true rfl) dX11_rain_1 ?_
  refine ro_if_eq hK 17 dX11_rain_4 (by decide) (fun c3 => ?_) (fun c3 => ?_)
  · have hf := ro_it hf c3
    refine ro_iconst (v := 0) hK dX11_rain_17 (by decide) ?_
    obtain rfl := Option.some.inj hf
    exact ro_zret hK hR dX11_rain_18 (by decide) hq
  · have hf := ro_ie hf c3
    refine ro_iload_n hK 2 rfl dX11_rain_7 rfl ?_
    refine ro_if_lt hK 17 dX11_rain_8 (by decide) (fun c4 => ?_) (fun c4 => ?_)
    · have hf := ro_it hf c4
      refine ro_iconst (v := 0) hK dX11_rain_17 (by decide) ?_
      obtain rfl := Option.some.inj hf
      exact ro_zret hK hR dX11_rain_18 (by decide) hq
    · have hf := ro_ie hf c4
      refine ro_iload_n hK 2 rfl dX11_rain_11 rfl ?_
      refine ro_bipush (v := 9) hK dX11_rain_12 (by decide) ?_
      refine ro_icmp_le hK 19 dX11_rain_14 (by decide) (fun c5 => ?_) (fun c5 => ?_)
      · have hf := ro_it hf c5
        refine ro_aload_n hK 0 rfl dX11_rain_19 rfl ?_
        refine ro_getr hK fl_X11_10 sh_0 dX11_rain_20 ?_
        refine ro_getr hK fl_X11_89 sh_1 dX11_rain_23 ?_
        refine ro_getr hK fl_X11_118 sh_2 dX11_rain_26 ?_
        refine ro_iload_n hK 1 rfl dX11_rain_29 rfl ?_
        refine ro_iload_n hK 2 rfl dX11_rain_30 rfl ?_
        obtain ⟨g6, hf⟩ := ro_gd hf
        obtain ⟨m7, e8, hf⟩ := ro_ld hf
        refine ro_iast hK sh_9 g6 dX11_rain_31 ?_
        refine ro_mv e8 ?_
        refine ro_aload_n hK 0 rfl dX11_rain_32 rfl ?_
        refine ro_iconst (v := 1) hK dX11_rain_33 (by decide) ?_
        obtain ⟨m9, e10, hf⟩ := ro_ld hf
        refine ro_putz hK fl_X11_51 sh_0 (by decide) dX11_rain_34 ?_
        refine ro_mv e10 ?_
        refine ro_iconst (v := 1) hK dX11_rain_37 (by decide) ?_
        obtain rfl := Option.some.inj hf
        exact ro_zret hK hR dX11_rain_38 (by decide) hq
      · have hf := ro_ie hf c5
        refine ro_iconst (v := 0) hK dX11_rain_17 (by decide) ?_
        obtain rfl := Option.some.inj hf
        exact ro_zret hK hR dX11_rain_18 (by decide) hq
theorem mt_X11_rain (l : Launch) (G : ro_G) {v1 : Int32} {v2 : Int32}  {μ : ro_Mem} {out : Int32 × ro_Mem} (hf : fn_X11_rain v1 v2 μ = some out) : ro_MX l G yX11_rain cX11_rain 3 (some .boolean) 1 [.ref (ro_ad G 0), .int v1, .int v2] μ (some (.int out.1)) out.2 := by
  refine ro_MX.of (by decide +kernel) (Nat.le_of_ble_eq_true rfl) (fun K hG hl hq hK hR => ?_)
  subst hG
  exact be_X11_rain hK hR  hf hq
