theorem ro_shl {o t n : Nat} (h : ro_sh o = (t, n)) : ro_sh o = (t, ro_len o) := by
  rw [ro_len, h]
theorem ro_el {α β γ : Type} {f : α → Option γ} {g : β → Option γ} {a : α} {y : γ} (h : Sum.elim f g (.inl a) = some y) : f a = some y := h
theorem ro_er {α β γ : Type} {f : α → Option γ} {g : β → Option γ} {b : β} {y : γ} (h : Sum.elim f g (.inr b) = some y) : g b = some y := h
-- ===== J6_bitCount_0f7a4 =====
theorem dJ6_bitCount_0f7a4_0 : decode cJ6_bitCount_0f7a4 0 = .ok (.iload_n 0, 1) := by decide +kernel
theorem dJ6_bitCount_0f7a4_1 : decode cJ6_bitCount_0f7a4 1 = .ok (.iload_n 0, 1) := by decide +kernel
theorem dJ6_bitCount_0f7a4_2 : decode cJ6_bitCount_0f7a4 2 = .ok (.iconst 1, 1) := by decide +kernel
theorem dJ6_bitCount_0f7a4_3 : decode cJ6_bitCount_0f7a4 3 = .ok (.iushr, 1) := by decide +kernel
theorem dJ6_bitCount_0f7a4_4 : decode cJ6_bitCount_0f7a4 4 = .ok (.ldc_w 265, 3) := by decide +kernel
theorem dJ6_bitCount_0f7a4_7 : decode cJ6_bitCount_0f7a4 7 = .ok (.iand, 1) := by decide +kernel
theorem dJ6_bitCount_0f7a4_8 : decode cJ6_bitCount_0f7a4 8 = .ok (.isub, 1) := by decide +kernel
theorem dJ6_bitCount_0f7a4_9 : decode cJ6_bitCount_0f7a4 9 = .ok (.istore_n 0, 1) := by decide +kernel
theorem dJ6_bitCount_0f7a4_10 : decode cJ6_bitCount_0f7a4 10 = .ok (.iload_n 0, 1) := by decide +kernel
theorem dJ6_bitCount_0f7a4_11 : decode cJ6_bitCount_0f7a4 11 = .ok (.ldc_w 266, 3) := by decide +kernel
theorem dJ6_bitCount_0f7a4_14 : decode cJ6_bitCount_0f7a4 14 = .ok (.iand, 1) := by decide +kernel
theorem dJ6_bitCount_0f7a4_15 : decode cJ6_bitCount_0f7a4 15 = .ok (.iload_n 0, 1) := by decide +kernel
theorem dJ6_bitCount_0f7a4_16 : decode cJ6_bitCount_0f7a4 16 = .ok (.iconst 2, 1) := by decide +kernel
theorem dJ6_bitCount_0f7a4_17 : decode cJ6_bitCount_0f7a4 17 = .ok (.iushr, 1) := by decide +kernel
theorem dJ6_bitCount_0f7a4_18 : decode cJ6_bitCount_0f7a4 18 = .ok (.ldc_w 266, 3) := by decide +kernel
theorem dJ6_bitCount_0f7a4_21 : decode cJ6_bitCount_0f7a4 21 = .ok (.iand, 1) := by decide +kernel
theorem dJ6_bitCount_0f7a4_22 : decode cJ6_bitCount_0f7a4 22 = .ok (.iadd, 1) := by decide +kernel
theorem dJ6_bitCount_0f7a4_23 : decode cJ6_bitCount_0f7a4 23 = .ok (.istore_n 0, 1) := by decide +kernel
theorem dJ6_bitCount_0f7a4_24 : decode cJ6_bitCount_0f7a4 24 = .ok (.iload_n 0, 1) := by decide +kernel
theorem dJ6_bitCount_0f7a4_25 : decode cJ6_bitCount_0f7a4 25 = .ok (.iload_n 0, 1) := by decide +kernel
theorem dJ6_bitCount_0f7a4_26 : decode cJ6_bitCount_0f7a4 26 = .ok (.iconst 4, 1) := by decide +kernel
theorem dJ6_bitCount_0f7a4_27 : decode cJ6_bitCount_0f7a4 27 = .ok (.iushr, 1) := by decide +kernel
theorem dJ6_bitCount_0f7a4_28 : decode cJ6_bitCount_0f7a4 28 = .ok (.iadd, 1) := by decide +kernel
theorem dJ6_bitCount_0f7a4_29 : decode cJ6_bitCount_0f7a4 29 = .ok (.ldc_w 267, 3) := by decide +kernel
theorem dJ6_bitCount_0f7a4_32 : decode cJ6_bitCount_0f7a4 32 = .ok (.iand, 1) := by decide +kernel
theorem dJ6_bitCount_0f7a4_33 : decode cJ6_bitCount_0f7a4 33 = .ok (.istore_n 0, 1) := by decide +kernel
theorem dJ6_bitCount_0f7a4_34 : decode cJ6_bitCount_0f7a4 34 = .ok (.iload_n 0, 1) := by decide +kernel
theorem dJ6_bitCount_0f7a4_35 : decode cJ6_bitCount_0f7a4 35 = .ok (.iload_n 0, 1) := by decide +kernel
theorem dJ6_bitCount_0f7a4_36 : decode cJ6_bitCount_0f7a4 36 = .ok (.bipush 8, 2) := by decide +kernel
theorem dJ6_bitCount_0f7a4_38 : decode cJ6_bitCount_0f7a4 38 = .ok (.iushr, 1) := by decide +kernel
theorem dJ6_bitCount_0f7a4_39 : decode cJ6_bitCount_0f7a4 39 = .ok (.iadd, 1) := by decide +kernel
theorem dJ6_bitCount_0f7a4_40 : decode cJ6_bitCount_0f7a4 40 = .ok (.istore_n 0, 1) := by decide +kernel
theorem dJ6_bitCount_0f7a4_41 : decode cJ6_bitCount_0f7a4 41 = .ok (.iload_n 0, 1) := by decide +kernel
theorem dJ6_bitCount_0f7a4_42 : decode cJ6_bitCount_0f7a4 42 = .ok (.iload_n 0, 1) := by decide +kernel
theorem dJ6_bitCount_0f7a4_43 : decode cJ6_bitCount_0f7a4 43 = .ok (.bipush 16, 2) := by decide +kernel
theorem dJ6_bitCount_0f7a4_45 : decode cJ6_bitCount_0f7a4 45 = .ok (.iushr, 1) := by decide +kernel
theorem dJ6_bitCount_0f7a4_46 : decode cJ6_bitCount_0f7a4 46 = .ok (.iadd, 1) := by decide +kernel
theorem dJ6_bitCount_0f7a4_47 : decode cJ6_bitCount_0f7a4 47 = .ok (.istore_n 0, 1) := by decide +kernel
theorem dJ6_bitCount_0f7a4_48 : decode cJ6_bitCount_0f7a4 48 = .ok (.iload_n 0, 1) := by decide +kernel
theorem dJ6_bitCount_0f7a4_49 : decode cJ6_bitCount_0f7a4 49 = .ok (.bipush 63, 2) := by decide +kernel
theorem dJ6_bitCount_0f7a4_51 : decode cJ6_bitCount_0f7a4 51 = .ok (.iand, 1) := by decide +kernel
theorem dJ6_bitCount_0f7a4_52 : decode cJ6_bitCount_0f7a4 52 = .ok (.ireturn, 1) := by decide +kernel
def fn_J6_bitCount_0f7a4 (v0 : Int32) : Option Int32 :=
  ro_lt (v0 - ((ro_ush v0 1) &&& 1431655765)) fun z1 =>
  ro_lt ((z1 &&& 858993459) + ((ro_ush z1 2) &&& 858993459)) fun z3 =>
  ro_lt ((z3 + (ro_ush z3 4)) &&& 252645135) fun z5 =>
  ro_lt (z5 + (ro_ush z5 8)) fun z7 =>
  ro_lt (z7 + (ro_ush z7 16)) fun z9 =>
  some (z9 &&& 63)
theorem be_J6_bitCount_0f7a4 {K : ro_K} (hK : ro_C K RJ6 cJ6_bitCount_0f7a4 1 0) (hR : ro_R K (some .int)) {v0 : Int32}  {μ : ro_Mem} {out : Int32} (hf : fn_J6_bitCount_0f7a4 v0 = some out) (hq : kQ K (some (.int out)) μ) : ro_X K 0 [(0, .int v0)] [] μ := by
  unfold fn_J6_bitCount_0f7a4 at hf
  refine ro_iload_n hK 0 rfl dJ6_bitCount_0f7a4_0 rfl ?_
  refine ro_iload_n hK 0 rfl dJ6_bitCount_0f7a4_1 rfl ?_
  refine ro_iconst (v := 1) hK dJ6_bitCount_0f7a4_2 (by decide) ?_
  refine ro_iushr hK dJ6_bitCount_0f7a4_3 ?_
  refine ro_ldcw hK kc_J6_265 dJ6_bitCount_0f7a4_4 ?_
  refine ro_iand hK dJ6_bitCount_0f7a4_7 ?_
  refine ro_isub hK dJ6_bitCount_0f7a4_8 ?_
  obtain ⟨z1, e2, hf⟩ := ro_ld hf
  refine ro_iv e2 ?_
  refine ro_istore_n (L' := [(0, .int z1)]) hK dJ6_bitCount_0f7a4_9 rfl (by decide) rfl ?_
  refine ro_iload_n hK 0 rfl dJ6_bitCount_0f7a4_10 rfl ?_
  refine ro_ldcw hK kc_J6_266 dJ6_bitCount_0f7a4_11 ?_
  refine ro_iand hK dJ6_bitCount_0f7a4_14 ?_
  refine ro_iload_n hK 0 rfl dJ6_bitCount_0f7a4_15 rfl ?_
  refine ro_iconst (v := 2) hK dJ6_bitCount_0f7a4_16 (by decide) ?_
  refine ro_iushr hK dJ6_bitCount_0f7a4_17 ?_
  refine ro_ldcw hK kc_J6_266 dJ6_bitCount_0f7a4_18 ?_
  refine ro_iand hK dJ6_bitCount_0f7a4_21 ?_
  refine ro_iadd hK dJ6_bitCount_0f7a4_22 ?_
  obtain ⟨z3, e4, hf⟩ := ro_ld hf
  refine ro_iv e4 ?_
  refine ro_istore_n (L' := [(0, .int z3)]) hK dJ6_bitCount_0f7a4_23 rfl (by decide) rfl ?_
  refine ro_iload_n hK 0 rfl dJ6_bitCount_0f7a4_24 rfl ?_
  refine ro_iload_n hK 0 rfl dJ6_bitCount_0f7a4_25 rfl ?_
  refine ro_iconst (v := 4) hK dJ6_bitCount_0f7a4_26 (by decide) ?_
  refine ro_iushr hK dJ6_bitCount_0f7a4_27 ?_
  refine ro_iadd hK dJ6_bitCount_0f7a4_28 ?_
  refine ro_ldcw hK kc_J6_267 dJ6_bitCount_0f7a4_29 ?_
  refine ro_iand hK dJ6_bitCount_0f7a4_32 ?_
  obtain ⟨z5, e6, hf⟩ := ro_ld hf
  refine ro_iv e6 ?_
  refine ro_istore_n (L' := [(0, .int z5)]) hK dJ6_bitCount_0f7a4_33 rfl (by decide) rfl ?_
  refine ro_iload_n hK 0 rfl dJ6_bitCount_0f7a4_34 rfl ?_
  refine ro_iload_n hK 0 rfl dJ6_bitCount_0f7a4_35 rfl ?_
  refine ro_bipush (v := 8) hK dJ6_bitCount_0f7a4_36 (by decide) ?_
  refine ro_iushr hK dJ6_bitCount_0f7a4_38 ?_
  refine ro_iadd hK dJ6_bitCount_0f7a4_39 ?_
  obtain ⟨z7, e8, hf⟩ := ro_ld hf
  refine ro_iv e8 ?_
  refine ro_istore_n (L' := [(0, .int z7)]) hK dJ6_bitCount_0f7a4_40 rfl (by decide) rfl ?_
  refine ro_iload_n hK 0 rfl dJ6_bitCount_0f7a4_41 rfl ?_
  refine ro_iload_n hK 0 rfl dJ6_bitCount_0f7a4_42 rfl ?_
  refine ro_bipush (v := 16) hK dJ6_bitCount_0f7a4_43 (by decide) ?_
  refine ro_iushr hK dJ6_bitCount_0f7a4_45 ?_
  refine ro_iadd hK dJ6_bitCount_0f7a4_46 ?_
  obtain ⟨z9, e10, hf⟩ := ro_ld hf
  refine ro_iv e10 ?_
  refine ro_istore_n (L' := [(0, .int z9)]) hK dJ6_bitCount_0f7a4_47 rfl (by decide) rfl ?_
  refine ro_iload_n hK 0 rfl dJ6_bitCount_0f7a4_48 rfl ?_
  refine ro_bipush (v := 63) hK dJ6_bitCount_0f7a4_49 (by decide) ?_
  refine ro_iand hK dJ6_bitCount_0f7a4_51 ?_
  obtain rfl := Option.some.inj hf
  exact ro_iret hK hR dJ6_bitCount_0f7a4_52 hq
theorem mt_J6_bitCount_0f7a4 (l : Launch) (G : ro_G) {v0 : Int32}  {μ : ro_Mem} {out : Int32} (hf : fn_J6_bitCount_0f7a4 v0 = some out) : ro_MX l G yJ6_bitCount_0f7a4 cJ6_bitCount_0f7a4 1 (some .int) 0 [.int v0] μ (some (.int out)) μ := by
  refine ro_MX.of (by decide +kernel) (Nat.le_of_ble_eq_true rfl) (fun K hG hl hq hK hR => ?_)
  subst hG
  exact be_J6_bitCount_0f7a4 hK hR  hf hq
-- ===== J7_fill_53178 =====
theorem dJ7_fill_53178_0 : decode cJ7_fill_53178 0 = .ok (.iconst 0, 1) := by decide +kernel
theorem dJ7_fill_53178_1 : decode cJ7_fill_53178 1 = .ok (.istore_n 2, 1) := by decide +kernel
theorem dJ7_fill_53178_2 : decode cJ7_fill_53178 2 = .ok (.aload_n 0, 1) := by decide +kernel
theorem dJ7_fill_53178_3 : decode cJ7_fill_53178 3 = .ok (.arraylength, 1) := by decide +kernel
theorem dJ7_fill_53178_4 : decode cJ7_fill_53178 4 = .ok (.istore_n 3, 1) := by decide +kernel
theorem dJ7_fill_53178_5 : decode cJ7_fill_53178 5 = .ok (.iload_n 2, 1) := by decide +kernel
theorem dJ7_fill_53178_6 : decode cJ7_fill_53178 6 = .ok (.iload_n 3, 1) := by decide +kernel
theorem dJ7_fill_53178_7 : decode cJ7_fill_53178 7 = .ok (.if_icmp .ge 13, 3) := by decide +kernel
theorem dJ7_fill_53178_10 : decode cJ7_fill_53178 10 = .ok (.aload_n 0, 1) := by decide +kernel
theorem dJ7_fill_53178_11 : decode cJ7_fill_53178 11 = .ok (.iload_n 2, 1) := by decide +kernel
theorem dJ7_fill_53178_12 : decode cJ7_fill_53178 12 = .ok (.iload_n 1, 1) := by decide +kernel
theorem dJ7_fill_53178_13 : decode cJ7_fill_53178 13 = .ok (.iastore, 1) := by decide +kernel
theorem dJ7_fill_53178_14 : decode cJ7_fill_53178 14 = .ok (.iinc 2 1, 3) := by decide +kernel
theorem dJ7_fill_53178_17 : decode cJ7_fill_53178 17 = .ok (.goto (-12), 3) := by decide +kernel
theorem dJ7_fill_53178_20 : decode cJ7_fill_53178 20 = .ok (.return_, 1) := by decide +kernel
def ok_J7_fill_53178_5 (K : ro_K) (o0 : Nat) (v1 : Int32) (v3 : Int32) : ro_Mem → Prop := fun e => ro_X K 20 [] [] e
def fb_J7_fill_53178_5 (o0 : Nat) (v1 : Int32) (v3 : Int32) (rec : (Int32 × ro_Mem) → Option ro_Mem) (v2 : Int32) (μ : ro_Mem) : Option ro_Mem :=
  if v3 ≤ v2 then
  (some μ)
  else
  (if ro_in v2 (ro_len o0) then
  (ro_lt (ro_set μ o0 v2.toNatClampNeg v1) fun m5 =>
  rec (v2 + 1, m5)) else none)
theorem bb_J7_fill_53178_5 {K : ro_K} (hK : ro_C K RJ7 cJ7_fill_53178 4 0) (hR : ro_R K none) {o0 : Nat} {v1 : Int32} {v3 : Int32} (h0 : ro_sh o0 = (1, (ro_len o0))) {μ : ro_Mem} {rec : (Int32 × ro_Mem) → Option ro_Mem} {v2 : Int32} {q : ro_Mem} (hrec : ∀ (s : Int32 × ro_Mem) (q : ro_Mem), rec s = some q → ok_J7_fill_53178_5 K o0 v1 v3 q → ro_X K 5 [(0, .ref (ro_ad (kG K) o0)), (1, .int v1), (2, .int s.1), (3, .int v3)] [] s.2) (hf : fb_J7_fill_53178_5 o0 v1 v3 rec v2 μ = some q) (hq : ok_J7_fill_53178_5 K o0 v1 v3 q) : ro_X K 5 [(0, .ref (ro_ad (kG K) o0)), (1, .int v1), (2, .int v2), (3, .int v3)] [] μ := by
  unfold fb_J7_fill_53178_5 at hf
  refine ro_iload_n hK 2 rfl dJ7_fill_53178_5 rfl ?_
  refine ro_iload_n hK 3 rfl dJ7_fill_53178_6 rfl ?_
  refine ro_icmp_ge hK 20 dJ7_fill_53178_7 (by decide) (fun c3 => ?_) (fun c3 => ?_)
  · have hf := ro_it hf c3
    refine ro_sub (L' := []) [] rfl ?_
    obtain rfl := Option.some.inj hf
    exact hq
  · have hf := ro_ie hf c3
    refine ro_aload_n hK 0 rfl dJ7_fill_53178_10 rfl ?_
    refine ro_iload_n hK 2 rfl dJ7_fill_53178_11 rfl ?_
    refine ro_iload_n hK 1 rfl dJ7_fill_53178_12 rfl ?_
    obtain ⟨g4, hf⟩ := ro_gd hf
    obtain ⟨m5, e6, hf⟩ := ro_ld hf
    refine ro_iast hK h0 g4 dJ7_fill_53178_13 ?_
    refine ro_mv e6 ?_
    refine ro_iinc (v := v2 + 1) (L' := [(2, .int (v2 + 1)), (0, .ref (ro_ad (kG K) o0)), (1, .int v1), (3, .int v3)]) hK 2 rfl dJ7_fill_53178_14 rfl (by decide) rfl ?_
    refine ro_goto hK 5 dJ7_fill_53178_17 (by decide) ?_
    refine ro_sub (L' := [(0, .ref (ro_ad (kG K) o0)), (1, .int v1), (2, .int (v2 + 1)), (3, .int v3)]) [1, 2, 0, 3] rfl ?_
    exact hrec (v2 + 1, m5) _ hf hq
def fl_J7_fill_53178_5 (o0 : Nat) (v1 : Int32) (v3 : Int32) : (Int32 × ro_Mem) → Option ro_Mem :=
  ro_loop (fun rec s => fb_J7_fill_53178_5 o0 v1 v3 rec s.1 s.2) ro_FU
theorem lp_J7_fill_53178_5 {K : ro_K} (hK : ro_C K RJ7 cJ7_fill_53178 4 0) (hR : ro_R K none) {o0 : Nat} {v1 : Int32} {v3 : Int32} (h0 : ro_sh o0 = (1, (ro_len o0))) {s : Int32 × ro_Mem} {q : ro_Mem} (hf : fl_J7_fill_53178_5 o0 v1 v3 s = some q) (hq : ok_J7_fill_53178_5 K o0 v1 v3 q) : ro_X K 5 [(0, .ref (ro_ad (kG K) o0)), (1, .int v1), (2, .int s.1), (3, .int v3)] [] s.2 :=
  ro_loopX (b := fun rec s => fb_J7_fill_53178_5 o0 v1 v3 rec s.1 s.2) (X := fun s => ro_X K 5 [(0, .ref (ro_ad (kG K) o0)), (1, .int v1), (2, .int s.1), (3, .int v3)] [] s.2) (OK := ok_J7_fill_53178_5 K o0 v1 v3) (fun rec s q hrec hb ho => bb_J7_fill_53178_5 hK hR h0 hrec hb ho) ro_FU s q hf hq
def fn_J7_fill_53178 (o0 : Nat) (v1 : Int32) (μ : ro_Mem) : Option ro_Mem :=
  ro_lt (nI (ro_len o0)) fun z1 =>
  (fl_J7_fill_53178_5 o0 v1 z1 (0, μ)).bind fun q7 =>
  some q7
theorem be_J7_fill_53178 {K : ro_K} (hK : ro_C K RJ7 cJ7_fill_53178 4 0) (hR : ro_R K none) {o0 : Nat} {v1 : Int32} (h0 : ro_sh o0 = (1, ro_len o0)) {μ : ro_Mem} {out : ro_Mem} (hf : fn_J7_fill_53178 o0 v1 μ = some out) (hq : kQ K none out) : ro_X K 0 [(0, .ref (ro_ad (kG K) o0)), (1, .int v1)] [] μ := by
  unfold fn_J7_fill_53178 at hf
  refine ro_iconst (v := 0) hK dJ7_fill_53178_0 (by decide) ?_
  refine ro_istore_n (L' := [(2, .int 0), (0, .ref (ro_ad (kG K) o0)), (1, .int v1)]) hK dJ7_fill_53178_1 rfl (by decide) rfl ?_
  refine ro_aload_n hK 1 rfl dJ7_fill_53178_2 rfl ?_
  refine ro_alen hK h0 dJ7_fill_53178_3 ?_
  obtain ⟨z1, e2, hf⟩ := ro_ld hf
  refine ro_iv e2 ?_
  refine ro_istore_n (L' := [(3, .int z1), (2, .int 0), (0, .ref (ro_ad (kG K) o0)), (1, .int v1)]) hK dJ7_fill_53178_4 rfl (by decide) rfl ?_
  obtain ⟨q7, e8, hf⟩ := ro_bd hf
  refine ro_sub (L' := [(0, .ref (ro_ad (kG K) o0)), (1, .int v1), (2, .int 0), (3, .int z1)]) [2, 3, 1, 0] rfl ?_
  refine lp_J7_fill_53178_5 hK hR h0 e8 ?_
  show ro_X K 20 [] [] q7
  obtain rfl := Option.some.inj hf
  exact ro_vret hK hR dJ7_fill_53178_20 hq
theorem mt_J7_fill_53178 (l : Launch) (G : ro_G) {o0 : Nat} {v1 : Int32} (h0 : ro_sh o0 = (1, ro_len o0)) {μ : ro_Mem} {out : ro_Mem} (hf : fn_J7_fill_53178 o0 v1 μ = some out) : ro_MX l G yJ7_fill_53178 cJ7_fill_53178 4 none 0 [.ref (ro_ad G o0), .int v1] μ none out := by
  refine ro_MX.of (by decide +kernel) (Nat.le_of_ble_eq_true rfl) (fun K hG hl hq hK hR => ?_)
  subst hG
  exact be_J7_fill_53178 hK hR h0 hf hq
-- ===== J0_coder_7d493 =====
theorem dJ0_coder_7d493_0 : decode cJ0_coder_7d493 0 = .ok (.getstatic 38, 3) := by decide +kernel
theorem dJ0_coder_7d493_3 : decode cJ0_coder_7d493 3 = .ok (.ifCond .eq 10, 3) := by decide +kernel
theorem dJ0_coder_7d493_6 : decode cJ0_coder_7d493 6 = .ok (.aload_n 0, 1) := by decide +kernel
theorem dJ0_coder_7d493_7 : decode cJ0_coder_7d493 7 = .ok (.getfield 15, 3) := by decide +kernel
theorem dJ0_coder_7d493_10 : decode cJ0_coder_7d493 10 = .ok (.goto 4, 3) := by decide +kernel
theorem dJ0_coder_7d493_13 : decode cJ0_coder_7d493 13 = .ok (.iconst 1, 1) := by decide +kernel
theorem dJ0_coder_7d493_14 : decode cJ0_coder_7d493 14 = .ok (.ireturn, 1) := by decide +kernel
def fn_J0_coder_7d493 (o0 : Nat) : Option Int32 :=
  if (1 : Int32) = 0 then
  (some 1)
  else
  (some 0)
theorem be_J0_coder_7d493 {K : ro_K} (hK : ro_C K RJ0 cJ0_coder_7d493 1 0) (hR : ro_R K (some .byte)) {o0 : Nat} (h0 : o0 < 4) {μ : ro_Mem} {out : Int32} (hf : fn_J0_coder_7d493 o0 = some out) (hq : kQ K (some (.int out)) μ) : ro_X K 0 [(0, .ref (ro_aK (kG K) o0))] [] μ := by
  unfold fn_J0_coder_7d493 at hf
  refine ro_comp hK fw_J0_38 dJ0_coder_7d493_0 ?_
  refine ro_if_eq hK 13 dJ0_coder_7d493_3 (by decide) (fun c1 => ?_) (fun c1 => ?_)
  · have hf := ro_it hf c1
    refine ro_iconst (v := 1) hK dJ0_coder_7d493_13 (by decide) ?_
    obtain rfl := Option.some.inj hf
    exact ro_bret hK hR dJ0_coder_7d493_14 (by decide) hq
  · have hf := ro_ie hf c1
    refine ro_aload_n hK 0 rfl dJ0_coder_7d493_6 rfl ?_
    refine ro_scod hK h0 fw_J0_15 dJ0_coder_7d493_7 ?_
    refine ro_goto hK 14 dJ0_coder_7d493_10 (by decide) ?_
    obtain rfl := Option.some.inj hf
    exact ro_bret hK hR dJ0_coder_7d493_14 (by decide) hq
theorem mt_J0_coder_7d493 (l : Launch) (G : ro_G) {o0 : Nat} (h0 : o0 < 4) {μ : ro_Mem} {out : Int32} (hf : fn_J0_coder_7d493 o0 = some out) : ro_MX l G yJ0_coder_7d493 cJ0_coder_7d493 1 (some .byte) 0 [.ref (ro_aK G o0)] μ (some (.int out)) μ := by
  refine ro_MX.of (by decide +kernel) (Nat.le_of_ble_eq_true rfl) (fun K hG hl hq hK hR => ?_)
  subst hG
  exact be_J0_coder_7d493 hK hR h0 hf hq
-- ===== J0_isLatin1_aae02 =====
theorem dJ0_isLatin1_aae02_0 : decode cJ0_isLatin1_aae02 0 = .ok (.getstatic 38, 3) := by decide +kernel
theorem dJ0_isLatin1_aae02_3 : decode cJ0_isLatin1_aae02 3 = .ok (.ifCond .eq 14, 3) := by decide +kernel
theorem dJ0_isLatin1_aae02_6 : decode cJ0_isLatin1_aae02 6 = .ok (.aload_n 0, 1) := by decide +kernel
theorem dJ0_isLatin1_aae02_7 : decode cJ0_isLatin1_aae02 7 = .ok (.getfield 15, 3) := by decide +kernel
theorem dJ0_isLatin1_aae02_10 : decode cJ0_isLatin1_aae02 10 = .ok (.ifCond .ne 7, 3) := by decide +kernel
theorem dJ0_isLatin1_aae02_13 : decode cJ0_isLatin1_aae02 13 = .ok (.iconst 1, 1) := by decide +kernel
theorem dJ0_isLatin1_aae02_14 : decode cJ0_isLatin1_aae02 14 = .ok (.goto 4, 3) := by decide +kernel
theorem dJ0_isLatin1_aae02_17 : decode cJ0_isLatin1_aae02 17 = .ok (.iconst 0, 1) := by decide +kernel
theorem dJ0_isLatin1_aae02_18 : decode cJ0_isLatin1_aae02 18 = .ok (.ireturn, 1) := by decide +kernel
def fn_J0_isLatin1_aae02 (o0 : Nat) : Option Int32 :=
  if (1 : Int32) = 0 then
  (some 0)
  else
  (if (0 : Int32) = 0 then
  (some 1)
  else
  (some 0))
theorem be_J0_isLatin1_aae02 {K : ro_K} (hK : ro_C K RJ0 cJ0_isLatin1_aae02 1 0) (hR : ro_R K (some .boolean)) {o0 : Nat} (h0 : o0 < 4) {μ : ro_Mem} {out : Int32} (hf : fn_J0_isLatin1_aae02 o0 = some out) (hq : kQ K (some (.int out)) μ) : ro_X K 0 [(0, .ref (ro_aK (kG K) o0))] [] μ := by
  unfold fn_J0_isLatin1_aae02 at hf
  refine ro_comp hK fw_J0_38 dJ0_isLatin1_aae02_0 ?_
  refine ro_if_eq hK 17 dJ0_isLatin1_aae02_3 (by decide) (fun c1 => ?_) (fun c1 => ?_)
  · have hf := ro_it hf c1
    refine ro_iconst (v := 0) hK dJ0_isLatin1_aae02_17 (by decide) ?_
    obtain rfl := Option.some.inj hf
    exact ro_zret hK hR dJ0_isLatin1_aae02_18 (by decide) hq
  · have hf := ro_ie hf c1
    refine ro_aload_n hK 0 rfl dJ0_isLatin1_aae02_6 rfl ?_
    refine ro_scod hK h0 fw_J0_15 dJ0_isLatin1_aae02_7 ?_
    refine ro_if_ne hK 17 dJ0_isLatin1_aae02_10 (by decide) (fun c2 => ?_) (fun c2 => ?_)
    · have hf := ro_ie hf c2
      refine ro_iconst (v := 0) hK dJ0_isLatin1_aae02_17 (by decide) ?_
      obtain rfl := Option.some.inj hf
      exact ro_zret hK hR dJ0_isLatin1_aae02_18 (by decide) hq
    · have hf := ro_it hf c2
      refine ro_iconst (v := 1) hK dJ0_isLatin1_aae02_13 (by decide) ?_
      refine ro_goto hK 18 dJ0_isLatin1_aae02_14 (by decide) ?_
      obtain rfl := Option.some.inj hf
      exact ro_zret hK hR dJ0_isLatin1_aae02_18 (by decide) hq
theorem mt_J0_isLatin1_aae02 (l : Launch) (G : ro_G) {o0 : Nat} (h0 : o0 < 4) {μ : ro_Mem} {out : Int32} (hf : fn_J0_isLatin1_aae02 o0 = some out) : ro_MX l G yJ0_isLatin1_aae02 cJ0_isLatin1_aae02 1 (some .boolean) 0 [.ref (ro_aK G o0)] μ (some (.int out)) μ := by
  refine ro_MX.of (by decide +kernel) (Nat.le_of_ble_eq_true rfl) (fun K hG hl hq hK hR => ?_)
  subst hG
  exact be_J0_isLatin1_aae02 hK hR h0 hf hq
-- ===== J0_length_8abf5 =====
theorem dJ0_length_8abf5_0 : decode cJ0_length_8abf5 0 = .ok (.aload_n 0, 1) := by decide +kernel
theorem dJ0_length_8abf5_1 : decode cJ0_length_8abf5 1 = .ok (.getfield 9, 3) := by decide +kernel
theorem dJ0_length_8abf5_4 : decode cJ0_length_8abf5 4 = .ok (.arraylength, 1) := by decide +kernel
theorem dJ0_length_8abf5_5 : decode cJ0_length_8abf5 5 = .ok (.aload_n 0, 1) := by decide +kernel
theorem dJ0_length_8abf5_6 : decode cJ0_length_8abf5 6 = .ok (.invokevirtual 335, 3) := by decide +kernel
theorem dJ0_length_8abf5_9 : decode cJ0_length_8abf5 9 = .ok (.ishr, 1) := by decide +kernel
theorem dJ0_length_8abf5_10 : decode cJ0_length_8abf5 10 = .ok (.ireturn, 1) := by decide +kernel
def fn_J0_length_8abf5 (o0 : Nat) : Option Int32 :=
  (fn_J0_coder_7d493 o0).bind fun q1 =>
  some ((nI (ro_sn o0)) >>> (q1 &&& 31))
theorem be_J0_length_8abf5 {K : ro_K} (hK : ro_C K RJ0 cJ0_length_8abf5 1 1) (hR : ro_R K (some .int)) {o0 : Nat} (h0 : o0 < 4) {μ : ro_Mem} {out : Int32} (hf : fn_J0_length_8abf5 o0 = some out) (hq : kQ K (some (.int out)) μ) : ro_X K 0 [(0, .ref (ro_aK (kG K) o0))] [] μ := by
  unfold fn_J0_length_8abf5 at hf
  refine ro_aload_n hK 0 rfl dJ0_length_8abf5_0 rfl ?_
  refine ro_sval hK h0 fw_J0_9 dJ0_length_8abf5_1 ?_
  refine ro_slen hK h0 dJ0_length_8abf5_4 ?_
  refine ro_aload_n hK 0 rfl dJ0_length_8abf5_5 rfl ?_
  obtain ⟨q1, e2, hf⟩ := ro_bd hf
  refine ro_callst hK [] ml_J0_335 mv_J0_coder_7d493 (mt_J0_coder_7d493 (kl K) (kG K) h0 e2) h0 rfl (by decide) rfl rfl (Nat.le_of_ble_eq_true rfl) dJ0_length_8abf5_6 ?_
  refine ro_ishr hK dJ0_length_8abf5_9 ?_
  obtain rfl := Option.some.inj hf
  exact ro_iret hK hR dJ0_length_8abf5_10 hq
theorem mt_J0_length_8abf5 (l : Launch) (G : ro_G) {o0 : Nat} (h0 : o0 < 4) {μ : ro_Mem} {out : Int32} (hf : fn_J0_length_8abf5 o0 = some out) : ro_MX l G yJ0_length_8abf5 cJ0_length_8abf5 1 (some .int) 1 [.ref (ro_aK G o0)] μ (some (.int out)) μ := by
  refine ro_MX.of (by decide +kernel) (Nat.le_of_ble_eq_true rfl) (fun K hG hl hq hK hR => ?_)
  subst hG
  exact be_J0_length_8abf5 hK hR h0 hf hq
-- ===== J1_canEncode_9a6ad =====
theorem dJ1_canEncode_9a6ad_0 : decode cJ1_canEncode_9a6ad 0 = .ok (.iload_n 0, 1) := by decide +kernel
theorem dJ1_canEncode_9a6ad_1 : decode cJ1_canEncode_9a6ad 1 = .ok (.ifCond .lt 14, 3) := by decide +kernel
theorem dJ1_canEncode_9a6ad_4 : decode cJ1_canEncode_9a6ad 4 = .ok (.iload_n 0, 1) := by decide +kernel
theorem dJ1_canEncode_9a6ad_5 : decode cJ1_canEncode_9a6ad 5 = .ok (.sipush 255, 3) := by decide +kernel
theorem dJ1_canEncode_9a6ad_8 : decode cJ1_canEncode_9a6ad 8 = .ok (.if_icmp .gt 7, 3) := by decide +kernel
theorem dJ1_canEncode_9a6ad_11 : decode cJ1_canEncode_9a6ad 11 = .ok (.iconst 1, 1) := by decide +kernel
theorem dJ1_canEncode_9a6ad_12 : decode cJ1_canEncode_9a6ad 12 = .ok (.goto 4, 3) := by decide +kernel
theorem dJ1_canEncode_9a6ad_15 : decode cJ1_canEncode_9a6ad 15 = .ok (.iconst 0, 1) := by decide +kernel
theorem dJ1_canEncode_9a6ad_16 : decode cJ1_canEncode_9a6ad 16 = .ok (.ireturn, 1) := by decide +kernel
def fn_J1_canEncode_9a6ad (v0 : Int32) : Option Int32 :=
  if v0 < 0 then
  (some 0)
  else
  (if 255 < v0 then
  (some 0)
  else
  (some 1))
theorem be_J1_canEncode_9a6ad {K : ro_K} (hK : ro_C K RJ1 cJ1_canEncode_9a6ad 1 0) (hR : ro_R K (some .boolean)) {v0 : Int32}  {μ : ro_Mem} {out : Int32} (hf : fn_J1_canEncode_9a6ad v0 = some out) (hq : kQ K (some (.int out)) μ) : ro_X K 0 [(0, .int v0)] [] μ := by
  unfold fn_J1_canEncode_9a6ad at hf
  refine ro_iload_n hK 0 rfl dJ1_canEncode_9a6ad_0 rfl ?_
  refine ro_if_lt hK 15 dJ1_canEncode_9a6ad_1 (by decide) (fun c1 => ?_) (fun c1 => ?_)
  · have hf := ro_it hf c1
    refine ro_iconst (v := 0) hK dJ1_canEncode_9a6ad_15 (by decide) ?_
    obtain rfl := Option.some.inj hf
    exact ro_zret hK hR dJ1_canEncode_9a6ad_16 (by decide) hq
  · have hf := ro_ie hf c1
    refine ro_iload_n hK 0 rfl dJ1_canEncode_9a6ad_4 rfl ?_
    refine ro_sipush (v := 255) hK dJ1_canEncode_9a6ad_5 (by decide) ?_
    refine ro_icmp_gt hK 15 dJ1_canEncode_9a6ad_8 (by decide) (fun c2 => ?_) (fun c2 => ?_)
    · have hf := ro_it hf c2
      refine ro_iconst (v := 0) hK dJ1_canEncode_9a6ad_15 (by decide) ?_
      obtain rfl := Option.some.inj hf
      exact ro_zret hK hR dJ1_canEncode_9a6ad_16 (by decide) hq
    · have hf := ro_ie hf c2
      refine ro_iconst (v := 1) hK dJ1_canEncode_9a6ad_11 (by decide) ?_
      refine ro_goto hK 16 dJ1_canEncode_9a6ad_12 (by decide) ?_
      obtain rfl := Option.some.inj hf
      exact ro_zret hK hR dJ1_canEncode_9a6ad_16 (by decide) hq
theorem mt_J1_canEncode_9a6ad (l : Launch) (G : ro_G) {v0 : Int32}  {μ : ro_Mem} {out : Int32} (hf : fn_J1_canEncode_9a6ad v0 = some out) : ro_MX l G yJ1_canEncode_9a6ad cJ1_canEncode_9a6ad 1 (some .boolean) 0 [.int v0] μ (some (.int out)) μ := by
  refine ro_MX.of (by decide +kernel) (Nat.le_of_ble_eq_true rfl) (fun K hG hl hq hK hR => ?_)
  subst hG
  exact be_J1_canEncode_9a6ad hK hR  hf hq
-- ===== J1_indexOfChar_4cfef =====
theorem dJ1_indexOfChar_4cfef_0 : decode cJ1_indexOfChar_4cfef 0 = .ok (.iload_n 1, 1) := by decide +kernel
theorem dJ1_indexOfChar_4cfef_1 : decode cJ1_indexOfChar_4cfef 1 = .ok (.i2b, 1) := by decide +kernel
theorem dJ1_indexOfChar_4cfef_2 : decode cJ1_indexOfChar_4cfef 2 = .ok (.istore 4, 2) := by decide +kernel
theorem dJ1_indexOfChar_4cfef_4 : decode cJ1_indexOfChar_4cfef 4 = .ok (.iload_n 2, 1) := by decide +kernel
theorem dJ1_indexOfChar_4cfef_5 : decode cJ1_indexOfChar_4cfef 5 = .ok (.istore 5, 2) := by decide +kernel
theorem dJ1_indexOfChar_4cfef_7 : decode cJ1_indexOfChar_4cfef 7 = .ok (.iload 5, 2) := by decide +kernel
theorem dJ1_indexOfChar_4cfef_9 : decode cJ1_indexOfChar_4cfef 9 = .ok (.iload_n 3, 1) := by decide +kernel
theorem dJ1_indexOfChar_4cfef_10 : decode cJ1_indexOfChar_4cfef 10 = .ok (.if_icmp .ge 21, 3) := by decide +kernel
theorem dJ1_indexOfChar_4cfef_13 : decode cJ1_indexOfChar_4cfef 13 = .ok (.aload_n 0, 1) := by decide +kernel
theorem dJ1_indexOfChar_4cfef_14 : decode cJ1_indexOfChar_4cfef 14 = .ok (.iload 5, 2) := by decide +kernel
theorem dJ1_indexOfChar_4cfef_16 : decode cJ1_indexOfChar_4cfef 16 = .ok (.baload, 1) := by decide +kernel
theorem dJ1_indexOfChar_4cfef_17 : decode cJ1_indexOfChar_4cfef 17 = .ok (.iload 4, 2) := by decide +kernel
theorem dJ1_indexOfChar_4cfef_19 : decode cJ1_indexOfChar_4cfef 19 = .ok (.if_icmp .ne 6, 3) := by decide +kernel
theorem dJ1_indexOfChar_4cfef_22 : decode cJ1_indexOfChar_4cfef 22 = .ok (.iload 5, 2) := by decide +kernel
theorem dJ1_indexOfChar_4cfef_24 : decode cJ1_indexOfChar_4cfef 24 = .ok (.ireturn, 1) := by decide +kernel
theorem dJ1_indexOfChar_4cfef_25 : decode cJ1_indexOfChar_4cfef 25 = .ok (.iinc 5 1, 3) := by decide +kernel
theorem dJ1_indexOfChar_4cfef_28 : decode cJ1_indexOfChar_4cfef 28 = .ok (.goto (-21), 3) := by decide +kernel
theorem dJ1_indexOfChar_4cfef_31 : decode cJ1_indexOfChar_4cfef 31 = .ok (.iconst (-1), 1) := by decide +kernel
theorem dJ1_indexOfChar_4cfef_32 : decode cJ1_indexOfChar_4cfef 32 = .ok (.ireturn, 1) := by decide +kernel
def ok_J1_indexOfChar_4cfef_7 (K : ro_K) (o0 : Nat) (v3 : Int32) (v4 : Int32) (μ : ro_Mem) : (Int32 ⊕ Unit) → Prop := Sum.elim (fun e => ro_X K 22 [(5, .int e)] [] μ) (fun e => ro_X K 31 [] [] μ)
def fb_J1_indexOfChar_4cfef_7 (o0 : Nat) (v3 : Int32) (v4 : Int32) (rec : Int32 → Option (Int32 ⊕ Unit)) (v5 : Int32) : Option (Int32 ⊕ Unit) :=
  if v3 ≤ v5 then
  (some (.inr ()))
  else
  (if ro_in v5 (ro_sn o0) then
  (if (ro_sc o0 v5.toNatClampNeg) = v4 then
  (some (.inl v5))
  else
  (rec (v5 + 1))) else none)
theorem bb_J1_indexOfChar_4cfef_7 {K : ro_K} (hK : ro_C K RJ1 cJ1_indexOfChar_4cfef 6 0) (hR : ro_R K (some .int)) {o0 : Nat} {v3 : Int32} {v4 : Int32} (h0 : o0 < 4) {μ : ro_Mem} {rec : Int32 → Option (Int32 ⊕ Unit)} {v5 : Int32} {q : (Int32 ⊕ Unit)} (hrec : ∀ (s : Int32) (q : (Int32 ⊕ Unit)), rec s = some q → ok_J1_indexOfChar_4cfef_7 K o0 v3 v4 μ q → ro_X K 7 [(0, .ref (ro_aV (kG K) o0)), (3, .int v3), (4, .int v4), (5, .int s)] [] μ) (hf : fb_J1_indexOfChar_4cfef_7 o0 v3 v4 rec v5 = some q) (hq : ok_J1_indexOfChar_4cfef_7 K o0 v3 v4 μ q) : ro_X K 7 [(0, .ref (ro_aV (kG K) o0)), (3, .int v3), (4, .int v4), (5, .int v5)] [] μ := by
  unfold fb_J1_indexOfChar_4cfef_7 at hf
  refine ro_iload hK 3 rfl dJ1_indexOfChar_4cfef_7 ?_
  refine ro_iload_n hK 1 rfl dJ1_indexOfChar_4cfef_9 rfl ?_
  refine ro_icmp_ge hK 31 dJ1_indexOfChar_4cfef_10 (by decide) (fun c3 => ?_) (fun c3 => ?_)
  · have hf := ro_it hf c3
    refine ro_sub (L' := []) [] rfl ?_
    obtain rfl := Option.some.inj hf
    exact hq
  · have hf := ro_ie hf c3
    refine ro_aload_n hK 0 rfl dJ1_indexOfChar_4cfef_13 rfl ?_
    refine ro_iload hK 3 rfl dJ1_indexOfChar_4cfef_14 ?_
    obtain ⟨g4, hf⟩ := ro_gd hf
    refine ro_sbyt hK h0 g4 dJ1_indexOfChar_4cfef_16 ?_
    refine ro_iload hK 2 rfl dJ1_indexOfChar_4cfef_17 ?_
    refine ro_icmp_ne hK 25 dJ1_indexOfChar_4cfef_19 (by decide) (fun c5 => ?_) (fun c5 => ?_)
    · have hf := ro_ie hf c5
      refine ro_iinc (v := v5 + 1) (L' := [(5, .int (v5 + 1)), (0, .ref (ro_aV (kG K) o0)), (3, .int v3), (4, .int v4)]) hK 3 rfl dJ1_indexOfChar_4cfef_25 rfl (by decide) rfl ?_
      refine ro_goto hK 7 dJ1_indexOfChar_4cfef_28 (by decide) ?_
      refine ro_sub (L' := [(0, .ref (ro_aV (kG K) o0)), (3, .int v3), (4, .int v4), (5, .int (v5 + 1))]) [1, 2, 3, 0] rfl ?_
      exact hrec (v5 + 1) _ hf hq
    · have hf := ro_it hf c5
      refine ro_sub (L' := [(5, .int v5)]) [3] rfl ?_
      obtain rfl := Option.some.inj hf
      exact hq
def fl_J1_indexOfChar_4cfef_7 (o0 : Nat) (v3 : Int32) (v4 : Int32) : Int32 → Option (Int32 ⊕ Unit) :=
  ro_loop (fun rec s => fb_J1_indexOfChar_4cfef_7 o0 v3 v4 rec s) ro_FU
theorem lp_J1_indexOfChar_4cfef_7 {K : ro_K} (hK : ro_C K RJ1 cJ1_indexOfChar_4cfef 6 0) (hR : ro_R K (some .int)) {o0 : Nat} {v3 : Int32} {v4 : Int32} (h0 : o0 < 4) {μ : ro_Mem} {s : Int32} {q : (Int32 ⊕ Unit)} (hf : fl_J1_indexOfChar_4cfef_7 o0 v3 v4 s = some q) (hq : ok_J1_indexOfChar_4cfef_7 K o0 v3 v4 μ q) : ro_X K 7 [(0, .ref (ro_aV (kG K) o0)), (3, .int v3), (4, .int v4), (5, .int s)] [] μ :=
  ro_loopX (b := fun rec s => fb_J1_indexOfChar_4cfef_7 o0 v3 v4 rec s) (X := fun s => ro_X K 7 [(0, .ref (ro_aV (kG K) o0)), (3, .int v3), (4, .int v4), (5, .int s)] [] μ) (OK := ok_J1_indexOfChar_4cfef_7 K o0 v3 v4 μ) (fun rec s q hrec hb ho => bb_J1_indexOfChar_4cfef_7 hK hR h0 hrec hb ho) ro_FU s q hf hq
def fn_J1_indexOfChar_4cfef (o0 : Nat) (v1 : Int32) (v2 : Int32) (v3 : Int32) : Option Int32 :=
  ro_lt (ro_i2b v1) fun z1 =>
  (fl_J1_indexOfChar_4cfef_7 o0 v3 z1 v2).bind fun q6 =>
  q6.elim (fun e8 => some e8) (fun e9 => some (-1))
theorem be_J1_indexOfChar_4cfef {K : ro_K} (hK : ro_C K RJ1 cJ1_indexOfChar_4cfef 6 0) (hR : ro_R K (some .int)) {o0 : Nat} {v1 : Int32} {v2 : Int32} {v3 : Int32} (h0 : o0 < 4) {μ : ro_Mem} {out : Int32} (hf : fn_J1_indexOfChar_4cfef o0 v1 v2 v3 = some out) (hq : kQ K (some (.int out)) μ) : ro_X K 0 [(0, .ref (ro_aV (kG K) o0)), (1, .int v1), (2, .int v2), (3, .int v3)] [] μ := by
  unfold fn_J1_indexOfChar_4cfef at hf
  refine ro_iload_n hK 1 rfl dJ1_indexOfChar_4cfef_0 rfl ?_
  refine ro_ib hK dJ1_indexOfChar_4cfef_1 ?_
  obtain ⟨z1, e2, hf⟩ := ro_ld hf
  refine ro_iv e2 ?_
  refine ro_istore (L' := [(4, .int z1), (0, .ref (ro_aV (kG K) o0)), (1, .int v1), (2, .int v2), (3, .int v3)]) hK dJ1_indexOfChar_4cfef_2 (by decide) rfl ?_
  refine ro_iload_n hK 3 rfl dJ1_indexOfChar_4cfef_4 rfl ?_
  refine ro_istore (L' := [(5, .int v2), (4, .int z1), (0, .ref (ro_aV (kG K) o0)), (1, .int v1), (2, .int v2), (3, .int v3)]) hK dJ1_indexOfChar_4cfef_5 (by decide) rfl ?_
  obtain ⟨q6, e7, hf⟩ := ro_bd hf
  refine ro_sub (L' := [(0, .ref (ro_aV (kG K) o0)), (3, .int v3), (4, .int z1), (5, .int v2)]) [2, 5, 1, 0] rfl ?_
  refine lp_J1_indexOfChar_4cfef_7 hK hR h0 e7 ?_
  rcases q6 with e8 | e9
  · have hf := ro_el hf
    show ro_X K 22 [(5, .int e8)] [] μ
    refine ro_iload hK 0 rfl dJ1_indexOfChar_4cfef_22 ?_
    obtain rfl := Option.some.inj hf
    exact ro_iret hK hR dJ1_indexOfChar_4cfef_24 hq
  · have hf := ro_er hf
    show ro_X K 31 [] [] μ
    refine ro_iconst (v := (-1)) hK dJ1_indexOfChar_4cfef_31 (by decide) ?_
    obtain rfl := Option.some.inj hf
    exact ro_iret hK hR dJ1_indexOfChar_4cfef_32 hq
theorem mt_J1_indexOfChar_4cfef (l : Launch) (G : ro_G) {o0 : Nat} {v1 : Int32} {v2 : Int32} {v3 : Int32} (h0 : o0 < 4) {μ : ro_Mem} {out : Int32} (hf : fn_J1_indexOfChar_4cfef o0 v1 v2 v3 = some out) : ro_MX l G yJ1_indexOfChar_4cfef cJ1_indexOfChar_4cfef 6 (some .int) 0 [.ref (ro_aV G o0), .int v1, .int v2, .int v3] μ (some (.int out)) μ := by
  refine ro_MX.of (by decide +kernel) (Nat.le_of_ble_eq_true rfl) (fun K hG hl hq hK hR => ?_)
  subst hG
  exact be_J1_indexOfChar_4cfef hK hR h0 hf hq
-- ===== J1_indexOf_4cfef =====
theorem dJ1_indexOf_4cfef_0 : decode cJ1_indexOf_4cfef 0 = .ok (.iload_n 1, 1) := by decide +kernel
theorem dJ1_indexOf_4cfef_1 : decode cJ1_indexOf_4cfef 1 = .ok (.invokestatic 88, 3) := by decide +kernel
theorem dJ1_indexOf_4cfef_4 : decode cJ1_indexOf_4cfef 4 = .ok (.ifCond .ne 5, 3) := by decide +kernel
theorem dJ1_indexOf_4cfef_7 : decode cJ1_indexOf_4cfef 7 = .ok (.iconst (-1), 1) := by decide +kernel
theorem dJ1_indexOf_4cfef_8 : decode cJ1_indexOf_4cfef 8 = .ok (.ireturn, 1) := by decide +kernel
theorem dJ1_indexOf_4cfef_9 : decode cJ1_indexOf_4cfef 9 = .ok (.iload_n 2, 1) := by decide +kernel
theorem dJ1_indexOf_4cfef_10 : decode cJ1_indexOf_4cfef 10 = .ok (.iconst 0, 1) := by decide +kernel
theorem dJ1_indexOf_4cfef_11 : decode cJ1_indexOf_4cfef 11 = .ok (.invokestatic 92, 3) := by decide +kernel
theorem dJ1_indexOf_4cfef_14 : decode cJ1_indexOf_4cfef 14 = .ok (.istore_n 2, 1) := by decide +kernel
theorem dJ1_indexOf_4cfef_15 : decode cJ1_indexOf_4cfef 15 = .ok (.iload_n 3, 1) := by decide +kernel
theorem dJ1_indexOf_4cfef_16 : decode cJ1_indexOf_4cfef 16 = .ok (.aload_n 0, 1) := by decide +kernel
theorem dJ1_indexOf_4cfef_17 : decode cJ1_indexOf_4cfef 17 = .ok (.arraylength, 1) := by decide +kernel
theorem dJ1_indexOf_4cfef_18 : decode cJ1_indexOf_4cfef 18 = .ok (.invokestatic 38, 3) := by decide +kernel
theorem dJ1_indexOf_4cfef_21 : decode cJ1_indexOf_4cfef 21 = .ok (.istore_n 3, 1) := by decide +kernel
theorem dJ1_indexOf_4cfef_22 : decode cJ1_indexOf_4cfef 22 = .ok (.iload_n 2, 1) := by decide +kernel
theorem dJ1_indexOf_4cfef_23 : decode cJ1_indexOf_4cfef 23 = .ok (.iload_n 3, 1) := by decide +kernel
theorem dJ1_indexOf_4cfef_24 : decode cJ1_indexOf_4cfef 24 = .ok (.if_icmp .lt 5, 3) := by decide +kernel
theorem dJ1_indexOf_4cfef_27 : decode cJ1_indexOf_4cfef 27 = .ok (.iconst (-1), 1) := by decide +kernel
theorem dJ1_indexOf_4cfef_28 : decode cJ1_indexOf_4cfef 28 = .ok (.ireturn, 1) := by decide +kernel
theorem dJ1_indexOf_4cfef_29 : decode cJ1_indexOf_4cfef 29 = .ok (.aload_n 0, 1) := by decide +kernel
theorem dJ1_indexOf_4cfef_30 : decode cJ1_indexOf_4cfef 30 = .ok (.iload_n 1, 1) := by decide +kernel
theorem dJ1_indexOf_4cfef_31 : decode cJ1_indexOf_4cfef 31 = .ok (.iload_n 2, 1) := by decide +kernel
theorem dJ1_indexOf_4cfef_32 : decode cJ1_indexOf_4cfef 32 = .ok (.iload_n 3, 1) := by decide +kernel
theorem dJ1_indexOf_4cfef_33 : decode cJ1_indexOf_4cfef 33 = .ok (.invokestatic 95, 3) := by decide +kernel
theorem dJ1_indexOf_4cfef_36 : decode cJ1_indexOf_4cfef 36 = .ok (.ireturn, 1) := by decide +kernel
def fn_J1_indexOf_4cfef (o0 : Nat) (v1 : Int32) (v2 : Int32) (v3 : Int32) : Option Int32 :=
  (fn_J1_canEncode_9a6ad v1).bind fun q1 =>
  if q1 = 0 then
  (some (-1))
  else
  (ro_lt (ro_mx v2 0) fun z4 =>
  ro_lt (ro_mn v3 (nI (ro_sn o0))) fun z6 =>
  if z4 < z6 then
  ((fn_J1_indexOfChar_4cfef o0 v1 z4 z6).bind fun q9 =>
  some q9)
  else
  (some (-1)))
theorem be_J1_indexOf_4cfef {K : ro_K} (hK : ro_C K RJ1 cJ1_indexOf_4cfef 4 1) (hR : ro_R K (some .int)) {o0 : Nat} {v1 : Int32} {v2 : Int32} {v3 : Int32} (h0 : o0 < 4) {μ : ro_Mem} {out : Int32} (hf : fn_J1_indexOf_4cfef o0 v1 v2 v3 = some out) (hq : kQ K (some (.int out)) μ) : ro_X K 0 [(0, .ref (ro_aV (kG K) o0)), (1, .int v1), (2, .int v2), (3, .int v3)] [] μ := by
  unfold fn_J1_indexOf_4cfef at hf
  refine ro_iload_n hK 1 rfl dJ1_indexOf_4cfef_0 rfl ?_
  obtain ⟨q1, e2, hf⟩ := ro_bd hf
  refine ro_callsi hK [.int v1] ml_J1_88 ms_J1_canEncode_9a6ad (mt_J1_canEncode_9a6ad (kl K) (kG K)  e2) (by decide) rfl rfl (Nat.le_of_ble_eq_true rfl) dJ1_indexOf_4cfef_1 ?_
  refine ro_if_ne hK 9 dJ1_indexOf_4cfef_4 (by decide) (fun c3 => ?_) (fun c3 => ?_)
  · have hf := ro_ie hf c3
    refine ro_iload_n hK 2 rfl dJ1_indexOf_4cfef_9 rfl ?_
    refine ro_iconst (v := 0) hK dJ1_indexOf_4cfef_10 (by decide) ?_
    refine ro_mmax hK ml_J1_92 (by decide) (Nat.le_of_ble_eq_true rfl) dJ1_indexOf_4cfef_11 ?_
    obtain ⟨z4, e5, hf⟩ := ro_ld hf
    refine ro_iv e5 ?_
    refine ro_istore_n (L' := [(2, .int z4), (0, .ref (ro_aV (kG K) o0)), (1, .int v1), (3, .int v3)]) hK dJ1_indexOf_4cfef_14 rfl (by decide) rfl ?_
    refine ro_iload_n hK 3 rfl dJ1_indexOf_4cfef_15 rfl ?_
    refine ro_aload_n hK 1 rfl dJ1_indexOf_4cfef_16 rfl ?_
    refine ro_slen hK h0 dJ1_indexOf_4cfef_17 ?_
    refine ro_mmin hK ml_J1_38 (by decide) (Nat.le_of_ble_eq_true rfl) dJ1_indexOf_4cfef_18 ?_
    obtain ⟨z6, e7, hf⟩ := ro_ld hf
    refine ro_iv e7 ?_
    refine ro_istore_n (L' := [(3, .int z6), (2, .int z4), (0, .ref (ro_aV (kG K) o0)), (1, .int v1)]) hK dJ1_indexOf_4cfef_21 rfl (by decide) rfl ?_
    refine ro_iload_n hK 1 rfl dJ1_indexOf_4cfef_22 rfl ?_
    refine ro_iload_n hK 0 rfl dJ1_indexOf_4cfef_23 rfl ?_
    refine ro_icmp_lt hK 29 dJ1_indexOf_4cfef_24 (by decide) (fun c8 => ?_) (fun c8 => ?_)
    · have hf := ro_it hf c8
      refine ro_aload_n hK 2 rfl dJ1_indexOf_4cfef_29 rfl ?_
      refine ro_iload_n hK 3 rfl dJ1_indexOf_4cfef_30 rfl ?_
      refine ro_iload_n hK 1 rfl dJ1_indexOf_4cfef_31 rfl ?_
      refine ro_iload_n hK 0 rfl dJ1_indexOf_4cfef_32 rfl ?_
      obtain ⟨q9, e10, hf⟩ := ro_bd hf
      refine ro_callsi hK [.ref (ro_aV (kG K) o0), .int v1, .int z4, .int z6] ml_J1_95 ms_J1_indexOfChar_4cfef (mt_J1_indexOfChar_4cfef (kl K) (kG K) h0 e10) (by decide) rfl rfl (Nat.le_of_ble_eq_true rfl) dJ1_indexOf_4cfef_33 ?_
      obtain rfl := Option.some.inj hf
      exact ro_iret hK hR dJ1_indexOf_4cfef_36 hq
    · have hf := ro_ie hf c8
      refine ro_iconst (v := (-1)) hK dJ1_indexOf_4cfef_27 (by decide) ?_
      obtain rfl := Option.some.inj hf
      exact ro_iret hK hR dJ1_indexOf_4cfef_28 hq
  · have hf := ro_it hf c3
    refine ro_iconst (v := (-1)) hK dJ1_indexOf_4cfef_7 (by decide) ?_
    obtain rfl := Option.some.inj hf
    exact ro_iret hK hR dJ1_indexOf_4cfef_8 hq
theorem mt_J1_indexOf_4cfef (l : Launch) (G : ro_G) {o0 : Nat} {v1 : Int32} {v2 : Int32} {v3 : Int32} (h0 : o0 < 4) {μ : ro_Mem} {out : Int32} (hf : fn_J1_indexOf_4cfef o0 v1 v2 v3 = some out) : ro_MX l G yJ1_indexOf_4cfef cJ1_indexOf_4cfef 4 (some .int) 1 [.ref (ro_aV G o0), .int v1, .int v2, .int v3] μ (some (.int out)) μ := by
  refine ro_MX.of (by decide +kernel) (Nat.le_of_ble_eq_true rfl) (fun K hG hl hq hK hR => ?_)
  subst hG
  exact be_J1_indexOf_4cfef hK hR h0 hf hq
-- ===== J0_indexOf_7cf53 =====
theorem dJ0_indexOf_7cf53_0 : decode cJ0_indexOf_7cf53 0 = .ok (.aload_n 0, 1) := by decide +kernel
theorem dJ0_indexOf_7cf53_1 : decode cJ0_indexOf_7cf53 1 = .ok (.invokevirtual 492, 3) := by decide +kernel
theorem dJ0_indexOf_7cf53_4 : decode cJ0_indexOf_7cf53 4 = .ok (.ifCond .eq 19, 3) := by decide +kernel
theorem dJ0_indexOf_7cf53_7 : decode cJ0_indexOf_7cf53 7 = .ok (.aload_n 0, 1) := by decide +kernel
theorem dJ0_indexOf_7cf53_8 : decode cJ0_indexOf_7cf53 8 = .ok (.getfield 9, 3) := by decide +kernel
theorem dJ0_indexOf_7cf53_11 : decode cJ0_indexOf_7cf53 11 = .ok (.iload_n 1, 1) := by decide +kernel
theorem dJ0_indexOf_7cf53_12 : decode cJ0_indexOf_7cf53 12 = .ok (.iload_n 2, 1) := by decide +kernel
theorem dJ0_indexOf_7cf53_13 : decode cJ0_indexOf_7cf53 13 = .ok (.aload_n 0, 1) := by decide +kernel
theorem dJ0_indexOf_7cf53_14 : decode cJ0_indexOf_7cf53 14 = .ok (.invokevirtual 505, 3) := by decide +kernel
theorem dJ0_indexOf_7cf53_17 : decode cJ0_indexOf_7cf53 17 = .ok (.invokestatic 637, 3) := by decide +kernel
theorem dJ0_indexOf_7cf53_20 : decode cJ0_indexOf_7cf53 20 = .ok (.goto 16, 3) := by decide +kernel
theorem dJ0_indexOf_7cf53_23 : decode cJ0_indexOf_7cf53 23 = .ok (.aload_n 0, 1) := by decide +kernel
theorem dJ0_indexOf_7cf53_24 : decode cJ0_indexOf_7cf53 24 = .ok (.getfield 9, 3) := by decide +kernel
theorem dJ0_indexOf_7cf53_27 : decode cJ0_indexOf_7cf53 27 = .ok (.iload_n 1, 1) := by decide +kernel
theorem dJ0_indexOf_7cf53_28 : decode cJ0_indexOf_7cf53 28 = .ok (.iload_n 2, 1) := by decide +kernel
theorem dJ0_indexOf_7cf53_29 : decode cJ0_indexOf_7cf53 29 = .ok (.aload_n 0, 1) := by decide +kernel
theorem dJ0_indexOf_7cf53_30 : decode cJ0_indexOf_7cf53 30 = .ok (.invokevirtual 505, 3) := by decide +kernel
theorem dJ0_indexOf_7cf53_33 : decode cJ0_indexOf_7cf53 33 = .ok (.invokestatic 640, 3) := by decide +kernel
theorem dJ0_indexOf_7cf53_36 : decode cJ0_indexOf_7cf53 36 = .ok (.ireturn, 1) := by decide +kernel
def fn_J0_indexOf_7cf53 (o0 : Nat) (v1 : Int32) (v2 : Int32) : Option Int32 :=
  (fn_J0_isLatin1_aae02 o0).bind fun q1 =>
  if q1 = 0 then
  ((fn_J0_length_8abf5 o0).bind fun q4 =>
  none)
  else
  ((fn_J0_length_8abf5 o0).bind fun q6 =>
  (fn_J1_indexOf_4cfef o0 v1 v2 q6).bind fun q8 =>
  some q8)
theorem be_J0_indexOf_7cf53 {K : ro_K} (hK : ro_C K RJ0 cJ0_indexOf_7cf53 3 2) (hR : ro_R K (some .int)) {o0 : Nat} {v1 : Int32} {v2 : Int32} (h0 : o0 < 4) {μ : ro_Mem} {out : Int32} (hf : fn_J0_indexOf_7cf53 o0 v1 v2 = some out) (hq : kQ K (some (.int out)) μ) : ro_X K 0 [(0, .ref (ro_aK (kG K) o0)), (1, .int v1), (2, .int v2)] [] μ := by
  unfold fn_J0_indexOf_7cf53 at hf
  refine ro_aload_n hK 0 rfl dJ0_indexOf_7cf53_0 rfl ?_
  obtain ⟨q1, e2, hf⟩ := ro_bd hf
  refine ro_callst hK [] ml_J0_492 mv_J0_isLatin1_aae02 (mt_J0_isLatin1_aae02 (kl K) (kG K) h0 e2) h0 rfl (by decide) rfl rfl (Nat.le_of_ble_eq_true rfl) dJ0_indexOf_7cf53_1 ?_
  refine ro_if_eq hK 23 dJ0_indexOf_7cf53_4 (by decide) (fun c3 => ?_) (fun c3 => ?_)
  · have hf := ro_it hf c3
    refine ro_aload_n hK 0 rfl dJ0_indexOf_7cf53_23 rfl ?_
    refine ro_sval hK h0 fw_J0_9 dJ0_indexOf_7cf53_24 ?_
    refine ro_iload_n hK 1 rfl dJ0_indexOf_7cf53_27 rfl ?_
    refine ro_iload_n hK 2 rfl dJ0_indexOf_7cf53_28 rfl ?_
    refine ro_aload_n hK 0 rfl dJ0_indexOf_7cf53_29 rfl ?_
    obtain ⟨q4, e5, hf⟩ := ro_bd hf
    refine ro_callst hK [] ml_J0_505 mv_J0_length_8abf5 (mt_J0_length_8abf5 (kl K) (kG K) h0 e5) h0 rfl (by decide) rfl rfl (Nat.le_of_ble_eq_true rfl) dJ0_indexOf_7cf53_30 ?_
    cases hf
  · have hf := ro_ie hf c3
    refine ro_aload_n hK 0 rfl dJ0_indexOf_7cf53_7 rfl ?_
    refine ro_sval hK h0 fw_J0_9 dJ0_indexOf_7cf53_8 ?_
    refine ro_iload_n hK 1 rfl dJ0_indexOf_7cf53_11 rfl ?_
    refine ro_iload_n hK 2 rfl dJ0_indexOf_7cf53_12 rfl ?_
    refine ro_aload_n hK 0 rfl dJ0_indexOf_7cf53_13 rfl ?_
    obtain ⟨q6, e7, hf⟩ := ro_bd hf
    refine ro_callst hK [] ml_J0_505 mv_J0_length_8abf5 (mt_J0_length_8abf5 (kl K) (kG K) h0 e7) h0 rfl (by decide) rfl rfl (Nat.le_of_ble_eq_true rfl) dJ0_indexOf_7cf53_14 ?_
    obtain ⟨q8, e9, hf⟩ := ro_bd hf
    refine ro_callsi hK [.ref (ro_aV (kG K) o0), .int v1, .int v2, .int q6] ml_J0_637 ms_J1_indexOf_4cfef (mt_J1_indexOf_4cfef (kl K) (kG K) h0 e9) (by decide) rfl rfl (Nat.le_of_ble_eq_true rfl) dJ0_indexOf_7cf53_17 ?_
    refine ro_goto hK 36 dJ0_indexOf_7cf53_20 (by decide) ?_
    obtain rfl := Option.some.inj hf
    exact ro_iret hK hR dJ0_indexOf_7cf53_36 hq
theorem mt_J0_indexOf_7cf53 (l : Launch) (G : ro_G) {o0 : Nat} {v1 : Int32} {v2 : Int32} (h0 : o0 < 4) {μ : ro_Mem} {out : Int32} (hf : fn_J0_indexOf_7cf53 o0 v1 v2 = some out) : ro_MX l G yJ0_indexOf_7cf53 cJ0_indexOf_7cf53 3 (some .int) 2 [.ref (ro_aK G o0), .int v1, .int v2] μ (some (.int out)) μ := by
  refine ro_MX.of (by decide +kernel) (Nat.le_of_ble_eq_true rfl) (fun K hG hl hq hK hR => ?_)
  subst hG
  exact be_J0_indexOf_7cf53 hK hR h0 hf hq
-- ===== J0_indexOf_0f7a4 =====
theorem dJ0_indexOf_0f7a4_0 : decode cJ0_indexOf_0f7a4 0 = .ok (.aload_n 0, 1) := by decide +kernel
theorem dJ0_indexOf_0f7a4_1 : decode cJ0_indexOf_0f7a4 1 = .ok (.iload_n 1, 1) := by decide +kernel
theorem dJ0_indexOf_0f7a4_2 : decode cJ0_indexOf_0f7a4 2 = .ok (.iconst 0, 1) := by decide +kernel
theorem dJ0_indexOf_0f7a4_3 : decode cJ0_indexOf_0f7a4 3 = .ok (.invokevirtual 633, 3) := by decide +kernel
theorem dJ0_indexOf_0f7a4_6 : decode cJ0_indexOf_0f7a4 6 = .ok (.ireturn, 1) := by decide +kernel
def fn_J0_indexOf_0f7a4 (o0 : Nat) (v1 : Int32) : Option Int32 :=
  (fn_J0_indexOf_7cf53 o0 v1 0).bind fun q1 =>
  some q1
theorem be_J0_indexOf_0f7a4 {K : ro_K} (hK : ro_C K RJ0 cJ0_indexOf_0f7a4 2 3) (hR : ro_R K (some .int)) {o0 : Nat} {v1 : Int32} (h0 : o0 < 4) {μ : ro_Mem} {out : Int32} (hf : fn_J0_indexOf_0f7a4 o0 v1 = some out) (hq : kQ K (some (.int out)) μ) : ro_X K 0 [(0, .ref (ro_aK (kG K) o0)), (1, .int v1)] [] μ := by
  unfold fn_J0_indexOf_0f7a4 at hf
  refine ro_aload_n hK 0 rfl dJ0_indexOf_0f7a4_0 rfl ?_
  refine ro_iload_n hK 1 rfl dJ0_indexOf_0f7a4_1 rfl ?_
  refine ro_iconst (v := 0) hK dJ0_indexOf_0f7a4_2 (by decide) ?_
  obtain ⟨q1, e2, hf⟩ := ro_bd hf
  refine ro_callst hK [.int v1, .int 0] ml_J0_633 mv_J0_indexOf_7cf53 (mt_J0_indexOf_7cf53 (kl K) (kG K) h0 e2) h0 rfl (by decide) rfl rfl (Nat.le_of_ble_eq_true rfl) dJ0_indexOf_0f7a4_3 ?_
  obtain rfl := Option.some.inj hf
  exact ro_iret hK hR dJ0_indexOf_0f7a4_6 hq
theorem mt_J0_indexOf_0f7a4 (l : Launch) (G : ro_G) {o0 : Nat} {v1 : Int32} (h0 : o0 < 4) {μ : ro_Mem} {out : Int32} (hf : fn_J0_indexOf_0f7a4 o0 v1 = some out) : ro_MX l G yJ0_indexOf_0f7a4 cJ0_indexOf_0f7a4 2 (some .int) 3 [.ref (ro_aK G o0), .int v1] μ (some (.int out)) μ := by
  refine ro_MX.of (by decide +kernel) (Nat.le_of_ble_eq_true rfl) (fun K hG hl hq hK hR => ?_)
  subst hG
  exact be_J0_indexOf_0f7a4 hK hR h0 hf hq
