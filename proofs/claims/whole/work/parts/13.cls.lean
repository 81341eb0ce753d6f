-- ===== X1_putSlate =====
theorem dX1_putSlate_0 : decode cX1_putSlate 0 = .ok (.aload_n 0, 1) := by decide +kernel
theorem dX1_putSlate_1 : decode cX1_putSlate 1 = .ok (.getfield 22, 3) := by decide +kernel
theorem dX1_putSlate_4 : decode cX1_putSlate 4 = .ok (.iload_n 1, 1) := by decide +kernel
theorem dX1_putSlate_5 : decode cX1_putSlate 5 = .ok (.iload_n 2, 1) := by decide +kernel
theorem dX1_putSlate_6 : decode cX1_putSlate 6 = .ok (.iastore, 1) := by decide +kernel
theorem dX1_putSlate_7 : decode cX1_putSlate 7 = .ok (.aload_n 0, 1) := by decide +kernel
theorem dX1_putSlate_8 : decode cX1_putSlate 8 = .ok (.getfield 25, 3) := by decide +kernel
theorem dX1_putSlate_11 : decode cX1_putSlate 11 = .ok (.iload_n 1, 1) := by decide +kernel
theorem dX1_putSlate_12 : decode cX1_putSlate 12 = .ok (.iload_n 3, 1) := by decide +kernel
theorem dX1_putSlate_13 : decode cX1_putSlate 13 = .ok (.iastore, 1) := by decide +kernel
theorem dX1_putSlate_14 : decode cX1_putSlate 14 = .ok (.aload_n 0, 1) := by decide +kernel
theorem dX1_putSlate_15 : decode cX1_putSlate 15 = .ok (.getfield 28, 3) := by decide +kernel
theorem dX1_putSlate_18 : decode cX1_putSlate 18 = .ok (.iload_n 1, 1) := by decide +kernel
theorem dX1_putSlate_19 : decode cX1_putSlate 19 = .ok (.iload 4, 2) := by decide +kernel
theorem dX1_putSlate_21 : decode cX1_putSlate 21 = .ok (.iastore, 1) := by decide +kernel
theorem dX1_putSlate_22 : decode cX1_putSlate 22 = .ok (.aload_n 0, 1) := by decide +kernel
theorem dX1_putSlate_23 : decode cX1_putSlate 23 = .ok (.dup, 1) := by decide +kernel
theorem dX1_putSlate_24 : decode cX1_putSlate 24 = .ok (.getfield 65, 3) := by decide +kernel
theorem dX1_putSlate_27 : decode cX1_putSlate 27 = .ok (.iconst 1, 1) := by decide +kernel
theorem dX1_putSlate_28 : decode cX1_putSlate 28 = .ok (.iload_n 1, 1) := by decide +kernel
theorem dX1_putSlate_29 : decode cX1_putSlate 29 = .ok (.ishl, 1) := by decide +kernel
theorem dX1_putSlate_30 : decode cX1_putSlate 30 = .ok (.ior, 1) := by decide +kernel
theorem dX1_putSlate_31 : decode cX1_putSlate 31 = .ok (.putfield 65, 3) := by decide +kernel
theorem dX1_putSlate_34 : decode cX1_putSlate 34 = .ok (.aload_n 0, 1) := by decide +kernel
theorem dX1_putSlate_35 : decode cX1_putSlate 35 = .ok (.dup, 1) := by decide +kernel
theorem dX1_putSlate_36 : decode cX1_putSlate 36 = .ok (.getfield 68, 3) := by decide +kernel
theorem dX1_putSlate_39 : decode cX1_putSlate 39 = .ok (.iconst 1, 1) := by decide +kernel
theorem dX1_putSlate_40 : decode cX1_putSlate 40 = .ok (.iload_n 1, 1) := by decide +kernel
theorem dX1_putSlate_41 : decode cX1_putSlate 41 = .ok (.ishl, 1) := by decide +kernel
theorem dX1_putSlate_42 : decode cX1_putSlate 42 = .ok (.iconst (-1), 1) := by decide +kernel
theorem dX1_putSlate_43 : decode cX1_putSlate 43 = .ok (.ixor, 1) := by decide +kernel
theorem dX1_putSlate_44 : decode cX1_putSlate 44 = .ok (.iand, 1) := by decide +kernel
theorem dX1_putSlate_45 : decode cX1_putSlate 45 = .ok (.putfield 68, 3) := by decide +kernel
theorem dX1_putSlate_48 : decode cX1_putSlate 48 = .ok (.return_, 1) := by decide +kernel
def fn_X1_putSlate (o0 : Nat) (v1 : Int32) (v2 : Int32) (v3 : Int32) (v4 : Int32) (μ : ro_Mem) : Option ro_Mem :=
  if ro_in v1 16 then
  (ro_lt (ro_set μ (o0 + 4) v1.toNatClampNeg v2) fun m2 =>
  ro_lt (ro_set m2 (o0 + 5) v1.toNatClampNeg v3) fun m4 =>
  ro_lt (ro_set m4 (o0 + 6) v1.toNatClampNeg v4) fun m6 =>
  ro_lt (ro_set m6 o0 6 ((m6 o0 6) ||| ((1 : Int32) <<< (v1 &&& 31)))) fun m8 =>
  ro_lt (ro_set m8 o0 7 ((m8 o0 7) &&& (((1 : Int32) <<< (v1 &&& 31)) ^^^ (-1)))) fun m10 =>
  some m10) else none
theorem be_X1_putSlate {K : ro_K} (hK : ro_C K RX1 cX1_putSlate 5 0) (hR : ro_R K none) {o0 : Nat} {v1 : Int32} {v2 : Int32} {v3 : Int32} {v4 : Int32} (h0 : ro_sh o0 = (0, 1)) {μ : ro_Mem} {out : ro_Mem} (hf : fn_X1_putSlate o0 v1 v2 v3 v4 μ = some out) (hq : kQ K none out) : ro_X K 0 [(0, .ref (ro_ad (kG K) o0)), (1, .int v1), (2, .int v2), (3, .int v3), (4, .int v4)] [] μ := by
  unfold fn_X1_putSlate at hf
  refine ro_aload_n hK 0 rfl dX1_putSlate_0 rfl ?_
  refine ro_getr hK fl_X1_22 h0 dX1_putSlate_1 ?_
  refine ro_iload_n hK 1 rfl dX1_putSlate_4 rfl ?_
  refine ro_iload_n hK 2 rfl dX1_putSlate_5 rfl ?_
  obtain ⟨g1, hf⟩ := ro_gd hf
  obtain ⟨m2, e3, hf⟩ := ro_ld hf
  refine ro_iast hK (so_1_4 h0) g1 dX1_putSlate_6 ?_
  refine ro_mv e3 ?_
  refine ro_aload_n hK 0 rfl dX1_putSlate_7 rfl ?_
  refine ro_getr hK fl_X1_25 h0 dX1_putSlate_8 ?_
  refine ro_iload_n hK 1 rfl dX1_putSlate_11 rfl ?_
  refine ro_iload_n hK 3 rfl dX1_putSlate_12 rfl ?_
  obtain ⟨m4, e5, hf⟩ := ro_ld hf
  refine ro_iast hK (so_1_5 h0) g1 dX1_putSlate_13 ?_
  refine ro_mv e5 ?_
  refine ro_aload_n hK 0 rfl dX1_putSlate_14 rfl ?_
  refine ro_getr hK fl_X1_28 h0 dX1_putSlate_15 ?_
  refine ro_iload_n hK 1 rfl dX1_putSlate_18 rfl ?_
  refine ro_iload hK 4 rfl dX1_putSlate_19 ?_
  obtain ⟨m6, e7, hf⟩ := ro_ld hf
  refine ro_iast hK (so_1_6 h0) g1 dX1_putSlate_21 ?_
  refine ro_mv e7 ?_
  refine ro_aload_n hK 0 rfl dX1_putSlate_22 rfl ?_
  refine ro_dup hK dX1_putSlate_23 rfl ?_
  refine ro_geti hK fl_X1_65 h0 dX1_putSlate_24 ?_
  refine ro_iconst (v := 1) hK dX1_putSlate_27 (by decide) ?_
  refine ro_iload_n hK 1 rfl dX1_putSlate_28 rfl ?_
  refine ro_ishl hK dX1_putSlate_29 ?_
  refine ro_ior hK dX1_putSlate_30 ?_
  obtain ⟨m8, e9, hf⟩ := ro_ld hf
  refine ro_puti hK fl_X1_65 h0 rfl rfl dX1_putSlate_31 ?_
  refine ro_mv e9 ?_
  refine ro_aload_n hK 0 rfl dX1_putSlate_34 rfl ?_
  refine ro_dup hK dX1_putSlate_35 rfl ?_
  refine ro_geti hK fl_X1_68 h0 dX1_putSlate_36 ?_
  refine ro_iconst (v := 1) hK dX1_putSlate_39 (by decide) ?_
  refine ro_iload_n hK 1 rfl dX1_putSlate_40 rfl ?_
  refine ro_ishl hK dX1_putSlate_41 ?_
  refine ro_iconst (v := (-1)) hK dX1_putSlate_42 (by decide) ?_
  refine ro_ixor hK dX1_putSlate_43 ?_
  refine ro_iand hK dX1_putSlate_44 ?_
  obtain ⟨m10, e11, hf⟩ := ro_ld hf
  refine ro_puti hK fl_X1_68 h0 rfl rfl dX1_putSlate_45 ?_
  refine ro_mv e11 ?_
  obtain rfl := Option.some.inj hf
  exact ro_vret hK hR dX1_putSlate_48 hq
theorem mt_X1_putSlate (l : Launch) (G : ro_G) {o0 : Nat} {v1 : Int32} {v2 : Int32} {v3 : Int32} {v4 : Int32} (h0 : ro_sh o0 = (0, 1)) {μ : ro_Mem} {out : ro_Mem} (hf : fn_X1_putSlate o0 v1 v2 v3 v4 μ = some out) : ro_MX l G yX1_putSlate cX1_putSlate 5 none 0 [.ref (ro_ad G o0), .int v1, .int v2, .int v3, .int v4] μ none out := by
  refine ro_MX.of (by decide +kernel) (Nat.le_of_ble_eq_true rfl) (fun K hG hl hq hK hR => ?_)
  subst hG
  exact be_X1_putSlate hK hR h0 hf hq
-- ===== X1_putGuest =====
theorem dX1_putGuest_0 : decode cX1_putGuest 0 = .ok (.aload_n 0, 1) := by decide +kernel
theorem dX1_putGuest_1 : decode cX1_putGuest 1 = .ok (.getfield 34, 3) := by decide +kernel
theorem dX1_putGuest_4 : decode cX1_putGuest 4 = .ok (.iload_n 1, 1) := by decide +kernel
theorem dX1_putGuest_5 : decode cX1_putGuest 5 = .ok (.iload_n 2, 1) := by decide +kernel
theorem dX1_putGuest_6 : decode cX1_putGuest 6 = .ok (.iastore, 1) := by decide +kernel
theorem dX1_putGuest_7 : decode cX1_putGuest 7 = .ok (.aload_n 0, 1) := by decide +kernel
theorem dX1_putGuest_8 : decode cX1_putGuest 8 = .ok (.dup, 1) := by decide +kernel
theorem dX1_putGuest_9 : decode cX1_putGuest 9 = .ok (.getfield 71, 3) := by decide +kernel
theorem dX1_putGuest_12 : decode cX1_putGuest 12 = .ok (.iconst 1, 1) := by decide +kernel
theorem dX1_putGuest_13 : decode cX1_putGuest 13 = .ok (.iload_n 1, 1) := by decide +kernel
theorem dX1_putGuest_14 : decode cX1_putGuest 14 = .ok (.ishl, 1) := by decide +kernel
theorem dX1_putGuest_15 : decode cX1_putGuest 15 = .ok (.ior, 1) := by decide +kernel
theorem dX1_putGuest_16 : decode cX1_putGuest 16 = .ok (.putfield 71, 3) := by decide +kernel
theorem dX1_putGuest_19 : decode cX1_putGuest 19 = .ok (.iconst 0, 1) := by decide +kernel
theorem dX1_putGuest_20 : decode cX1_putGuest 20 = .ok (.istore_n 3, 1) := by decide +kernel
theorem dX1_putGuest_21 : decode cX1_putGuest 21 = .ok (.iload_n 3, 1) := by decide +kernel
theorem dX1_putGuest_22 : decode cX1_putGuest 22 = .ok (.iconst 4, 1) := by decide +kernel
theorem dX1_putGuest_23 : decode cX1_putGuest 23 = .ok (.if_icmp .ge 23, 3) := by decide +kernel
theorem dX1_putGuest_26 : decode cX1_putGuest 26 = .ok (.aload_n 0, 1) := by decide +kernel
theorem dX1_putGuest_27 : decode cX1_putGuest 27 = .ok (.getfield 37, 3) := by decide +kernel
theorem dX1_putGuest_30 : decode cX1_putGuest 30 = .ok (.iload_n 3, 1) := by decide +kernel
theorem dX1_putGuest_31 : decode cX1_putGuest 31 = .ok (.bipush 10, 2) := by decide +kernel
theorem dX1_putGuest_33 : decode cX1_putGuest 33 = .ok (.imul, 1) := by decide +kernel
theorem dX1_putGuest_34 : decode cX1_putGuest 34 = .ok (.iload_n 1, 1) := by decide +kernel
theorem dX1_putGuest_35 : decode cX1_putGuest 35 = .ok (.iadd, 1) := by decide +kernel
theorem dX1_putGuest_36 : decode cX1_putGuest 36 = .ok (.sipush 255, 3) := by decide +kernel
theorem dX1_putGuest_39 : decode cX1_putGuest 39 = .ok (.iastore, 1) := by decide +kernel
theorem dX1_putGuest_40 : decode cX1_putGuest 40 = .ok (.iinc 3 1, 3) := by decide +kernel
theorem dX1_putGuest_43 : decode cX1_putGuest 43 = .ok (.goto (-22), 3) := by decide +kernel
theorem dX1_putGuest_46 : decode cX1_putGuest 46 = .ok (.return_, 1) := by decide +kernel
def ok_X1_putGuest_21 (K : ro_K) (o0 : Nat) (v1 : Int32) : ro_Mem → Prop := fun e => ro_X K 46 [] [] e
def fb_X1_putGuest_21 (o0 : Nat) (v1 : Int32) (rec : (Int32 × ro_Mem) → Option ro_Mem) (v3 : Int32) (μ : ro_Mem) : Option ro_Mem :=
  if 4 ≤ v3 then
  (some μ)
  else
  (if ro_in ((v3 * 10) + v1) 40 then
  (ro_lt (ro_set μ (o0 + 9) ((v3 * 10) + v1).toNatClampNeg 255) fun m8 =>
  rec (v3 + 1, m8)) else none)
theorem bb_X1_putGuest_21 {K : ro_K} (hK : ro_C K RX1 cX1_putGuest 4 0) (hR : ro_R K none) {o0 : Nat} {v1 : Int32} (h0 : ro_sh o0 = (0, 1)) {μ : ro_Mem} {rec : (Int32 × ro_Mem) → Option ro_Mem} {v3 : Int32} {q : ro_Mem} (hrec : ∀ (s : Int32 × ro_Mem) (q : ro_Mem), rec s = some q → ok_X1_putGuest_21 K o0 v1 q → ro_X K 21 [(0, .ref (ro_ad (kG K) o0)), (1, .int v1), (3, .int s.1)] [] s.2) (hf : fb_X1_putGuest_21 o0 v1 rec v3 μ = some q) (hq : ok_X1_putGuest_21 K o0 v1 q) : ro_X K 21 [(0, .ref (ro_ad (kG K) o0)), (1, .int v1), (3, .int v3)] [] μ := by
  unfold fb_X1_putGuest_21 at hf
  refine ro_iload_n hK 2 rfl dX1_putGuest_21 rfl ?_
  refine ro_iconst (v := 4) hK dX1_putGuest_22 (by decide) ?_
  refine ro_icmp_ge hK 46 dX1_putGuest_23 (by decide) (fun c6 => ?_) (fun c6 => ?_)
  · have hf := ro_it hf c6
    refine ro_sub (L' := []) [] rfl ?_
    obtain rfl := Option.some.inj hf
    exact hq
  · have hf := ro_ie hf c6
    refine ro_aload_n hK 0 rfl dX1_putGuest_26 rfl ?_
    refine ro_getr hK fl_X1_37 h0 dX1_putGuest_27 ?_
    refine ro_iload_n hK 2 rfl dX1_putGuest_30 rfl ?_
    refine ro_bipush (v := 10) hK dX1_putGuest_31 (by decide) ?_
    refine ro_imul hK dX1_putGuest_33 ?_
    refine ro_iload_n hK 1 rfl dX1_putGuest_34 rfl ?_
    refine ro_iadd hK dX1_putGuest_35 ?_
    refine ro_sipush (v := 255) hK dX1_putGuest_36 (by decide) ?_
    obtain ⟨g7, hf⟩ := ro_gd hf
    obtain ⟨m8, e9, hf⟩ := ro_ld hf
    refine ro_iast hK (so_1_9 h0) g7 dX1_putGuest_39 ?_
    refine ro_mv e9 ?_
    refine ro_iinc (v := v3 + 1) (L' := [(3, .int (v3 + 1)), (0, .ref (ro_ad (kG K) o0)), (1, .int v1)]) hK 2 rfl dX1_putGuest_40 rfl (by decide) rfl ?_
    refine ro_goto hK 21 dX1_putGuest_43 (by decide) ?_
    refine ro_sub (L' := [(0, .ref (ro_ad (kG K) o0)), (1, .int v1), (3, .int (v3 + 1))]) [1, 2, 0] rfl ?_
    exact hrec (v3 + 1, m8) _ hf hq
def fl_X1_putGuest_21 (o0 : Nat) (v1 : Int32) : (Int32 × ro_Mem) → Option ro_Mem :=
  ro_loop (fun rec s => fb_X1_putGuest_21 o0 v1 rec s.1 s.2) ro_FU
theorem lp_X1_putGuest_21 {K : ro_K} (hK : ro_C K RX1 cX1_putGuest 4 0) (hR : ro_R K none) {o0 : Nat} {v1 : Int32} (h0 : ro_sh o0 = (0, 1)) {s : Int32 × ro_Mem} {q : ro_Mem} (hf : fl_X1_putGuest_21 o0 v1 s = some q) (hq : ok_X1_putGuest_21 K o0 v1 q) : ro_X K 21 [(0, .ref (ro_ad (kG K) o0)), (1, .int v1), (3, .int s.1)] [] s.2 :=
  ro_loopX (b := fun rec s => fb_X1_putGuest_21 o0 v1 rec s.1 s.2) (X := fun s => ro_X K 21 [(0, .ref (ro_ad (kG K) o0)), (1, .int v1), (3, .int s.1)] [] s.2) (OK := ok_X1_putGuest_21 K o0 v1) (fun rec s q hrec hb ho => bb_X1_putGuest_21 hK hR h0 hrec hb ho) ro_FU s q hf hq
def fn_X1_putGuest (o0 : Nat) (v1 : Int32) (v2 : Int32) (μ : ro_Mem) : Option ro_Mem :=
  if ro_in v1 10 then
  (ro_lt (ro_set μ (o0 + 8) v1.toNatClampNeg v2) fun m2 =>
  ro_lt (ro_set m2 o0 11 ((m2 o0 11) ||| ((1 : Int32) <<< (v1 &&& 31)))) fun m4 =>
  (fl_X1_putGuest_21 o0 v1 (0, m4)).bind fun q10 =>
  some q10) else none
theorem be_X1_putGuest {K : ro_K} (hK : ro_C K RX1 cX1_putGuest 4 0) (hR : ro_R K none) {o0 : Nat} {v1 : Int32} {v2 : Int32} (h0 : ro_sh o0 = (0, 1)) {μ : ro_Mem} {out : ro_Mem} (hf : fn_X1_putGuest o0 v1 v2 μ = some out) (hq : kQ K none out) : ro_X K 0 [(0, .ref (ro_ad (kG K) o0)), (1, .int v1), (2, .int v2)] [] μ := by
  unfold fn_X1_putGuest at hf
  refine ro_aload_n hK 0 rfl dX1_putGuest_0 rfl ?_
  refine ro_getr hK fl_X1_34 h0 dX1_putGuest_1 ?_
  refine ro_iload_n hK 1 rfl dX1_putGuest_4 rfl ?_
  refine ro_iload_n hK 2 rfl dX1_putGuest_5 rfl ?_
  obtain ⟨g1, hf⟩ := ro_gd hf
  obtain ⟨m2, e3, hf⟩ := ro_ld hf
  refine ro_iast hK (so_1_8 h0) g1 dX1_putGuest_6 ?_
  refine ro_mv e3 ?_
  refine ro_aload_n hK 0 rfl dX1_putGuest_7 rfl ?_
  refine ro_dup hK dX1_putGuest_8 rfl ?_
  refine ro_geti hK fl_X1_71 h0 dX1_putGuest_9 ?_
  refine ro_iconst (v := 1) hK dX1_putGuest_12 (by decide) ?_
  refine ro_iload_n hK 1 rfl dX1_putGuest_13 rfl ?_
  refine ro_ishl hK dX1_putGuest_14 ?_
  refine ro_ior hK dX1_putGuest_15 ?_
  obtain ⟨m4, e5, hf⟩ := ro_ld hf
  refine ro_puti hK fl_X1_71 h0 rfl rfl dX1_putGuest_16 ?_
  refine ro_mv e5 ?_
  refine ro_iconst (v := 0) hK dX1_putGuest_19 (by decide) ?_
  refine ro_istore_n (L' := [(3, .int 0), (0, .ref (ro_ad (kG K) o0)), (1, .int v1), (2, .int v2)]) hK dX1_putGuest_20 rfl (by decide) rfl ?_
  obtain ⟨q10, e11, hf⟩ := ro_bd hf
  refine ro_sub (L' := [(0, .ref (ro_ad (kG K) o0)), (1, .int v1), (3, .int 0)]) [1, 2, 0] rfl ?_
  refine lp_X1_putGuest_21 hK hR h0 e11 ?_
  show ro_X K 46 [] [] q10
  obtain rfl := Option.some.inj hf
  exact ro_vret hK hR dX1_putGuest_46 hq
theorem mt_X1_putGuest (l : Launch) (G : ro_G) {o0 : Nat} {v1 : Int32} {v2 : Int32} (h0 : ro_sh o0 = (0, 1)) {μ : ro_Mem} {out : ro_Mem} (hf : fn_X1_putGuest o0 v1 v2 μ = some out) : ro_MX l G yX1_putGuest cX1_putGuest 4 none 0 [.ref (ro_ad G o0), .int v1, .int v2] μ none out := by
  refine ro_MX.of (by decide +kernel) (Nat.le_of_ble_eq_true rfl) (fun K hG hl hq hK hR => ?_)
  subst hG
  exact be_X1_putGuest hK hR h0 hf hq
-- ===== X1_guestOn =====
theorem dX1_guestOn_0 : decode cX1_guestOn 0 = .ok (.iconst 0, 1) := by decide +kernel
theorem dX1_guestOn_1 : decode cX1_guestOn 1 = .ok (.istore_n 3, 1) := by decide +kernel
theorem dX1_guestOn_2 : decode cX1_guestOn 2 = .ok (.iload_n 3, 1) := by decide +kernel
theorem dX1_guestOn_3 : decode cX1_guestOn 3 = .ok (.bipush 10, 2) := by decide +kernel
theorem dX1_guestOn_5 : decode cX1_guestOn 5 = .ok (.if_icmp .ge 33, 3) := by decide +kernel
theorem dX1_guestOn_8 : decode cX1_guestOn 8 = .ok (.iload_n 2, 1) := by decide +kernel
theorem dX1_guestOn_9 : decode cX1_guestOn 9 = .ok (.sipush 255, 3) := by decide +kernel
theorem dX1_guestOn_12 : decode cX1_guestOn 12 = .ok (.if_icmp .eq 26, 3) := by decide +kernel
theorem dX1_guestOn_15 : decode cX1_guestOn 15 = .ok (.aload_n 0, 1) := by decide +kernel
theorem dX1_guestOn_16 : decode cX1_guestOn 16 = .ok (.getfield 37, 3) := by decide +kernel
theorem dX1_guestOn_19 : decode cX1_guestOn 19 = .ok (.iload_n 1, 1) := by decide +kernel
theorem dX1_guestOn_20 : decode cX1_guestOn 20 = .ok (.bipush 10, 2) := by decide +kernel
theorem dX1_guestOn_22 : decode cX1_guestOn 22 = .ok (.imul, 1) := by decide +kernel
theorem dX1_guestOn_23 : decode cX1_guestOn 23 = .ok (.iload_n 3, 1) := by decide +kernel
theorem dX1_guestOn_24 : decode cX1_guestOn 24 = .ok (.iadd, 1) := by decide +kernel
theorem dX1_guestOn_25 : decode cX1_guestOn 25 = .ok (.iaload, 1) := by decide +kernel
theorem dX1_guestOn_26 : decode cX1_guestOn 26 = .ok (.iload_n 2, 1) := by decide +kernel
theorem dX1_guestOn_27 : decode cX1_guestOn 27 = .ok (.if_icmp .ne 5, 3) := by decide +kernel
theorem dX1_guestOn_30 : decode cX1_guestOn 30 = .ok (.iload_n 3, 1) := by decide +kernel
theorem dX1_guestOn_31 : decode cX1_guestOn 31 = .ok (.ireturn, 1) := by decide +kernel
theorem dX1_guestOn_32 : decode cX1_guestOn 32 = .ok (.iinc 3 1, 3) := by decide +kernel
theorem dX1_guestOn_35 : decode cX1_guestOn 35 = .ok (.goto (-33), 3) := by decide +kernel
theorem dX1_guestOn_38 : decode cX1_guestOn 38 = .ok (.iconst (-1), 1) := by decide +kernel
theorem dX1_guestOn_39 : decode cX1_guestOn 39 = .ok (.ireturn, 1) := by decide +kernel
def ok_X1_guestOn_2 (K : ro_K) (o0 : Nat) (v1 : Int32) (v2 : Int32) (μ : ro_Mem) : (Int32 ⊕ Unit) → Prop := Sum.elim (fun e => ro_X K 30 [(3, .int e)] [] μ) (fun e => ro_X K 38 [] [] μ)
def fb_X1_guestOn_2 (o0 : Nat) (v1 : Int32) (v2 : Int32) (μ : ro_Mem) (rec : Int32 → Option (Int32 ⊕ Unit)) (v3 : Int32) : Option (Int32 ⊕ Unit) :=
  if 10 ≤ v3 then
  (some (.inr ()))
  else
  (if v2 = 255 then
  (some (.inr ()))
  else
  (if ro_in ((v1 * 10) + v3) 40 then
  (if (μ (o0 + 9) ((v1 * 10) + v3).toNatClampNeg) = v2 then
  (some (.inl v3))
  else
  (rec (v3 + 1))) else none))
theorem bb_X1_guestOn_2 {K : ro_K} (hK : ro_C K RX1 cX1_guestOn 4 0) (hR : ro_R K (some .int)) {o0 : Nat} {v1 : Int32} {v2 : Int32} (h0 : ro_sh o0 = (0, 1)) {μ : ro_Mem} {rec : Int32 → Option (Int32 ⊕ Unit)} {v3 : Int32} {q : (Int32 ⊕ Unit)} (hrec : ∀ (s : Int32) (q : (Int32 ⊕ Unit)), rec s = some q → ok_X1_guestOn_2 K o0 v1 v2 μ q → ro_X K 2 [(0, .ref (ro_ad (kG K) o0)), (1, .int v1), (2, .int v2), (3, .int s)] [] μ) (hf : fb_X1_guestOn_2 o0 v1 v2 μ rec v3 = some q) (hq : ok_X1_guestOn_2 K o0 v1 v2 μ q) : ro_X K 2 [(0, .ref (ro_ad (kG K) o0)), (1, .int v1), (2, .int v2), (3, .int v3)] [] μ := by
  unfold fb_X1_guestOn_2 at hf
  refine ro_iload_n hK 3 rfl dX1_guestOn_2 rfl ?_
  refine ro_bipush (v := 10) hK dX1_guestOn_3 (by decide) ?_
  refine ro_icmp_ge hK 38 dX1_guestOn_5 (by decide) (fun c1 => ?_) (fun c1 => ?_)
  · have hf := ro_it hf c1
    refine ro_sub (L' := []) [] rfl ?_
    obtain rfl := Option.some.inj hf
    exact hq
  · have hf := ro_ie hf c1
    refine ro_iload_n hK 2 rfl dX1_guestOn_8 rfl ?_
    refine ro_sipush (v := 255) hK dX1_guestOn_9 (by decide) ?_
    refine ro_icmp_eq hK 38 dX1_guestOn_12 (by decide) (fun c2 => ?_) (fun c2 => ?_)
    · have hf := ro_it hf c2
      refine ro_sub (L' := []) [] rfl ?_
      obtain rfl := Option.some.inj hf
      exact hq
    · have hf := ro_ie hf c2
      refine ro_aload_n hK 0 rfl dX1_guestOn_15 rfl ?_
      refine ro_getr hK fl_X1_37 h0 dX1_guestOn_16 ?_
      refine ro_iload_n hK 1 rfl dX1_guestOn_19 rfl ?_
      refine ro_bipush (v := 10) hK dX1_guestOn_20 (by decide) ?_
      refine ro_imul hK dX1_guestOn_22 ?_
      refine ro_iload_n hK 3 rfl dX1_guestOn_23 rfl ?_
      refine ro_iadd hK dX1_guestOn_24 ?_
      obtain ⟨g3, hf⟩ := ro_gd hf
      refine ro_iald hK (so_1_9 h0) g3 dX1_guestOn_25 ?_
      refine ro_iload_n hK 2 rfl dX1_guestOn_26 rfl ?_
      refine ro_icmp_ne hK 32 dX1_guestOn_27 (by decide) (fun c4 => ?_) (fun c4 => ?_)
      · have hf := ro_ie hf c4
        refine ro_iinc (v := v3 + 1) (L' := [(3, .int (v3 + 1)), (0, .ref (ro_ad (kG K) o0)), (1, .int v1), (2, .int v2)]) hK 3 rfl dX1_guestOn_32 rfl (by decide) rfl ?_
        refine ro_goto hK 2 dX1_guestOn_35 (by decide) ?_
        refine ro_sub (L' := [(0, .ref (ro_ad (kG K) o0)), (1, .int v1), (2, .int v2), (3, .int (v3 + 1))]) [1, 2, 3, 0] rfl ?_
        exact hrec (v3 + 1) _ hf hq
      · have hf := ro_it hf c4
        refine ro_sub (L' := [(3, .int v3)]) [3] rfl ?_
        obtain rfl := Option.some.inj hf
        exact hq
def fl_X1_guestOn_2 (o0 : Nat) (v1 : Int32) (v2 : Int32) (μ : ro_Mem) : Int32 → Option (Int32 ⊕ Unit) :=
  ro_loop (fun rec s => fb_X1_guestOn_2 o0 v1 v2 μ rec s) ro_FU
theorem lp_X1_guestOn_2 {K : ro_K} (hK : ro_C K RX1 cX1_guestOn 4 0) (hR : ro_R K (some .int)) {o0 : Nat} {v1 : Int32} {v2 : Int32} (h0 : ro_sh o0 = (0, 1)) {μ : ro_Mem} {s : Int32} {q : (Int32 ⊕ Unit)} (hf : fl_X1_guestOn_2 o0 v1 v2 μ s = some q) (hq : ok_X1_guestOn_2 K o0 v1 v2 μ q) : ro_X K 2 [(0, .ref (ro_ad (kG K) o0)), (1, .int v1), (2, .int v2), (3, .int s)] [] μ :=
  ro_loopX (b := fun rec s => fb_X1_guestOn_2 o0 v1 v2 μ rec s) (X := fun s => ro_X K 2 [(0, .ref (ro_ad (kG K) o0)), (1, .int v1), (2, .int v2), (3, .int s)] [] μ) (OK := ok_X1_guestOn_2 K o0 v1 v2 μ) (fun rec s q hrec hb ho => bb_X1_guestOn_2 hK hR h0 hrec hb ho) ro_FU s q hf hq
def fn_X1_guestOn (o0 : Nat) (v1 : Int32) (v2 : Int32) (μ : ro_Mem) : Option Int32 :=
  (fl_X1_guestOn_2 o0 v1 v2 μ 0).bind fun q5 =>
  q5.elim (fun e7 => some e7) (fun e8 => some (-1))
theorem be_X1_guestOn {K : ro_K} (hK : ro_C K RX1 cX1_guestOn 4 0) (hR : ro_R K (some .int)) {o0 : Nat} {v1 : Int32} {v2 : Int32} (h0 : ro_sh o0 = (0, 1)) {μ : ro_Mem} {out : Int32} (hf : fn_X1_guestOn o0 v1 v2 μ = some out) (hq : kQ K (some (.int out)) μ) : ro_X K 0 [(0, .ref (ro_ad (kG K) o0)), (1, .int v1), (2, .int v2)] [] μ := by
  unfold fn_X1_guestOn at hf
  refine ro_iconst (v := 0) hK dX1_guestOn_0 (by decide) ?_
  refine ro_istore_n (L' := [(3, .int 0), (0, .ref (ro_ad (kG K) o0)), (1, .int v1), (2, .int v2)]) hK dX1_guestOn_1 rfl (by decide) rfl ?_
  obtain ⟨q5, e6, hf⟩ := ro_bd hf
  refine ro_sub (L' := [(0, .ref (ro_ad (kG K) o0)), (1, .int v1), (2, .int v2), (3, .int 0)]) [1, 2, 3, 0] rfl ?_
  refine lp_X1_guestOn_2 hK hR h0 e6 ?_
  rcases q5 with e7 | e8
  · have hf := ro_el hf
    show ro_X K 30 [(3, .int e7)] [] μ
    refine ro_iload_n hK 0 rfl dX1_guestOn_30 rfl ?_
    obtain rfl := Option.some.inj hf
    exact ro_iret hK hR dX1_guestOn_31 hq
  · have hf := ro_er hf
    show ro_X K 38 [] [] μ
    refine ro_iconst (v := (-1)) hK dX1_guestOn_38 (by decide) ?_
    obtain rfl := Option.some.inj hf
    exact ro_iret hK hR dX1_guestOn_39 hq
theorem mt_X1_guestOn (l : Launch) (G : ro_G) {o0 : Nat} {v1 : Int32} {v2 : Int32} (h0 : ro_sh o0 = (0, 1)) {μ : ro_Mem} {out : Int32} (hf : fn_X1_guestOn o0 v1 v2 μ = some out) : ro_MX l G yX1_guestOn cX1_guestOn 4 (some .int) 0 [.ref (ro_ad G o0), .int v1, .int v2] μ (some (.int out)) μ := by
  refine ro_MX.of (by decide +kernel) (Nat.le_of_ble_eq_true rfl) (fun K hG hl hq hK hR => ?_)
  subst hG
  exact be_X1_guestOn hK hR h0 hf hq
-- ===== X1_countAt =====
theorem dX1_countAt_0 : decode cX1_countAt 0 = .ok (.iload_n 1, 1) := by decide +kernel
theorem dX1_countAt_1 : decode cX1_countAt 1 = .ok (.bipush 10, 2) := by decide +kernel
theorem dX1_countAt_3 : decode cX1_countAt 3 = .ok (.if_icmp .lt 19, 3) := by decide +kernel
theorem dX1_countAt_6 : decode cX1_countAt 6 = .ok (.iload_n 1, 1) := by decide +kernel
theorem dX1_countAt_7 : decode cX1_countAt 7 = .ok (.bipush 14, 2) := by decide +kernel
theorem dX1_countAt_9 : decode cX1_countAt 9 = .ok (.if_icmp .ge 13, 3) := by decide +kernel
theorem dX1_countAt_12 : decode cX1_countAt 12 = .ok (.aload_n 0, 1) := by decide +kernel
theorem dX1_countAt_13 : decode cX1_countAt 13 = .ok (.getfield 31, 3) := by decide +kernel
theorem dX1_countAt_16 : decode cX1_countAt 16 = .ok (.iload_n 1, 1) := by decide +kernel
theorem dX1_countAt_17 : decode cX1_countAt 17 = .ok (.bipush 10, 2) := by decide +kernel
theorem dX1_countAt_19 : decode cX1_countAt 19 = .ok (.isub, 1) := by decide +kernel
theorem dX1_countAt_20 : decode cX1_countAt 20 = .ok (.iaload, 1) := by decide +kernel
theorem dX1_countAt_21 : decode cX1_countAt 21 = .ok (.ireturn, 1) := by decide +kernel
theorem dX1_countAt_22 : decode cX1_countAt 22 = .ok (.iload_n 1, 1) := by decide +kernel
theorem dX1_countAt_23 : decode cX1_countAt 23 = .ok (.bipush 100, 2) := by decide +kernel
theorem dX1_countAt_25 : decode cX1_countAt 25 = .ok (.if_icmp .lt 20, 3) := by decide +kernel
theorem dX1_countAt_28 : decode cX1_countAt 28 = .ok (.iload_n 1, 1) := by decide +kernel
theorem dX1_countAt_29 : decode cX1_countAt 29 = .ok (.sipush 196, 3) := by decide +kernel
theorem dX1_countAt_32 : decode cX1_countAt 32 = .ok (.if_icmp .ge 13, 3) := by decide +kernel
theorem dX1_countAt_35 : decode cX1_countAt 35 = .ok (.aload_n 0, 1) := by decide +kernel
theorem dX1_countAt_36 : decode cX1_countAt 36 = .ok (.getfield 19, 3) := by decide +kernel
theorem dX1_countAt_39 : decode cX1_countAt 39 = .ok (.iload_n 1, 1) := by decide +kernel
theorem dX1_countAt_40 : decode cX1_countAt 40 = .ok (.bipush 100, 2) := by decide +kernel
theorem dX1_countAt_42 : decode cX1_countAt 42 = .ok (.isub, 1) := by decide +kernel
theorem dX1_countAt_43 : decode cX1_countAt 43 = .ok (.iaload, 1) := by decide +kernel
theorem dX1_countAt_44 : decode cX1_countAt 44 = .ok (.ireturn, 1) := by decide +kernel
theorem dX1_countAt_45 : decode cX1_countAt 45 = .ok (.iload_n 1, 1) := by decide +kernel
theorem dX1_countAt_46 : decode cX1_countAt 46 = .ok (.sipush 200, 3) := by decide +kernel
theorem dX1_countAt_49 : decode cX1_countAt 49 = .ok (.if_icmp .lt 42, 3) := by decide +kernel
theorem dX1_countAt_52 : decode cX1_countAt 52 = .ok (.iload_n 1, 1) := by decide +kernel
theorem dX1_countAt_53 : decode cX1_countAt 53 = .ok (.sipush 296, 3) := by decide +kernel
theorem dX1_countAt_56 : decode cX1_countAt 56 = .ok (.if_icmp .ge 35, 3) := by decide +kernel
theorem dX1_countAt_59 : decode cX1_countAt 59 = .ok (.aload_n 0, 1) := by decide +kernel
theorem dX1_countAt_60 : decode cX1_countAt 60 = .ok (.getfield 15, 3) := by decide +kernel
theorem dX1_countAt_63 : decode cX1_countAt 63 = .ok (.iload_n 1, 1) := by decide +kernel
theorem dX1_countAt_64 : decode cX1_countAt 64 = .ok (.sipush 200, 3) := by decide +kernel
theorem dX1_countAt_67 : decode cX1_countAt 67 = .ok (.isub, 1) := by decide +kernel
theorem dX1_countAt_68 : decode cX1_countAt 68 = .ok (.iaload, 1) := by decide +kernel
theorem dX1_countAt_69 : decode cX1_countAt 69 = .ok (.aload_n 0, 1) := by decide +kernel
theorem dX1_countAt_70 : decode cX1_countAt 70 = .ok (.getfield 9, 3) := by decide +kernel
theorem dX1_countAt_73 : decode cX1_countAt 73 = .ok (.iload_n 1, 1) := by decide +kernel
theorem dX1_countAt_74 : decode cX1_countAt 74 = .ok (.sipush 200, 3) := by decide +kernel
theorem dX1_countAt_77 : decode cX1_countAt 77 = .ok (.isub, 1) := by decide +kernel
theorem dX1_countAt_78 : decode cX1_countAt 78 = .ok (.baload, 1) := by decide +kernel
theorem dX1_countAt_79 : decode cX1_countAt 79 = .ok (.ifCond .eq 9, 3) := by decide +kernel
theorem dX1_countAt_82 : decode cX1_countAt 82 = .ok (.sipush 1000, 3) := by decide +kernel
theorem dX1_countAt_85 : decode cX1_countAt 85 = .ok (.goto 4, 3) := by decide +kernel
theorem dX1_countAt_88 : decode cX1_countAt 88 = .ok (.iconst 0, 1) := by decide +kernel
theorem dX1_countAt_89 : decode cX1_countAt 89 = .ok (.iadd, 1) := by decide +kernel
theorem dX1_countAt_90 : decode cX1_countAt 90 = .ok (.ireturn, 1) := by decide +kernel
theorem dX1_countAt_91 : decode cX1_countAt 91 = .ok (.iload_n 1, 1) := by decide +kernel
theorem dX1_countAt_92 : decode cX1_countAt 92 = .ok (.sipush 300, 3) := by decide +kernel
theorem dX1_countAt_95 : decode cX1_countAt 95 = .ok (.if_icmp .lt 36, 3) := by decide +kernel
theorem dX1_countAt_98 : decode cX1_countAt 98 = .ok (.iload_n 1, 1) := by decide +kernel
theorem dX1_countAt_99 : decode cX1_countAt 99 = .ok (.sipush 340, 3) := by decide +kernel
theorem dX1_countAt_102 : decode cX1_countAt 102 = .ok (.if_icmp .ge 29, 3) := by decide +kernel
theorem dX1_countAt_105 : decode cX1_countAt 105 = .ok (.aload_n 0, 1) := by decide +kernel
theorem dX1_countAt_106 : decode cX1_countAt 106 = .ok (.iload_n 1, 1) := by decide +kernel
theorem dX1_countAt_107 : decode cX1_countAt 107 = .ok (.sipush 300, 3) := by decide +kernel
theorem dX1_countAt_110 : decode cX1_countAt 110 = .ok (.isub, 1) := by decide +kernel
theorem dX1_countAt_111 : decode cX1_countAt 111 = .ok (.bipush 10, 2) := by decide +kernel
theorem dX1_countAt_113 : decode cX1_countAt 113 = .ok (.irem, 1) := by decide +kernel
theorem dX1_countAt_114 : decode cX1_countAt 114 = .ok (.invokevirtual 86, 3) := by decide +kernel
theorem dX1_countAt_117 : decode cX1_countAt 117 = .ok (.ifCond .eq 14, 3) := by decide +kernel
theorem dX1_countAt_120 : decode cX1_countAt 120 = .ok (.aload_n 0, 1) := by decide +kernel
theorem dX1_countAt_121 : decode cX1_countAt 121 = .ok (.getfield 37, 3) := by decide +kernel
theorem dX1_countAt_124 : decode cX1_countAt 124 = .ok (.iload_n 1, 1) := by decide +kernel
theorem dX1_countAt_125 : decode cX1_countAt 125 = .ok (.sipush 300, 3) := by decide +kernel
theorem dX1_countAt_128 : decode cX1_countAt 128 = .ok (.isub, 1) := by decide +kernel
theorem dX1_countAt_129 : decode cX1_countAt 129 = .ok (.iaload, 1) := by decide +kernel
theorem dX1_countAt_130 : decode cX1_countAt 130 = .ok (.ireturn, 1) := by decide +kernel
theorem dX1_countAt_131 : decode cX1_countAt 131 = .ok (.iconst (-1), 1) := by decide +kernel
theorem dX1_countAt_132 : decode cX1_countAt 132 = .ok (.ireturn, 1) := by decide +kernel
def fj_X1_countAt_91 (o0 : Nat) (v1 : Int32) (μ : ro_Mem) : Option Int32 :=
  if v1 < 300 then
  (some (-1))
  else
  (if 340 ≤ v1 then
  (some (-1))
  else
  ((fn_X1_isGuest o0 (ro_rem (v1 - 300) 10) μ).bind fun q6 =>
  if q6 = 0 then
  (some (-1))
  else
  (if ro_in (v1 - 300) 40 then
  (some (μ (o0 + 9) (v1 - 300).toNatClampNeg)) else none)))
theorem bj_X1_countAt_91 {K : ro_K} (hK : ro_C K RX1 cX1_countAt 2 1) (hR : ro_R K (some .int)) {o0 : Nat} {v1 : Int32} (h0 : ro_sh o0 = (0, 1))  {μ : ro_Mem}  {out : Int32} (hf : fj_X1_countAt_91 o0 v1 μ = some out) (hq : kQ K (some (.int out)) μ) : ro_X K 91 [(0, .ref (ro_ad (kG K) o0)), (1, .int v1)] [] μ := by
  unfold fj_X1_countAt_91 at hf
  refine ro_iload_n hK 1 rfl dX1_countAt_91 rfl ?_
  refine ro_sipush (v := 300) hK dX1_countAt_92 (by decide) ?_
  refine ro_icmp_lt hK 131 dX1_countAt_95 (by decide) (fun c4 => ?_) (fun c4 => ?_)
  · have hf := ro_it hf c4
    refine ro_iconst (v := (-1)) hK dX1_countAt_131 (by decide) ?_
    obtain rfl := Option.some.inj hf
    exact ro_iret hK hR dX1_countAt_132 hq
  · have hf := ro_ie hf c4
    refine ro_iload_n hK 1 rfl dX1_countAt_98 rfl ?_
    refine ro_sipush (v := 340) hK dX1_countAt_99 (by decide) ?_
    refine ro_icmp_ge hK 131 dX1_countAt_102 (by decide) (fun c5 => ?_) (fun c5 => ?_)
    · have hf := ro_it hf c5
      refine ro_iconst (v := (-1)) hK dX1_countAt_131 (by decide) ?_
      obtain rfl := Option.some.inj hf
      exact ro_iret hK hR dX1_countAt_132 hq
    · have hf := ro_ie hf c5
      refine ro_aload_n hK 0 rfl dX1_countAt_105 rfl ?_
      refine ro_iload_n hK 1 rfl dX1_countAt_106 rfl ?_
      refine ro_sipush (v := 300) hK dX1_countAt_107 (by decide) ?_
      refine ro_isub hK dX1_countAt_110 ?_
      refine ro_bipush (v := 10) hK dX1_countAt_111 (by decide) ?_
      refine ro_irem hK dX1_countAt_113 (by decide) ?_
      obtain ⟨q6, e7, hf⟩ := ro_bd hf
      refine ro_callvi hK [.int (ro_rem (v1 - 300) 10)] ml_X1_86 mv_X1_isGuest (mt_X1_isGuest (kl K) (kG K) h0 e7) h0 ⟨_, rfl, rfl⟩ (by decide) rfl rfl (Nat.le_of_ble_eq_true rfl) dX1_countAt_114 ?_
      refine ro_if_eq hK 131 dX1_countAt_117 (by decide) (fun c8 => ?_) (fun c8 => ?_)
      · have hf := ro_it hf c8
        refine ro_iconst (v := (-1)) hK dX1_countAt_131 (by decide) ?_
        obtain rfl := Option.some.inj hf
        exact ro_iret hK hR dX1_countAt_132 hq
      · have hf := ro_ie hf c8
        refine ro_aload_n hK 0 rfl dX1_countAt_120 rfl ?_
        refine ro_getr hK fl_X1_37 h0 dX1_countAt_121 ?_
        refine ro_iload_n hK 1 rfl dX1_countAt_124 rfl ?_
        refine ro_sipush (v := 300) hK dX1_countAt_125 (by decide) ?_
        refine ro_isub hK dX1_countAt_128 ?_
        obtain ⟨g9, hf⟩ := ro_gd hf
        refine ro_iald hK (so_1_9 h0) g9 dX1_countAt_129 ?_
        obtain rfl := Option.some.inj hf
        exact ro_iret hK hR dX1_countAt_130 hq
def fj_X1_countAt_45 (o0 : Nat) (v1 : Int32) (μ : ro_Mem) : Option Int32 :=
  if v1 < 200 then
  (fj_X1_countAt_91 o0 v1 μ)
  else
  (if 296 ≤ v1 then
  (fj_X1_countAt_91 o0 v1 μ)
  else
  (if ro_in (v1 - 200) 96 then
  (if (μ (o0 + 1) (v1 - 200).toNatClampNeg) = 0 then
  (some ((μ (o0 + 2) (v1 - 200).toNatClampNeg) + 0))
  else
  (some ((μ (o0 + 2) (v1 - 200).toNatClampNeg) + 1000))) else none))
theorem bj_X1_countAt_45 {K : ro_K} (hK : ro_C K RX1 cX1_countAt 2 1) (hR : ro_R K (some .int)) {o0 : Nat} {v1 : Int32} (h0 : ro_sh o0 = (0, 1))  {μ : ro_Mem}  {out : Int32} (hf : fj_X1_countAt_45 o0 v1 μ = some out) (hq : kQ K (some (.int out)) μ) : ro_X K 45 [(0, .ref (ro_ad (kG K) o0)), (1, .int v1)] [] μ := by
  unfold fj_X1_countAt_45 at hf
  refine ro_iload_n hK 1 rfl dX1_countAt_45 rfl ?_
  refine ro_sipush (v := 200) hK dX1_countAt_46 (by decide) ?_
  refine ro_icmp_lt hK 91 dX1_countAt_49 (by decide) (fun c3 => ?_) (fun c3 => ?_)
  · have hf := ro_it hf c3
    exact bj_X1_countAt_91 hK hR h0 hf hq
  · have hf := ro_ie hf c3
    refine ro_iload_n hK 1 rfl dX1_countAt_52 rfl ?_
    refine ro_sipush (v := 296) hK dX1_countAt_53 (by decide) ?_
    refine ro_icmp_ge hK 91 dX1_countAt_56 (by decide) (fun c10 => ?_) (fun c10 => ?_)
    · have hf := ro_it hf c10
      exact bj_X1_countAt_91 hK hR h0 hf hq
    · have hf := ro_ie hf c10
      refine ro_aload_n hK 0 rfl dX1_countAt_59 rfl ?_
      refine ro_getr hK fl_X1_15 h0 dX1_countAt_60 ?_
      refine ro_iload_n hK 1 rfl dX1_countAt_63 rfl ?_
      refine ro_sipush (v := 200) hK dX1_countAt_64 (by decide) ?_
      refine ro_isub hK dX1_countAt_67 ?_
      obtain ⟨g11, hf⟩ := ro_gd hf
      refine ro_iald hK (so_1_2 h0) g11 dX1_countAt_68 ?_
      refine ro_aload_n hK 0 rfl dX1_countAt_69 rfl ?_
      refine ro_getr hK fl_X1_9 h0 dX1_countAt_70 ?_
      refine ro_iload_n hK 1 rfl dX1_countAt_73 rfl ?_
      refine ro_sipush (v := 200) hK dX1_countAt_74 (by decide) ?_
      refine ro_isub hK dX1_countAt_77 ?_
      refine ro_zald hK (so_1_1 h0) g11 dX1_countAt_78 ?_
      refine ro_if_eq hK 88 dX1_countAt_79 (by decide) (fun c12 => ?_) (fun c12 => ?_)
      · have hf := ro_it hf c12
        refine ro_iconst (v := 0) hK dX1_countAt_88 (by decide) ?_
        refine ro_iadd hK dX1_countAt_89 ?_
        obtain rfl := Option.some.inj hf
        exact ro_iret hK hR dX1_countAt_90 hq
      · have hf := ro_ie hf c12
        refine ro_sipush (v := 1000) hK dX1_countAt_82 (by decide) ?_
        refine ro_goto hK 89 dX1_countAt_85 (by decide) ?_
        refine ro_iadd hK dX1_countAt_89 ?_
        obtain rfl := Option.some.inj hf
        exact ro_iret hK hR dX1_countAt_90 hq
def fj_X1_countAt_22 (o0 : Nat) (v1 : Int32) (μ : ro_Mem) : Option Int32 :=
  if v1 < 100 then
  (fj_X1_countAt_45 o0 v1 μ)
  else
  (if 196 ≤ v1 then
  (fj_X1_countAt_45 o0 v1 μ)
  else
  (if ro_in (v1 - 100) 96 then
  (some (μ (o0 + 3) (v1 - 100).toNatClampNeg)) else none))
theorem bj_X1_countAt_22 {K : ro_K} (hK : ro_C K RX1 cX1_countAt 2 1) (hR : ro_R K (some .int)) {o0 : Nat} {v1 : Int32} (h0 : ro_sh o0 = (0, 1))  {μ : ro_Mem}  {out : Int32} (hf : fj_X1_countAt_22 o0 v1 μ = some out) (hq : kQ K (some (.int out)) μ) : ro_X K 22 [(0, .ref (ro_ad (kG K) o0)), (1, .int v1)] [] μ := by
  unfold fj_X1_countAt_22 at hf
  refine ro_iload_n hK 1 rfl dX1_countAt_22 rfl ?_
  refine ro_bipush (v := 100) hK dX1_countAt_23 (by decide) ?_
  refine ro_icmp_lt hK 45 dX1_countAt_25 (by decide) (fun c2 => ?_) (fun c2 => ?_)
  · have hf := ro_it hf c2
    exact bj_X1_countAt_45 hK hR h0 hf hq
  · have hf := ro_ie hf c2
    refine ro_iload_n hK 1 rfl dX1_countAt_28 rfl ?_
    refine ro_sipush (v := 196) hK dX1_countAt_29 (by decide) ?_
    refine ro_icmp_ge hK 45 dX1_countAt_32 (by decide) (fun c13 => ?_) (fun c13 => ?_)
    · have hf := ro_it hf c13
      exact bj_X1_countAt_45 hK hR h0 hf hq
    · have hf := ro_ie hf c13
      refine ro_aload_n hK 0 rfl dX1_countAt_35 rfl ?_
      refine ro_getr hK fl_X1_19 h0 dX1_countAt_36 ?_
      refine ro_iload_n hK 1 rfl dX1_countAt_39 rfl ?_
      refine ro_bipush (v := 100) hK dX1_countAt_40 (by decide) ?_
      refine ro_isub hK dX1_countAt_42 ?_
      obtain ⟨g14, hf⟩ := ro_gd hf
      refine ro_iald hK (so_1_3 h0) g14 dX1_countAt_43 ?_
      obtain rfl := Option.some.inj hf
      exact ro_iret hK hR dX1_countAt_44 hq
def fn_X1_countAt (o0 : Nat) (v1 : Int32) (μ : ro_Mem) : Option Int32 :=
  if v1 < 10 then
  (fj_X1_countAt_22 o0 v1 μ)
  else
  (if 14 ≤ v1 then
  (fj_X1_countAt_22 o0 v1 μ)
  else
  (if ro_in (v1 - 10) 4 then
  (some (μ (o0 + 7) (v1 - 10).toNatClampNeg)) else none))
theorem be_X1_countAt {K : ro_K} (hK : ro_C K RX1 cX1_countAt 2 1) (hR : ro_R K (some .int)) {o0 : Nat} {v1 : Int32} (h0 : ro_sh o0 = (0, 1)) {μ : ro_Mem} {out : Int32} (hf : fn_X1_countAt o0 v1 μ = some out) (hq : kQ K (some (.int out)) μ) : ro_X K 0 [(0, .ref (ro_ad (kG K) o0)), (1, .int v1)] [] μ := by
  unfold fn_X1_countAt at hf
  refine ro_iload_n hK 1 rfl dX1_countAt_0 rfl ?_
  refine ro_bipush (v := 10) hK dX1_countAt_1 (by decide) ?_
  refine ro_icmp_lt hK 22 dX1_countAt_3 (by decide) (fun c1 => ?_) (fun c1 => ?_)
  · have hf := ro_it hf c1
    exact bj_X1_countAt_22 hK hR h0 hf hq
  · have hf := ro_ie hf c1
    refine ro_iload_n hK 1 rfl dX1_countAt_6 rfl ?_
    refine ro_bipush (v := 14) hK dX1_countAt_7 (by decide) ?_
    refine ro_icmp_ge hK 22 dX1_countAt_9 (by decide) (fun c15 => ?_) (fun c15 => ?_)
    · have hf := ro_it hf c15
      exact bj_X1_countAt_22 hK hR h0 hf hq
    · have hf := ro_ie hf c15
      refine ro_aload_n hK 0 rfl dX1_countAt_12 rfl ?_
      refine ro_getr hK fl_X1_31 h0 dX1_countAt_13 ?_
      refine ro_iload_n hK 1 rfl dX1_countAt_16 rfl ?_
      refine ro_bipush (v := 10) hK dX1_countAt_17 (by decide) ?_
      refine ro_isub hK dX1_countAt_19 ?_
      obtain ⟨g16, hf⟩ := ro_gd hf
      refine ro_iald hK (so_1_7 h0) g16 dX1_countAt_20 ?_
      obtain rfl := Option.some.inj hf
      exact ro_iret hK hR dX1_countAt_21 hq
theorem mt_X1_countAt (l : Launch) (G : ro_G) {o0 : Nat} {v1 : Int32} (h0 : ro_sh o0 = (0, 1)) {μ : ro_Mem} {out : Int32} (hf : fn_X1_countAt o0 v1 μ = some out) : ro_MX l G yX1_countAt cX1_countAt 2 (some .int) 1 [.ref (ro_ad G o0), .int v1] μ (some (.int out)) μ := by
  refine ro_MX.of (by decide +kernel) (Nat.le_of_ble_eq_true rfl) (fun K hG hl hq hK hR => ?_)
  subst hG
  exact be_X1_countAt hK hR h0 hf hq
-- ===== X2_emit =====
theorem dX2_emit_0 : decode cX2_emit 0 = .ok (.aload_n 0, 1) := by decide +kernel
theorem dX2_emit_1 : decode cX2_emit 1 = .ok (.getfield 56, 3) := by decide +kernel
theorem dX2_emit_4 : decode cX2_emit 4 = .ok (.istore_n 3, 1) := by decide +kernel
theorem dX2_emit_5 : decode cX2_emit 5 = .ok (.iload_n 3, 1) := by decide +kernel
theorem dX2_emit_6 : decode cX2_emit 6 = .ok (.sipush 200, 3) := by decide +kernel
theorem dX2_emit_9 : decode cX2_emit 9 = .ok (.if_icmp .ge 27, 3) := by decide +kernel
theorem dX2_emit_12 : decode cX2_emit 12 = .ok (.aload_n 0, 1) := by decide +kernel
theorem dX2_emit_13 : decode cX2_emit 13 = .ok (.getfield 11, 3) := by decide +kernel
theorem dX2_emit_16 : decode cX2_emit 16 = .ok (.iload_n 3, 1) := by decide +kernel
theorem dX2_emit_17 : decode cX2_emit 17 = .ok (.iload_n 1, 1) := by decide +kernel
theorem dX2_emit_18 : decode cX2_emit 18 = .ok (.iastore, 1) := by decide +kernel
theorem dX2_emit_19 : decode cX2_emit 19 = .ok (.aload_n 0, 1) := by decide +kernel
theorem dX2_emit_20 : decode cX2_emit 20 = .ok (.getfield 15, 3) := by decide +kernel
theorem dX2_emit_23 : decode cX2_emit 23 = .ok (.iload_n 3, 1) := by decide +kernel
theorem dX2_emit_24 : decode cX2_emit 24 = .ok (.iload_n 2, 1) := by decide +kernel
theorem dX2_emit_25 : decode cX2_emit 25 = .ok (.iastore, 1) := by decide +kernel
theorem dX2_emit_26 : decode cX2_emit 26 = .ok (.aload_n 0, 1) := by decide +kernel
theorem dX2_emit_27 : decode cX2_emit 27 = .ok (.dup, 1) := by decide +kernel
theorem dX2_emit_28 : decode cX2_emit 28 = .ok (.getfield 56, 3) := by decide +kernel
theorem dX2_emit_31 : decode cX2_emit 31 = .ok (.iconst 1, 1) := by decide +kernel
theorem dX2_emit_32 : decode cX2_emit 32 = .ok (.iadd, 1) := by decide +kernel
theorem dX2_emit_33 : decode cX2_emit 33 = .ok (.putfield 56, 3) := by decide +kernel
theorem dX2_emit_36 : decode cX2_emit 36 = .ok (.iload_n 3, 1) := by decide +kernel
theorem dX2_emit_37 : decode cX2_emit 37 = .ok (.ireturn, 1) := by decide +kernel
def fn_X2_emit (o0 : Nat) (v1 : Int32) (v2 : Int32) (μ : ro_Mem) : Option (Int32 × ro_Mem) :=
  ro_lt (μ o0 2) fun z1 =>
  if 200 ≤ z1 then
  (some (z1, μ))
  else
  (if ro_in z1 200 then
  (ro_lt (ro_set μ (o0 + 1) z1.toNatClampNeg v1) fun m5 =>
  ro_lt (ro_set m5 (o0 + 2) z1.toNatClampNeg v2) fun m7 =>
  ro_lt (ro_set m7 o0 2 ((m7 o0 2) + 1)) fun m9 =>
  some (z1, m9)) else none)
theorem be_X2_emit {K : ro_K} (hK : ro_C K RX2 cX2_emit 4 0) (hR : ro_R K (some .int)) {o0 : Nat} {v1 : Int32} {v2 : Int32} (h0 : ro_sh o0 = (0, 2)) {μ : ro_Mem} {out : Int32 × ro_Mem} (hf : fn_X2_emit o0 v1 v2 μ = some out) (hq : kQ K (some (.int out.1)) out.2) : ro_X K 0 [(0, .ref (ro_ad (kG K) o0)), (1, .int v1), (2, .int v2)] [] μ := by
  unfold fn_X2_emit at hf
  refine ro_aload_n hK 0 rfl dX2_emit_0 rfl ?_
  refine ro_geti hK fl_X2_56 h0 dX2_emit_1 ?_
  obtain ⟨z1, e2, hf⟩ := ro_ld hf
  refine ro_iv e2 ?_
  refine ro_istore_n (L' := [(3, .int z1), (0, .ref (ro_ad (kG K) o0)), (1, .int v1), (2, .int v2)]) hK dX2_emit_4 rfl (by decide) rfl ?_
  refine ro_iload_n hK 0 rfl dX2_emit_5 rfl ?_
  refine ro_sipush (v := 200) hK dX2_emit_6 (by decide) ?_
  refine ro_icmp_ge hK 36 dX2_emit_9 (by decide) (fun c3 => ?_) (fun c3 => ?_)
  · have hf := ro_it hf c3
    refine ro_iload_n hK 0 rfl dX2_emit_36 rfl ?_
    obtain rfl := Option.some.inj hf
    exact ro_iret hK hR dX2_emit_37 hq
  · have hf := ro_ie hf c3
    refine ro_aload_n hK 1 rfl dX2_emit_12 rfl ?_
    refine ro_getr hK fl_X2_11 h0 dX2_emit_13 ?_
    refine ro_iload_n hK 0 rfl dX2_emit_16 rfl ?_
    refine ro_iload_n hK 2 rfl dX2_emit_17 rfl ?_
    obtain ⟨g4, hf⟩ := ro_gd hf
    obtain ⟨m5, e6, hf⟩ := ro_ld hf
    refine ro_iast hK (so_2_1 h0) g4 dX2_emit_18 ?_
    refine ro_mv e6 ?_
    refine ro_aload_n hK 1 rfl dX2_emit_19 rfl ?_
    refine ro_getr hK fl_X2_15 h0 dX2_emit_20 ?_
    refine ro_iload_n hK 0 rfl dX2_emit_23 rfl ?_
    refine ro_iload_n hK 3 rfl dX2_emit_24 rfl ?_
    obtain ⟨m7, e8, hf⟩ := ro_ld hf
    refine ro_iast hK (so_2_2 h0) g4 dX2_emit_25 ?_
    refine ro_mv e8 ?_
    refine ro_aload_n hK 1 rfl dX2_emit_26 rfl ?_
    refine ro_dup hK dX2_emit_27 rfl ?_
    refine ro_geti hK fl_X2_56 h0 dX2_emit_28 ?_
    refine ro_iconst (v := 1) hK dX2_emit_31 (by decide) ?_
    refine ro_iadd hK dX2_emit_32 ?_
    obtain ⟨m9, e10, hf⟩ := ro_ld hf
    refine ro_puti hK fl_X2_56 h0 rfl rfl dX2_emit_33 ?_
    refine ro_mv e10 ?_
    refine ro_iload_n hK 0 rfl dX2_emit_36 rfl ?_
    obtain rfl := Option.some.inj hf
    exact ro_iret hK hR dX2_emit_37 hq
theorem mt_X2_emit (l : Launch) (G : ro_G) {o0 : Nat} {v1 : Int32} {v2 : Int32} (h0 : ro_sh o0 = (0, 2)) {μ : ro_Mem} {out : Int32 × ro_Mem} (hf : fn_X2_emit o0 v1 v2 μ = some out) : ro_MX l G yX2_emit cX2_emit 4 (some .int) 0 [.ref (ro_ad G o0), .int v1, .int v2] μ (some (.int out.1)) out.2 := by
  refine ro_MX.of (by decide +kernel) (Nat.le_of_ble_eq_true rfl) (fun K hG hl hq hK hR => ?_)
  subst hG
  exact be_X2_emit hK hR h0 hf hq
-- ===== X2_jumpFrom =====
theorem dX2_jumpFrom_0 : decode cX2_jumpFrom 0 = .ok (.iload_n 1, 1) := by decide +kernel
theorem dX2_jumpFrom_1 : decode cX2_jumpFrom 1 = .ok (.ifCond .lt 20, 3) := by decide +kernel
theorem dX2_jumpFrom_4 : decode cX2_jumpFrom 4 = .ok (.iload_n 1, 1) := by decide +kernel
theorem dX2_jumpFrom_5 : decode cX2_jumpFrom 5 = .ok (.sipush 200, 3) := by decide +kernel
theorem dX2_jumpFrom_8 : decode cX2_jumpFrom 8 = .ok (.if_icmp .ge 13, 3) := by decide +kernel
theorem dX2_jumpFrom_11 : decode cX2_jumpFrom 11 = .ok (.aload_n 0, 1) := by decide +kernel
theorem dX2_jumpFrom_12 : decode cX2_jumpFrom 12 = .ok (.getfield 15, 3) := by decide +kernel
theorem dX2_jumpFrom_15 : decode cX2_jumpFrom 15 = .ok (.iload_n 1, 1) := by decide +kernel
theorem dX2_jumpFrom_16 : decode cX2_jumpFrom 16 = .ok (.aload_n 0, 1) := by decide +kernel
theorem dX2_jumpFrom_17 : decode cX2_jumpFrom 17 = .ok (.getfield 56, 3) := by decide +kernel
theorem dX2_jumpFrom_20 : decode cX2_jumpFrom 20 = .ok (.iastore, 1) := by decide +kernel
theorem dX2_jumpFrom_21 : decode cX2_jumpFrom 21 = .ok (.return_, 1) := by decide +kernel
def fn_X2_jumpFrom (o0 : Nat) (v1 : Int32) (μ : ro_Mem) : Option ro_Mem :=
  if v1 < 0 then
  (some μ)
  else
  (if 200 ≤ v1 then
  (some μ)
  else
  (if ro_in v1 200 then
  (ro_lt (ro_set μ (o0 + 2) v1.toNatClampNeg (μ o0 2)) fun m4 =>
  some m4) else none))
theorem be_X2_jumpFrom {K : ro_K} (hK : ro_C K RX2 cX2_jumpFrom 2 0) (hR : ro_R K none) {o0 : Nat} {v1 : Int32} (h0 : ro_sh o0 = (0, 2)) {μ : ro_Mem} {out : ro_Mem} (hf : fn_X2_jumpFrom o0 v1 μ = some out) (hq : kQ K none out) : ro_X K 0 [(0, .ref (ro_ad (kG K) o0)), (1, .int v1)] [] μ := by
  unfold fn_X2_jumpFrom at hf
  refine ro_iload_n hK 1 rfl dX2_jumpFrom_0 rfl ?_
  refine ro_if_lt hK 21 dX2_jumpFrom_1 (by decide) (fun c1 => ?_) (fun c1 => ?_)
  · have hf := ro_it hf c1
    obtain rfl := Option.some.inj hf
    exact ro_vret hK hR dX2_jumpFrom_21 hq
  · have hf := ro_ie hf c1
    refine ro_iload_n hK 1 rfl dX2_jumpFrom_4 rfl ?_
    refine ro_sipush (v := 200) hK dX2_jumpFrom_5 (by decide) ?_
    refine ro_icmp_ge hK 21 dX2_jumpFrom_8 (by decide) (fun c2 => ?_) (fun c2 => ?_)
    · have hf := ro_it hf c2
      obtain rfl := Option.some.inj hf
      exact ro_vret hK hR dX2_jumpFrom_21 hq
    · have hf := ro_ie hf c2
      refine ro_aload_n hK 0 rfl dX2_jumpFrom_11 rfl ?_
      refine ro_getr hK fl_X2_15 h0 dX2_jumpFrom_12 ?_
      refine ro_iload_n hK 1 rfl dX2_jumpFrom_15 rfl ?_
      refine ro_aload_n hK 0 rfl dX2_jumpFrom_16 rfl ?_
      refine ro_geti hK fl_X2_56 h0 dX2_jumpFrom_17 ?_
      obtain ⟨g3, hf⟩ := ro_gd hf
      obtain ⟨m4, e5, hf⟩ := ro_ld hf
      refine ro_iast hK (so_2_2 h0) g3 dX2_jumpFrom_20 ?_
      refine ro_mv e5 ?_
      obtain rfl := Option.some.inj hf
      exact ro_vret hK hR dX2_jumpFrom_21 hq
theorem mt_X2_jumpFrom (l : Launch) (G : ro_G) {o0 : Nat} {v1 : Int32} (h0 : ro_sh o0 = (0, 2)) {μ : ro_Mem} {out : ro_Mem} (hf : fn_X2_jumpFrom o0 v1 μ = some out) : ro_MX l G yX2_jumpFrom cX2_jumpFrom 2 none 0 [.ref (ro_ad G o0), .int v1] μ none out := by
  refine ro_MX.of (by decide +kernel) (Nat.le_of_ble_eq_true rfl) (fun K hG hl hq hK hR => ?_)
  subst hG
  exact be_X2_jumpFrom hK hR h0 hf hq
-- ===== X8_peek =====
theorem dX8_peek_0 : decode cX8_peek 0 = .ok (.aload_n 0, 1) := by decide +kernel
theorem dX8_peek_1 : decode cX8_peek 1 = .ok (.getfield 19, 3) := by decide +kernel
theorem dX8_peek_4 : decode cX8_peek 4 = .ok (.ifCond .lt 26, 3) := by decide +kernel
theorem dX8_peek_7 : decode cX8_peek 7 = .ok (.aload_n 0, 1) := by decide +kernel
theorem dX8_peek_8 : decode cX8_peek 8 = .ok (.getfield 19, 3) := by decide +kernel
theorem dX8_peek_11 : decode cX8_peek 11 = .ok (.aload_n 0, 1) := by decide +kernel
theorem dX8_peek_12 : decode cX8_peek 12 = .ok (.getfield 28, 3) := by decide +kernel
theorem dX8_peek_15 : decode cX8_peek 15 = .ok (.if_icmp .ge 15, 3) := by decide +kernel
theorem dX8_peek_18 : decode cX8_peek 18 = .ok (.aload_n 0, 1) := by decide +kernel
theorem dX8_peek_19 : decode cX8_peek 19 = .ok (.getfield 9, 3) := by decide +kernel
theorem dX8_peek_22 : decode cX8_peek 22 = .ok (.aload_n 0, 1) := by decide +kernel
theorem dX8_peek_23 : decode cX8_peek 23 = .ok (.getfield 19, 3) := by decide +kernel
theorem dX8_peek_26 : decode cX8_peek 26 = .ok (.iaload, 1) := by decide +kernel
theorem dX8_peek_27 : decode cX8_peek 27 = .ok (.goto 4, 3) := by decide +kernel
theorem dX8_peek_30 : decode cX8_peek 30 = .ok (.iconst (-1), 1) := by decide +kernel
theorem dX8_peek_31 : decode cX8_peek 31 = .ok (.ireturn, 1) := by decide +kernel
def fn_X8_peek (μ : ro_Mem) : Option Int32 :=
  if (μ 60 2) < 0 then
  (some (-1))
  else
  (if (μ 60 3) ≤ (μ 60 2) then
  (some (-1))
  else
  (if ro_in (μ 60 2) 220 then
  (some (μ 61 (μ 60 2).toNatClampNeg)) else none))
theorem be_X8_peek {K : ro_K} (hK : ro_C K RX8 cX8_peek 1 0) (hR : ro_R K (some .int))   {μ : ro_Mem} {out : Int32} (hf : fn_X8_peek μ = some out) (hq : kQ K (some (.int out)) μ) : ro_X K 0 [(0, .ref (ro_ad (kG K) 60))] [] μ := by
  unfold fn_X8_peek at hf
  refine ro_aload_n hK 0 rfl dX8_peek_0 rfl ?_
  refine ro_geti hK fl_X8_19 sh_60 dX8_peek_1 ?_
  refine ro_if_lt hK 30 dX8_peek_4 (by decide) (fun c1 => ?_) (fun c1 => ?_)
  · have hf := ro_it hf c1
    refine ro_iconst (v := (-1)) hK dX8_peek_30 (by decide) ?_
    obtain rfl := Option.some.inj hf
    exact ro_iret hK hR dX8_peek_31 hq
  · have hf := ro_ie hf c1
    refine ro_aload_n hK 0 rfl dX8_peek_7 rfl ?_
    refine ro_geti hK fl_X8_19 sh_60 dX8_peek_8 ?_
    refine ro_aload_n hK 0 rfl dX8_peek_11 rfl ?_
    refine ro_geti hK fl_X8_28 sh_60 dX8_peek_12 ?_
    refine ro_icmp_ge hK 30 dX8_peek_15 (by decide) (fun c2 => ?_) (fun c2 => ?_)
    · have hf := ro_it hf c2
      refine ro_iconst (v := (-1)) hK dX8_peek_30 (by decide) ?_
      obtain rfl := Option.some.inj hf
      exact ro_iret hK hR dX8_peek_31 hq
    · have hf := ro_ie hf c2
      refine ro_aload_n hK 0 rfl dX8_peek_18 rfl ?_
      refine ro_getr hK fl_X8_9 sh_60 dX8_peek_19 ?_
      refine ro_aload_n hK 0 rfl dX8_peek_22 rfl ?_
      refine ro_geti hK fl_X8_19 sh_60 dX8_peek_23 ?_
      obtain ⟨g3, hf⟩ := ro_gd hf
      refine ro_iald hK sh_61 g3 dX8_peek_26 ?_
      refine ro_goto hK 31 dX8_peek_27 (by decide) ?_
      obtain rfl := Option.some.inj hf
      exact ro_iret hK hR dX8_peek_31 hq
theorem mt_X8_peek (l : Launch) (G : ro_G)   {μ : ro_Mem} {out : Int32} (hf : fn_X8_peek μ = some out) : ro_MX l G yX8_peek cX8_peek 1 (some .int) 0 [.ref (ro_ad G 60)] μ (some (.int out)) μ := by
  refine ro_MX.of (by decide +kernel) (Nat.le_of_ble_eq_true rfl) (fun K hG hl hq hK hR => ?_)
  subst hG
  exact be_X8_peek hK hR  hf hq
-- ===== X8_peekAmong =====
theorem dX8_peekAmong_0 : decode cX8_peekAmong 0 = .ok (.aload_n 0, 1) := by decide +kernel
theorem dX8_peekAmong_1 : decode cX8_peekAmong 1 = .ok (.invokevirtual 34, 3) := by decide +kernel
theorem dX8_peekAmong_4 : decode cX8_peekAmong 4 = .ok (.istore_n 2, 1) := by decide +kernel
theorem dX8_peekAmong_5 : decode cX8_peekAmong 5 = .ok (.iload_n 2, 1) := by decide +kernel
theorem dX8_peekAmong_6 : decode cX8_peekAmong 6 = .ok (.ifCond .ge 7, 3) := by decide +kernel
theorem dX8_peekAmong_9 : decode cX8_peekAmong 9 = .ok (.iconst (-1), 1) := by decide +kernel
theorem dX8_peekAmong_10 : decode cX8_peekAmong 10 = .ok (.goto 9, 3) := by decide +kernel
theorem dX8_peekAmong_13 : decode cX8_peekAmong 13 = .ok (.aload_n 1, 1) := by decide +kernel
theorem dX8_peekAmong_14 : decode cX8_peekAmong 14 = .ok (.iload_n 2, 1) := by decide +kernel
theorem dX8_peekAmong_15 : decode cX8_peekAmong 15 = .ok (.i2c, 1) := by decide +kernel
theorem dX8_peekAmong_16 : decode cX8_peekAmong 16 = .ok (.invokevirtual 38, 3) := by decide +kernel
theorem dX8_peekAmong_19 : decode cX8_peekAmong 19 = .ok (.ireturn, 1) := by decide +kernel
def fn_X8_peekAmong (o1 : Nat) (μ : ro_Mem) : Option Int32 :=
  (fn_X8_peek μ).bind fun q1 =>
  if 0 ≤ q1 then
  ((fn_J0_indexOf_0f7a4 o1 (ro_i2c q1)).bind fun q4 =>
  some q4)
  else
  (some (-1))
theorem be_X8_peekAmong {K : ro_K} (hK : ro_C K RX8 cX8_peekAmong 3 4) (hR : ro_R K (some .int)) {o1 : Nat} (h1 : o1 < 4) {μ : ro_Mem} {out : Int32} (hf : fn_X8_peekAmong o1 μ = some out) (hq : kQ K (some (.int out)) μ) : ro_X K 0 [(0, .ref (ro_ad (kG K) 60)), (1, .ref (ro_aK (kG K) o1))] [] μ := by
  unfold fn_X8_peekAmong at hf
  refine ro_aload_n hK 0 rfl dX8_peekAmong_0 rfl ?_
  obtain ⟨q1, e2, hf⟩ := ro_bd hf
  refine ro_callvi hK [] ml_X8_34 mv_X8_peek (mt_X8_peek (kl K) (kG K)  e2) sh_60 ⟨_, rfl, rfl⟩ (by decide) rfl rfl (Nat.le_of_ble_eq_true rfl) dX8_peekAmong_1 ?_
  refine ro_istore_n (L' := [(2, .int q1), (0, .ref (ro_ad (kG K) 60)), (1, .ref (ro_aK (kG K) o1))]) hK dX8_peekAmong_4 rfl (by decide) rfl ?_
  refine ro_iload_n hK 0 rfl dX8_peekAmong_5 rfl ?_
  refine ro_if_ge hK 13 dX8_peekAmong_6 (by decide) (fun c3 => ?_) (fun c3 => ?_)
  · have hf := ro_it hf c3
    refine ro_aload_n hK 2 rfl dX8_peekAmong_13 rfl ?_
    refine ro_iload_n hK 0 rfl dX8_peekAmong_14 rfl ?_
    refine ro_ic hK dX8_peekAmong_15 ?_
    obtain ⟨q4, e5, hf⟩ := ro_bd hf
    refine ro_callst hK [.int (ro_i2c q1)] ml_X8_38 mv_J0_indexOf_0f7a4 (mt_J0_indexOf_0f7a4 (kl K) (kG K) h1 e5) h1 rfl (by decide) rfl rfl (Nat.le_of_ble_eq_true rfl) dX8_peekAmong_16 ?_
    obtain rfl := Option.some.inj hf
    exact ro_iret hK hR dX8_peekAmong_19 hq
  · have hf := ro_ie hf c3
    refine ro_iconst (v := (-1)) hK dX8_peekAmong_9 (by decide) ?_
    refine ro_goto hK 19 dX8_peekAmong_10 (by decide) ?_
    obtain rfl := Option.some.inj hf
    exact ro_iret hK hR dX8_peekAmong_19 hq
theorem mt_X8_peekAmong (l : Launch) (G : ro_G) {o1 : Nat} (h1 : o1 < 4) {μ : ro_Mem} {out : Int32} (hf : fn_X8_peekAmong o1 μ = some out) : ro_MX l G yX8_peekAmong cX8_peekAmong 3 (some .int) 4 [.ref (ro_ad G 60), .ref (ro_aK G o1)] μ (some (.int out)) μ := by
  refine ro_MX.of (by decide +kernel) (Nat.le_of_ble_eq_true rfl) (fun K hG hl hq hK hR => ?_)
  subst hG
  exact be_X8_peekAmong hK hR h1 hf hq
-- ===== X8_fail =====
theorem dX8_fail_0 : decode cX8_fail 0 = .ok (.aload_n 0, 1) := by decide +kernel
theorem dX8_fail_1 : decode cX8_fail 1 = .ok (.getfield 31, 3) := by decide +kernel
theorem dX8_fail_4 : decode cX8_fail 4 = .ok (.ifCond .ne 14, 3) := by decide +kernel
theorem dX8_fail_7 : decode cX8_fail 7 = .ok (.aload_n 0, 1) := by decide +kernel
theorem dX8_fail_8 : decode cX8_fail 8 = .ok (.sipush (-1000), 3) := by decide +kernel
theorem dX8_fail_11 : decode cX8_fail 11 = .ok (.iload_n 1, 1) := by decide +kernel
theorem dX8_fail_12 : decode cX8_fail 12 = .ok (.imul, 1) := by decide +kernel
theorem dX8_fail_13 : decode cX8_fail 13 = .ok (.iload_n 2, 1) := by decide +kernel
theorem dX8_fail_14 : decode cX8_fail 14 = .ok (.isub, 1) := by decide +kernel
theorem dX8_fail_15 : decode cX8_fail 15 = .ok (.putfield 31, 3) := by decide +kernel
theorem dX8_fail_18 : decode cX8_fail 18 = .ok (.return_, 1) := by decide +kernel
def fn_X8_fail (v1 : Int32) (v2 : Int32) (μ : ro_Mem) : Option ro_Mem :=
  if (μ 60 4) = 0 then
  (ro_lt (ro_set μ 60 4 (((-1000) * v1) - v2)) fun m2 =>
  some m2)
  else
  (some μ)
theorem be_X8_fail {K : ro_K} (hK : ro_C K RX8 cX8_fail 3 0) (hR : ro_R K none) {v1 : Int32} {v2 : Int32}  {μ : ro_Mem} {out : ro_Mem} (hf : fn_X8_fail v1 v2 μ = some out) (hq : kQ K none out) : ro_X K 0 [(0, .ref (ro_ad (kG K) 60)), (1, .int v1), (2, .int v2)] [] μ := by
  unfold fn_X8_fail at hf
  refine ro_aload_n hK 0 rfl dX8_fail_0 rfl ?_
  refine ro_geti hK fl_X8_31 sh_60 dX8_fail_1 ?_
  refine ro_if_ne hK 18 dX8_fail_4 (by decide) (fun c1 => ?_) (fun c1 => ?_)
  · have hf := ro_ie hf c1
    obtain rfl := Option.some.inj hf
    exact ro_vret hK hR dX8_fail_18 hq
  · have hf := ro_it hf c1
    refine ro_aload_n hK 0 rfl dX8_fail_7 rfl ?_
    refine ro_sipush (v := (-1000)) hK dX8_fail_8 (by decide) ?_
    refine ro_iload_n hK 1 rfl dX8_fail_11 rfl ?_
    refine ro_imul hK dX8_fail_12 ?_
    refine ro_iload_n hK 2 rfl dX8_fail_13 rfl ?_
    refine ro_isub hK dX8_fail_14 ?_
    obtain ⟨m2, e3, hf⟩ := ro_ld hf
    refine ro_puti hK fl_X8_31 sh_60 rfl rfl dX8_fail_15 ?_
    refine ro_mv e3 ?_
    obtain rfl := Option.some.inj hf
    exact ro_vret hK hR dX8_fail_18 hq
theorem mt_X8_fail (l : Launch) (G : ro_G) {v1 : Int32} {v2 : Int32}  {μ : ro_Mem} {out : ro_Mem} (hf : fn_X8_fail v1 v2 μ = some out) : ro_MX l G yX8_fail cX8_fail 3 none 0 [.ref (ro_ad G 60), .int v1, .int v2] μ none out := by
  refine ro_MX.of (by decide +kernel) (Nat.le_of_ble_eq_true rfl) (fun K hG hl hq hK hR => ?_)
  subst hG
  exact be_X8_fail hK hR  hf hq
-- ===== X3_peekJoint =====
theorem dX3_peekJoint_0 : decode cX3_peekJoint 0 = .ok (.aload_n 1, 1) := by decide +kernel
theorem dX3_peekJoint_1 : decode cX3_peekJoint 1 = .ok (.invokevirtual 34, 3) := by decide +kernel
theorem dX3_peekJoint_4 : decode cX3_peekJoint 4 = .ok (.istore_n 3, 1) := by decide +kernel
theorem dX3_peekJoint_5 : decode cX3_peekJoint 5 = .ok (.aload_n 1, 1) := by decide +kernel
theorem dX3_peekJoint_6 : decode cX3_peekJoint 6 = .ok (.ldc 91, 2) := by decide +kernel
theorem dX3_peekJoint_8 : decode cX3_peekJoint 8 = .ok (.invokevirtual 44, 3) := by decide +kernel
theorem dX3_peekJoint_11 : decode cX3_peekJoint 11 = .ok (.istore 4, 2) := by decide +kernel
theorem dX3_peekJoint_13 : decode cX3_peekJoint 13 = .ok (.iload_n 2, 1) := by decide +kernel
theorem dX3_peekJoint_14 : decode cX3_peekJoint 14 = .ok (.tableswitch 65 0 2 #[26, 39, 52], 26) := by decide +kernel
theorem dX3_peekJoint_40 : decode cX3_peekJoint 40 = .ok (.iload_n 3, 1) := by decide +kernel
theorem dX3_peekJoint_41 : decode cX3_peekJoint 41 = .ok (.bipush 124, 2) := by decide +kernel
theorem dX3_peekJoint_43 : decode cX3_peekJoint 43 = .ok (.if_icmp .ne 8, 3) := by decide +kernel
theorem dX3_peekJoint_46 : decode cX3_peekJoint 46 = .ok (.bipush 12, 2) := by decide +kernel
theorem dX3_peekJoint_48 : decode cX3_peekJoint 48 = .ok (.goto 4, 3) := by decide +kernel
theorem dX3_peekJoint_51 : decode cX3_peekJoint 51 = .ok (.iconst (-1), 1) := by decide +kernel
theorem dX3_peekJoint_52 : decode cX3_peekJoint 52 = .ok (.ireturn, 1) := by decide +kernel
theorem dX3_peekJoint_53 : decode cX3_peekJoint 53 = .ok (.iload_n 3, 1) := by decide +kernel
theorem dX3_peekJoint_54 : decode cX3_peekJoint 54 = .ok (.bipush 38, 2) := by decide +kernel
theorem dX3_peekJoint_56 : decode cX3_peekJoint 56 = .ok (.if_icmp .ne 8, 3) := by decide +kernel
theorem dX3_peekJoint_59 : decode cX3_peekJoint 59 = .ok (.bipush 11, 2) := by decide +kernel
theorem dX3_peekJoint_61 : decode cX3_peekJoint 61 = .ok (.goto 4, 3) := by decide +kernel
theorem dX3_peekJoint_64 : decode cX3_peekJoint 64 = .ok (.iconst (-1), 1) := by decide +kernel
theorem dX3_peekJoint_65 : decode cX3_peekJoint 65 = .ok (.ireturn, 1) := by decide +kernel
theorem dX3_peekJoint_66 : decode cX3_peekJoint 66 = .ok (.iload 4, 2) := by decide +kernel
theorem dX3_peekJoint_68 : decode cX3_peekJoint 68 = .ok (.iconst 1, 1) := by decide +kernel
theorem dX3_peekJoint_69 : decode cX3_peekJoint 69 = .ok (.if_icmp .gt 8, 3) := by decide +kernel
theorem dX3_peekJoint_72 : decode cX3_peekJoint 72 = .ok (.iload 4, 2) := by decide +kernel
theorem dX3_peekJoint_74 : decode cX3_peekJoint 74 = .ok (.goto 4, 3) := by decide +kernel
theorem dX3_peekJoint_77 : decode cX3_peekJoint 77 = .ok (.iconst (-1), 1) := by decide +kernel
theorem dX3_peekJoint_78 : decode cX3_peekJoint 78 = .ok (.ireturn, 1) := by decide +kernel
theorem dX3_peekJoint_79 : decode cX3_peekJoint 79 = .ok (.iload 4, 2) := by decide +kernel
theorem dX3_peekJoint_81 : decode cX3_peekJoint 81 = .ok (.iconst 2, 1) := by decide +kernel
theorem dX3_peekJoint_82 : decode cX3_peekJoint 82 = .ok (.if_icmp .lt 14, 3) := by decide +kernel
theorem dX3_peekJoint_85 : decode cX3_peekJoint 85 = .ok (.iload 4, 2) := by decide +kernel
theorem dX3_peekJoint_87 : decode cX3_peekJoint 87 = .ok (.iconst 4, 1) := by decide +kernel
theorem dX3_peekJoint_88 : decode cX3_peekJoint 88 = .ok (.if_icmp .gt 8, 3) := by decide +kernel
theorem dX3_peekJoint_91 : decode cX3_peekJoint 91 = .ok (.iload 4, 2) := by decide +kernel
theorem dX3_peekJoint_93 : decode cX3_peekJoint 93 = .ok (.goto 4, 3) := by decide +kernel
theorem dX3_peekJoint_96 : decode cX3_peekJoint 96 = .ok (.iconst (-1), 1) := by decide +kernel
theorem dX3_peekJoint_97 : decode cX3_peekJoint 97 = .ok (.ireturn, 1) := by decide +kernel
def fn_X3_peekJoint (v2 : Int32) (μ : ro_Mem) : Option Int32 :=
  (fn_X8_peek μ).bind fun q1 =>
  (fn_X8_peekAmong 2 μ).bind fun q3 =>
  if v2 = 0 then
  (if q1 = 124 then
  (some 12)
  else
  (some (-1)))
  else
  (if v2 = 1 then
  (if q1 = 38 then
  (some 11)
  else
  (some (-1)))
  else
  (if v2 = 2 then
  (if 1 < q3 then
  (some (-1))
  else
  (some q3))
  else
  (if q3 < 2 then
  (some (-1))
  else
  (if 4 < q3 then
  (some (-1))
  else
  (some q3)))))
theorem be_X3_peekJoint {K : ro_K} (hK : ro_C K RX3 cX3_peekJoint 5 5) (hR : ro_R K (some .int)) {v2 : Int32}  {μ : ro_Mem} {out : Int32} (hf : fn_X3_peekJoint v2 μ = some out) (hq : kQ K (some (.int out)) μ) : ro_X K 0 [(0, .ref (ro_ad (kG K) 50)), (1, .ref (ro_ad (kG K) 60)), (2, .int v2)] [] μ := by
  unfold fn_X3_peekJoint at hf
  refine ro_aload_n hK 1 rfl dX3_peekJoint_0 rfl ?_
  obtain ⟨q1, e2, hf⟩ := ro_bd hf
  refine ro_callvi hK [] ml_X3_34 mv_X8_peek (mt_X8_peek (kl K) (kG K)  e2) sh_60 ⟨_, rfl, rfl⟩ (by decide) rfl rfl (Nat.le_of_ble_eq_true rfl) dX3_peekJoint_1 ?_
  refine ro_istore_n (L' := [(3, .int q1), (0, .ref (ro_ad (kG K) 50)), (1, .ref (ro_ad (kG K) 60)), (2, .int v2)]) hK dX3_peekJoint_4 rfl (by decide) rfl ?_
  refine ro_aload_n hK 2 rfl dX3_peekJoint_5 rfl ?_
  refine ro_ldcs hK hK.2.2.2.2.2.2.2.1.2.2.1 dX3_peekJoint_6 ?_
  obtain ⟨q3, e4, hf⟩ := ro_bd hf
  refine ro_callvi hK [.ref (ro_aK (kG K) 2)] ml_X3_44 mv_X8_peekAmong (mt_X8_peekAmong (kl K) (kG K) (by decide) e4) sh_60 ⟨_, rfl, rfl⟩ (by decide) rfl rfl (Nat.le_of_ble_eq_true rfl) dX3_peekJoint_8 ?_
  refine ro_istore (L' := [(4, .int q3), (3, .int q1), (0, .ref (ro_ad (kG K) 50)), (1, .ref (ro_ad (kG K) 60)), (2, .int v2)]) hK dX3_peekJoint_11 (by decide) rfl ?_
  refine ro_iload_n hK 4 rfl dX3_peekJoint_13 rfl ?_
  by_cases c_0 : v2 = 0
  · have hf := ro_it hf c_0
    refine ro_tabIn hK 0 40 dX3_peekJoint_14 c_0 (by decide) (by decide) rfl (by decide) ?_
    refine ro_iload_n hK 1 rfl dX3_peekJoint_40 rfl ?_
    refine ro_bipush (v := 124) hK dX3_peekJoint_41 (by decide) ?_
    refine ro_icmp_ne hK 51 dX3_peekJoint_43 (by decide) (fun c5 => ?_) (fun c5 => ?_)
    · have hf := ro_ie hf c5
      refine ro_iconst (v := (-1)) hK dX3_peekJoint_51 (by decide) ?_
      obtain rfl := Option.some.inj hf
      exact ro_iret hK hR dX3_peekJoint_52 hq
    · have hf := ro_it hf c5
      refine ro_bipush (v := 12) hK dX3_peekJoint_46 (by decide) ?_
      refine ro_goto hK 52 dX3_peekJoint_48 (by decide) ?_
      obtain rfl := Option.some.inj hf
      exact ro_iret hK hR dX3_peekJoint_52 hq
  have hf := ro_ie hf c_0
  by_cases c_1 : v2 = 1
  · have hf := ro_it hf c_1
    refine ro_tabIn hK 1 53 dX3_peekJoint_14 c_1 (by decide) (by decide) rfl (by decide) ?_
    refine ro_iload_n hK 1 rfl dX3_peekJoint_53 rfl ?_
    refine ro_bipush (v := 38) hK dX3_peekJoint_54 (by decide) ?_
    refine ro_icmp_ne hK 64 dX3_peekJoint_56 (by decide) (fun c6 => ?_) (fun c6 => ?_)
    · have hf := ro_ie hf c6
      refine ro_iconst (v := (-1)) hK dX3_peekJoint_64 (by decide) ?_
      obtain rfl := Option.some.inj hf
      exact ro_iret hK hR dX3_peekJoint_65 hq
    · have hf := ro_it hf c6
      refine ro_bipush (v := 11) hK dX3_peekJoint_59 (by decide) ?_
      refine ro_goto hK 65 dX3_peekJoint_61 (by decide) ?_
      obtain rfl := Option.some.inj hf
      exact ro_iret hK hR dX3_peekJoint_65 hq
  have hf := ro_ie hf c_1
  by_cases c_2 : v2 = 2
  · have hf := ro_it hf c_2
    refine ro_tabIn hK 2 66 dX3_peekJoint_14 c_2 (by decide) (by decide) rfl (by decide) ?_
    refine ro_iload hK 0 rfl dX3_peekJoint_66 ?_
    refine ro_iconst (v := 1) hK dX3_peekJoint_68 (by decide) ?_
    refine ro_icmp_gt hK 77 dX3_peekJoint_69 (by decide) (fun c7 => ?_) (fun c7 => ?_)
    · have hf := ro_it hf c7
      refine ro_iconst (v := (-1)) hK dX3_peekJoint_77 (by decide) ?_
      obtain rfl := Option.some.inj hf
      exact ro_iret hK hR dX3_peekJoint_78 hq
    · have hf := ro_ie hf c7
      refine ro_iload hK 0 rfl dX3_peekJoint_72 ?_
      refine ro_goto hK 78 dX3_peekJoint_74 (by decide) ?_
      obtain rfl := Option.some.inj hf
      exact ro_iret hK hR dX3_peekJoint_78 hq
  have hf := ro_ie hf c_2
  have tw0 : ¬ v2.toInt = 0 := lv_neT (a := 0) c_0 rfl
  have tw1 : ¬ v2.toInt = 1 := lv_neT (a := 1) c_1 rfl
  have tw2 : ¬ v2.toInt = 2 := lv_neT (a := 2) c_2 rfl
  refine ro_tabOut hK 79 dX3_peekJoint_14 (by omega) (by decide) ?_
  refine ro_iload hK 0 rfl dX3_peekJoint_79 ?_
  refine ro_iconst (v := 2) hK dX3_peekJoint_81 (by decide) ?_
  refine ro_icmp_lt hK 96 dX3_peekJoint_82 (by decide) (fun c8 => ?_) (fun c8 => ?_)
  · have hf := ro_it hf c8
    refine ro_iconst (v := (-1)) hK dX3_peekJoint_96 (by decide) ?_
    obtain rfl := Option.some.inj hf
    exact ro_iret hK hR dX3_peekJoint_97 hq
  · have hf := ro_ie hf c8
    refine ro_iload hK 0 rfl dX3_peekJoint_85 ?_
    refine ro_iconst (v := 4) hK dX3_peekJoint_87 (by decide) ?_
    refine ro_icmp_gt hK 96 dX3_peekJoint_88 (by decide) (fun c9 => ?_) (fun c9 => ?_)
    · have hf := ro_it hf c9
      refine ro_iconst (v := (-1)) hK dX3_peekJoint_96 (by decide) ?_
      obtain rfl := Option.some.inj hf
      exact ro_iret hK hR dX3_peekJoint_97 hq
    · have hf := ro_ie hf c9
      refine ro_iload hK 0 rfl dX3_peekJoint_91 ?_
      refine ro_goto hK 97 dX3_peekJoint_93 (by decide) ?_
      obtain rfl := Option.some.inj hf
      exact ro_iret hK hR dX3_peekJoint_97 hq
theorem mt_X3_peekJoint (l : Launch) (G : ro_G) {v2 : Int32}  {μ : ro_Mem} {out : Int32} (hf : fn_X3_peekJoint v2 μ = some out) : ro_MX l G yX3_peekJoint cX3_peekJoint 5 (some .int) 5 [.ref (ro_ad G 50), .ref (ro_ad G 60), .int v2] μ (some (.int out)) μ := by
  refine ro_MX.of (by decide +kernel) (Nat.le_of_ble_eq_true rfl) (fun K hG hl hq hK hR => ?_)
  subst hG
  exact be_X3_peekJoint hK hR  hf hq
-- ===== X3_enter =====
theorem dX3_enter_0 : decode cX3_enter 0 = .ok (.iload_n 2, 1) := by decide +kernel
theorem dX3_enter_1 : decode cX3_enter 1 = .ok (.bipush 6, 2) := by decide +kernel
theorem dX3_enter_3 : decode cX3_enter 3 = .ok (.if_icmp .lt 15, 3) := by decide +kernel
theorem dX3_enter_6 : decode cX3_enter 6 = .ok (.aload_n 1, 1) := by decide +kernel
theorem dX3_enter_7 : decode cX3_enter 7 = .ok (.iconst 5, 1) := by decide +kernel
theorem dX3_enter_8 : decode cX3_enter 8 = .ok (.aload_n 1, 1) := by decide +kernel
theorem dX3_enter_9 : decode cX3_enter 9 = .ok (.getfield 48, 3) := by decide +kernel
theorem dX3_enter_12 : decode cX3_enter 12 = .ok (.invokevirtual 51, 3) := by decide +kernel
theorem dX3_enter_15 : decode cX3_enter 15 = .ok (.goto 13, 3) := by decide +kernel
theorem dX3_enter_18 : decode cX3_enter 18 = .ok (.aload_n 1, 1) := by decide +kernel
theorem dX3_enter_19 : decode cX3_enter 19 = .ok (.dup, 1) := by decide +kernel
theorem dX3_enter_20 : decode cX3_enter 20 = .ok (.getfield 48, 3) := by decide +kernel
theorem dX3_enter_23 : decode cX3_enter 23 = .ok (.iconst 1, 1) := by decide +kernel
theorem dX3_enter_24 : decode cX3_enter 24 = .ok (.iadd, 1) := by decide +kernel
theorem dX3_enter_25 : decode cX3_enter 25 = .ok (.putfield 48, 3) := by decide +kernel
theorem dX3_enter_28 : decode cX3_enter 28 = .ok (.aload_n 1, 1) := by decide +kernel
theorem dX3_enter_29 : decode cX3_enter 29 = .ok (.getfield 25, 3) := by decide +kernel
theorem dX3_enter_32 : decode cX3_enter 32 = .ok (.ifCond .ne 7, 3) := by decide +kernel
theorem dX3_enter_35 : decode cX3_enter 35 = .ok (.iconst 1, 1) := by decide +kernel
theorem dX3_enter_36 : decode cX3_enter 36 = .ok (.goto 4, 3) := by decide +kernel
theorem dX3_enter_39 : decode cX3_enter 39 = .ok (.iconst 0, 1) := by decide +kernel
theorem dX3_enter_40 : decode cX3_enter 40 = .ok (.ireturn, 1) := by decide +kernel
def fj_X3_enter_28 (μ : ro_Mem) : Option (Int32 × ro_Mem) :=
  if (μ 60 4) = 0 then
  (some (1, μ))
  else
  (some (0, μ))
theorem bj_X3_enter_28 {K : ro_K} (hK : ro_C K RX3 cX3_enter 3 1) (hR : ro_R K (some .boolean))    {μ : ro_Mem}  {out : Int32 × ro_Mem} (hf : fj_X3_enter_28 μ = some out) (hq : kQ K (some (.int out.1)) out.2) : ro_X K 28 [(1, .ref (ro_ad (kG K) 60))] [] μ := by
  unfold fj_X3_enter_28 at hf
  refine ro_aload_n hK 0 rfl dX3_enter_28 rfl ?_
  refine ro_geti hK fl_X3_25 sh_60 dX3_enter_29 ?_
  refine ro_if_ne hK 39 dX3_enter_32 (by decide) (fun c4 => ?_) (fun c4 => ?_)
  · have hf := ro_ie hf c4
    refine ro_iconst (v := 0) hK dX3_enter_39 (by decide) ?_
    obtain rfl := Option.some.inj hf
    exact ro_zret hK hR dX3_enter_40 (by decide) hq
  · have hf := ro_it hf c4
    refine ro_iconst (v := 1) hK dX3_enter_35 (by decide) ?_
    refine ro_goto hK 40 dX3_enter_36 (by decide) ?_
    obtain rfl := Option.some.inj hf
    exact ro_zret hK hR dX3_enter_40 (by decide) hq
def fn_X3_enter (v2 : Int32) (μ : ro_Mem) : Option (Int32 × ro_Mem) :=
  if v2 < 6 then
  (ro_lt (ro_set μ 60 2 ((μ 60 2) + 1)) fun m2 =>
  fj_X3_enter_28 m2)
  else
  ((fn_X8_fail 5 (μ 60 2) μ).bind fun q5 =>
  fj_X3_enter_28 q5)
theorem be_X3_enter {K : ro_K} (hK : ro_C K RX3 cX3_enter 3 1) (hR : ro_R K (some .boolean)) {v2 : Int32}  {μ : ro_Mem} {out : Int32 × ro_Mem} (hf : fn_X3_enter v2 μ = some out) (hq : kQ K (some (.int out.1)) out.2) : ro_X K 0 [(0, .ref (ro_ad (kG K) 50)), (1, .ref (ro_ad (kG K) 60)), (2, .int v2)] [] μ := by
  unfold fn_X3_enter at hf
  refine ro_iload_n hK 2 rfl dX3_enter_0 rfl ?_
  refine ro_bipush (v := 6) hK dX3_enter_1 (by decide) ?_
  refine ro_icmp_lt hK 18 dX3_enter_3 (by decide) (fun c1 => ?_) (fun c1 => ?_)
  · have hf := ro_it hf c1
    refine ro_aload_n hK 1 rfl dX3_enter_18 rfl ?_
    refine ro_dup hK dX3_enter_19 rfl ?_
    refine ro_geti hK fl_X3_48 sh_60 dX3_enter_20 ?_
    refine ro_iconst (v := 1) hK dX3_enter_23 (by decide) ?_
    refine ro_iadd hK dX3_enter_24 ?_
    obtain ⟨m2, e3, hf⟩ := ro_ld hf
    refine ro_puti hK fl_X3_48 sh_60 rfl rfl dX3_enter_25 ?_
    refine ro_mv e3 ?_
    refine ro_sub (L' := [(1, .ref (ro_ad (kG K) 60))]) [1] rfl ?_
    exact bj_X3_enter_28 hK hR  hf hq
  · have hf := ro_ie hf c1
    refine ro_aload_n hK 1 rfl dX3_enter_6 rfl ?_
    refine ro_iconst (v := 5) hK dX3_enter_7 (by decide) ?_
    refine ro_aload_n hK 1 rfl dX3_enter_8 rfl ?_
    refine ro_geti hK fl_X3_48 sh_60 dX3_enter_9 ?_
    obtain ⟨q5, e6, hf⟩ := ro_bd hf
    refine ro_callvv hK [.int 5, .int (μ 60 2)] ml_X3_51 mv_X8_fail (mt_X8_fail (kl K) (kG K)  e6) sh_60 ⟨_, rfl, rfl⟩ (by decide) rfl rfl (Nat.le_of_ble_eq_true rfl) dX3_enter_12 ?_
    refine ro_goto hK 28 dX3_enter_15 (by decide) ?_
    refine ro_sub (L' := [(1, .ref (ro_ad (kG K) 60))]) [1] rfl ?_
    exact bj_X3_enter_28 hK hR  hf hq
theorem mt_X3_enter (l : Launch) (G : ro_G) {v2 : Int32}  {μ : ro_Mem} {out : Int32 × ro_Mem} (hf : fn_X3_enter v2 μ = some out) : ro_MX l G yX3_enter cX3_enter 3 (some .boolean) 1 [.ref (ro_ad G 50), .ref (ro_ad G 60), .int v2] μ (some (.int out.1)) out.2 := by
  refine ro_MX.of (by decide +kernel) (Nat.le_of_ble_eq_true rfl) (fun K hG hl hq hK hR => ?_)
  subst hG
  exact be_X3_enter hK hR  hf hq
-- ===== X8_pass =====
theorem dX8_pass_0 : decode cX8_pass 0 = .ok (.aload_n 0, 1) := by decide +kernel
theorem dX8_pass_1 : decode cX8_pass 1 = .ok (.invokevirtual 34, 3) := by decide +kernel
theorem dX8_pass_4 : decode cX8_pass 4 = .ok (.iload_n 1, 1) := by decide +kernel
theorem dX8_pass_5 : decode cX8_pass 5 = .ok (.if_icmp .ne 16, 3) := by decide +kernel
theorem dX8_pass_8 : decode cX8_pass 8 = .ok (.aload_n 0, 1) := by decide +kernel
theorem dX8_pass_9 : decode cX8_pass 9 = .ok (.dup, 1) := by decide +kernel
theorem dX8_pass_10 : decode cX8_pass 10 = .ok (.getfield 19, 3) := by decide +kernel
theorem dX8_pass_13 : decode cX8_pass 13 = .ok (.iconst 1, 1) := by decide +kernel
theorem dX8_pass_14 : decode cX8_pass 14 = .ok (.iadd, 1) := by decide +kernel
theorem dX8_pass_15 : decode cX8_pass 15 = .ok (.putfield 19, 3) := by decide +kernel
theorem dX8_pass_18 : decode cX8_pass 18 = .ok (.goto 12, 3) := by decide +kernel
theorem dX8_pass_21 : decode cX8_pass 21 = .ok (.aload_n 0, 1) := by decide +kernel
theorem dX8_pass_22 : decode cX8_pass 22 = .ok (.iconst 1, 1) := by decide +kernel
theorem dX8_pass_23 : decode cX8_pass 23 = .ok (.aload_n 0, 1) := by decide +kernel
theorem dX8_pass_24 : decode cX8_pass 24 = .ok (.getfield 19, 3) := by decide +kernel
theorem dX8_pass_27 : decode cX8_pass 27 = .ok (.invokevirtual 44, 3) := by decide +kernel
theorem dX8_pass_30 : decode cX8_pass 30 = .ok (.return_, 1) := by decide +kernel
def fn_X8_pass (v1 : Int32) (μ : ro_Mem) : Option ro_Mem :=
  (fn_X8_peek μ).bind fun q1 =>
  if q1 = v1 then
  (ro_lt (ro_set μ 60 2 ((μ 60 2) + 1)) fun m6 =>
  some m6)
  else
  ((fn_X8_fail 1 (μ 60 2) μ).bind fun q4 =>
  some q4)
theorem be_X8_pass {K : ro_K} (hK : ro_C K RX8 cX8_pass 2 1) (hR : ro_R K none) {v1 : Int32}  {μ : ro_Mem} {out : ro_Mem} (hf : fn_X8_pass v1 μ = some out) (hq : kQ K none out) : ro_X K 0 [(0, .ref (ro_ad (kG K) 60)), (1, .int v1)] [] μ := by
  unfold fn_X8_pass at hf
  refine ro_aload_n hK 0 rfl dX8_pass_0 rfl ?_
  obtain ⟨q1, e2, hf⟩ := ro_bd hf
  refine ro_callvi hK [] ml_X8_34 mv_X8_peek (mt_X8_peek (kl K) (kG K)  e2) sh_60 ⟨_, rfl, rfl⟩ (by decide) rfl rfl (Nat.le_of_ble_eq_true rfl) dX8_pass_1 ?_
  refine ro_iload_n hK 1 rfl dX8_pass_4 rfl ?_
  refine ro_icmp_ne hK 21 dX8_pass_5 (by decide) (fun c3 => ?_) (fun c3 => ?_)
  · have hf := ro_ie hf c3
    refine ro_aload_n hK 0 rfl dX8_pass_21 rfl ?_
    refine ro_iconst (v := 1) hK dX8_pass_22 (by decide) ?_
    refine ro_aload_n hK 0 rfl dX8_pass_23 rfl ?_
    refine ro_geti hK fl_X8_19 sh_60 dX8_pass_24 ?_
    obtain ⟨q4, e5, hf⟩ := ro_bd hf
    refine ro_callvv hK [.int 1, .int (μ 60 2)] ml_X8_44 mv_X8_fail (mt_X8_fail (kl K) (kG K)  e5) sh_60 ⟨_, rfl, rfl⟩ (by decide) rfl rfl (Nat.le_of_ble_eq_true rfl) dX8_pass_27 ?_
    obtain rfl := Option.some.inj hf
    exact ro_vret hK hR dX8_pass_30 hq
  · have hf := ro_it hf c3
    refine ro_aload_n hK 0 rfl dX8_pass_8 rfl ?_
    refine ro_dup hK dX8_pass_9 rfl ?_
    refine ro_geti hK fl_X8_19 sh_60 dX8_pass_10 ?_
    refine ro_iconst (v := 1) hK dX8_pass_13 (by decide) ?_
    refine ro_iadd hK dX8_pass_14 ?_
    obtain ⟨m6, e7, hf⟩ := ro_ld hf
    refine ro_puti hK fl_X8_19 sh_60 rfl rfl dX8_pass_15 ?_
    refine ro_mv e7 ?_
    refine ro_goto hK 30 dX8_pass_18 (by decide) ?_
    obtain rfl := Option.some.inj hf
    exact ro_vret hK hR dX8_pass_30 hq
theorem mt_X8_pass (l : Launch) (G : ro_G) {v1 : Int32}  {μ : ro_Mem} {out : ro_Mem} (hf : fn_X8_pass v1 μ = some out) : ro_MX l G yX8_pass cX8_pass 2 none 1 [.ref (ro_ad G 60), .int v1] μ none out := by
  refine ro_MX.of (by decide +kernel) (Nat.le_of_ble_eq_true rfl) (fun K hG hl hq hK hR => ?_)
  subst hG
  exact be_X8_pass hK hR  hf hq
-- ===== X8_peekDigit =====
theorem dX8_peekDigit_0 : decode cX8_peekDigit 0 = .ok (.aload_n 0, 1) := by decide +kernel
theorem dX8_peekDigit_1 : decode cX8_peekDigit 1 = .ok (.invokevirtual 34, 3) := by decide +kernel
theorem dX8_peekDigit_4 : decode cX8_peekDigit 4 = .ok (.istore_n 1, 1) := by decide +kernel
theorem dX8_peekDigit_5 : decode cX8_peekDigit 5 = .ok (.iload_n 1, 1) := by decide +kernel
theorem dX8_peekDigit_6 : decode cX8_peekDigit 6 = .ok (.bipush 48, 2) := by decide +kernel
theorem dX8_peekDigit_8 : decode cX8_peekDigit 8 = .ok (.if_icmp .lt 16, 3) := by decide +kernel
theorem dX8_peekDigit_11 : decode cX8_peekDigit 11 = .ok (.iload_n 1, 1) := by decide +kernel
theorem dX8_peekDigit_12 : decode cX8_peekDigit 12 = .ok (.bipush 57, 2) := by decide +kernel
theorem dX8_peekDigit_14 : decode cX8_peekDigit 14 = .ok (.if_icmp .gt 10, 3) := by decide +kernel
theorem dX8_peekDigit_17 : decode cX8_peekDigit 17 = .ok (.iload_n 1, 1) := by decide +kernel
theorem dX8_peekDigit_18 : decode cX8_peekDigit 18 = .ok (.bipush 48, 2) := by decide +kernel
theorem dX8_peekDigit_20 : decode cX8_peekDigit 20 = .ok (.isub, 1) := by decide +kernel
theorem dX8_peekDigit_21 : decode cX8_peekDigit 21 = .ok (.goto 4, 3) := by decide +kernel
theorem dX8_peekDigit_24 : decode cX8_peekDigit 24 = .ok (.iconst (-1), 1) := by decide +kernel
theorem dX8_peekDigit_25 : decode cX8_peekDigit 25 = .ok (.ireturn, 1) := by decide +kernel
def fn_X8_peekDigit (μ : ro_Mem) : Option Int32 :=
  (fn_X8_peek μ).bind fun q1 =>
  if q1 < 48 then
  (some (-1))
  else
  (if 57 < q1 then
  (some (-1))
  else
  (some (q1 - 48)))
theorem be_X8_peekDigit {K : ro_K} (hK : ro_C K RX8 cX8_peekDigit 2 1) (hR : ro_R K (some .int))   {μ : ro_Mem} {out : Int32} (hf : fn_X8_peekDigit μ = some out) (hq : kQ K (some (.int out)) μ) : ro_X K 0 [(0, .ref (ro_ad (kG K) 60))] [] μ := by
  unfold fn_X8_peekDigit at hf
  refine ro_aload_n hK 0 rfl dX8_peekDigit_0 rfl ?_
  obtain ⟨q1, e2, hf⟩ := ro_bd hf
  refine ro_callvi hK [] ml_X8_34 mv_X8_peek (mt_X8_peek (kl K) (kG K)  e2) sh_60 ⟨_, rfl, rfl⟩ (by decide) rfl rfl (Nat.le_of_ble_eq_true rfl) dX8_peekDigit_1 ?_
  refine ro_istore_n (L' := [(1, .int q1), (0, .ref (ro_ad (kG K) 60))]) hK dX8_peekDigit_4 rfl (by decide) rfl ?_
  refine ro_iload_n hK 0 rfl dX8_peekDigit_5 rfl ?_
  refine ro_bipush (v := 48) hK dX8_peekDigit_6 (by decide) ?_
  refine ro_icmp_lt hK 24 dX8_peekDigit_8 (by decide) (fun c3 => ?_) (fun c3 => ?_)
  · have hf := ro_it hf c3
    refine ro_iconst (v := (-1)) hK dX8_peekDigit_24 (by decide) ?_
    obtain rfl := Option.some.inj hf
    exact ro_iret hK hR dX8_peekDigit_25 hq
  · have hf := ro_ie hf c3
    refine ro_iload_n hK 0 rfl dX8_peekDigit_11 rfl ?_
    refine ro_bipush (v := 57) hK dX8_peekDigit_12 (by decide) ?_
    refine ro_icmp_gt hK 24 dX8_peekDigit_14 (by decide) (fun c4 => ?_) (fun c4 => ?_)
    · have hf := ro_it hf c4
      refine ro_iconst (v := (-1)) hK dX8_peekDigit_24 (by decide) ?_
      obtain rfl := Option.some.inj hf
      exact ro_iret hK hR dX8_peekDigit_25 hq
    · have hf := ro_ie hf c4
      refine ro_iload_n hK 0 rfl dX8_peekDigit_17 rfl ?_
      refine ro_bipush (v := 48) hK dX8_peekDigit_18 (by decide) ?_
      refine ro_isub hK dX8_peekDigit_20 ?_
      refine ro_goto hK 25 dX8_peekDigit_21 (by decide) ?_
      obtain rfl := Option.some.inj hf
      exact ro_iret hK hR dX8_peekDigit_25 hq
theorem mt_X8_peekDigit (l : Launch) (G : ro_G)   {μ : ro_Mem} {out : Int32} (hf : fn_X8_peekDigit μ = some out) : ro_MX l G yX8_peekDigit cX8_peekDigit 2 (some .int) 1 [.ref (ro_ad G 60)] μ (some (.int out)) μ := by
  refine ro_MX.of (by decide +kernel) (Nat.le_of_ble_eq_true rfl) (fun K hG hl hq hK hR => ?_)
  subst hG
  exact be_X8_peekDigit hK hR  hf hq
-- ===== X3_readNumber =====
theorem dX3_readNumber_0 : decode cX3_readNumber 0 = .ok (.iconst 0, 1) := by decide +kernel
theorem dX3_readNumber_1 : decode cX3_readNumber 1 = .ok (.istore_n 2, 1) := by decide +kernel
theorem dX3_readNumber_2 : decode cX3_readNumber 2 = .ok (.iconst 0, 1) := by decide +kernel
theorem dX3_readNumber_3 : decode cX3_readNumber 3 = .ok (.istore_n 3, 1) := by decide +kernel
theorem dX3_readNumber_4 : decode cX3_readNumber 4 = .ok (.iload_n 3, 1) := by decide +kernel
theorem dX3_readNumber_5 : decode cX3_readNumber 5 = .ok (.iconst 5, 1) := by decide +kernel
theorem dX3_readNumber_6 : decode cX3_readNumber 6 = .ok (.if_icmp .gt 56, 3) := by decide +kernel
theorem dX3_readNumber_9 : decode cX3_readNumber 9 = .ok (.aload_n 1, 1) := by decide +kernel
theorem dX3_readNumber_10 : decode cX3_readNumber 10 = .ok (.invokevirtual 102, 3) := by decide +kernel
theorem dX3_readNumber_13 : decode cX3_readNumber 13 = .ok (.istore 4, 2) := by decide +kernel
theorem dX3_readNumber_15 : decode cX3_readNumber 15 = .ok (.iload 4, 2) := by decide +kernel
theorem dX3_readNumber_17 : decode cX3_readNumber 17 = .ok (.ifCond .ge 6, 3) := by decide +kernel
theorem dX3_readNumber_20 : decode cX3_readNumber 20 = .ok (.goto 42, 3) := by decide +kernel
theorem dX3_readNumber_23 : decode cX3_readNumber 23 = .ok (.iload_n 3, 1) := by decide +kernel
theorem dX3_readNumber_24 : decode cX3_readNumber 24 = .ok (.iconst 5, 1) := by decide +kernel
theorem dX3_readNumber_25 : decode cX3_readNumber 25 = .ok (.if_icmp .ne 13, 3) := by decide +kernel
theorem dX3_readNumber_28 : decode cX3_readNumber 28 = .ok (.aload_n 1, 1) := by decide +kernel
theorem dX3_readNumber_29 : decode cX3_readNumber 29 = .ok (.iconst 2, 1) := by decide +kernel
theorem dX3_readNumber_30 : decode cX3_readNumber 30 = .ok (.aload_n 1, 1) := by decide +kernel
theorem dX3_readNumber_31 : decode cX3_readNumber 31 = .ok (.getfield 48, 3) := by decide +kernel
theorem dX3_readNumber_34 : decode cX3_readNumber 34 = .ok (.invokevirtual 51, 3) := by decide +kernel
theorem dX3_readNumber_37 : decode cX3_readNumber 37 = .ok (.return_, 1) := by decide +kernel
theorem dX3_readNumber_38 : decode cX3_readNumber 38 = .ok (.bipush 10, 2) := by decide +kernel
theorem dX3_readNumber_40 : decode cX3_readNumber 40 = .ok (.iload_n 2, 1) := by decide +kernel
theorem dX3_readNumber_41 : decode cX3_readNumber 41 = .ok (.imul, 1) := by decide +kernel
theorem dX3_readNumber_42 : decode cX3_readNumber 42 = .ok (.iload 4, 2) := by decide +kernel
theorem dX3_readNumber_44 : decode cX3_readNumber 44 = .ok (.iadd, 1) := by decide +kernel
theorem dX3_readNumber_45 : decode cX3_readNumber 45 = .ok (.istore_n 2, 1) := by decide +kernel
theorem dX3_readNumber_46 : decode cX3_readNumber 46 = .ok (.aload_n 1, 1) := by decide +kernel
theorem dX3_readNumber_47 : decode cX3_readNumber 47 = .ok (.dup, 1) := by decide +kernel
theorem dX3_readNumber_48 : decode cX3_readNumber 48 = .ok (.getfield 48, 3) := by decide +kernel
theorem dX3_readNumber_51 : decode cX3_readNumber 51 = .ok (.iconst 1, 1) := by decide +kernel
theorem dX3_readNumber_52 : decode cX3_readNumber 52 = .ok (.iadd, 1) := by decide +kernel
theorem dX3_readNumber_53 : decode cX3_readNumber 53 = .ok (.putfield 48, 3) := by decide +kernel
theorem dX3_readNumber_56 : decode cX3_readNumber 56 = .ok (.iinc 3 1, 3) := by decide +kernel
theorem dX3_readNumber_59 : decode cX3_readNumber 59 = .ok (.goto (-55), 3) := by decide +kernel
theorem dX3_readNumber_62 : decode cX3_readNumber 62 = .ok (.aload_n 0, 1) := by decide +kernel
theorem dX3_readNumber_63 : decode cX3_readNumber 63 = .ok (.getfield 12, 3) := by decide +kernel
theorem dX3_readNumber_66 : decode cX3_readNumber 66 = .ok (.bipush 8, 2) := by decide +kernel
theorem dX3_readNumber_68 : decode cX3_readNumber 68 = .ok (.iload_n 2, 1) := by decide +kernel
theorem dX3_readNumber_69 : decode cX3_readNumber 69 = .ok (.invokevirtual 72, 3) := by decide +kernel
theorem dX3_readNumber_72 : decode cX3_readNumber 72 = .ok (.pop, 1) := by decide +kernel
theorem dX3_readNumber_73 : decode cX3_readNumber 73 = .ok (.return_, 1) := by decide +kernel
def ok_X3_readNumber_4 (K : ro_K)  : ((Int32 × ro_Mem) ⊕ (ro_Mem ⊕ (Int32 × ro_Mem))) → Prop := Sum.elim (fun e => ro_X K 20 [(0, .ref (ro_ad (kG K) 50)), (2, .int e.1)] [] e.2) (Sum.elim (fun e => ro_X K 28 [(1, .ref (ro_ad (kG K) 60))] [] e) (fun e => ro_X K 62 [(0, .ref (ro_ad (kG K) 50)), (2, .int e.1)] [] e.2))
def fb_X3_readNumber_4  (rec : (Int32 × Int32 × ro_Mem) → Option ((Int32 × ro_Mem) ⊕ (ro_Mem ⊕ (Int32 × ro_Mem)))) (v2 : Int32) (v3 : Int32) (μ : ro_Mem) : Option ((Int32 × ro_Mem) ⊕ (ro_Mem ⊕ (Int32 × ro_Mem))) :=
  if 5 < v3 then
  (some (.inr (.inr (v2, μ))))
  else
  ((fn_X8_peekDigit μ).bind fun q2 =>
  if 0 ≤ q2 then
  (if v3 = 5 then
  (some (.inr (.inl μ)))
  else
  (ro_lt ((10 * v2) + q2) fun z6 =>
  ro_lt (ro_set μ 60 2 ((μ 60 2) + 1)) fun m8 =>
  rec (z6, v3 + 1, m8)))
  else
  (some (.inl (v2, μ))))
theorem bb_X3_readNumber_4 {K : ro_K} (hK : ro_C K RX3 cX3_readNumber 5 2) (hR : ro_R K none)   {μ : ro_Mem} {rec : (Int32 × Int32 × ro_Mem) → Option ((Int32 × ro_Mem) ⊕ (ro_Mem ⊕ (Int32 × ro_Mem)))} {v2 : Int32} {v3 : Int32} {q : ((Int32 × ro_Mem) ⊕ (ro_Mem ⊕ (Int32 × ro_Mem)))} (hrec : ∀ (s : Int32 × Int32 × ro_Mem) (q : ((Int32 × ro_Mem) ⊕ (ro_Mem ⊕ (Int32 × ro_Mem)))), rec s = some q → ok_X3_readNumber_4 K q → ro_X K 4 [(0, .ref (ro_ad (kG K) 50)), (1, .ref (ro_ad (kG K) 60)), (2, .int s.1), (3, .int s.2.1)] [] s.2.2) (hf : fb_X3_readNumber_4 rec v2 v3 μ = some q) (hq : ok_X3_readNumber_4 K q) : ro_X K 4 [(0, .ref (ro_ad (kG K) 50)), (1, .ref (ro_ad (kG K) 60)), (2, .int v2), (3, .int v3)] [] μ := by
  unfold fb_X3_readNumber_4 at hf
  refine ro_iload_n hK 3 rfl dX3_readNumber_4 rfl ?_
  refine ro_iconst (v := 5) hK dX3_readNumber_5 (by decide) ?_
  refine ro_icmp_gt hK 62 dX3_readNumber_6 (by decide) (fun c1 => ?_) (fun c1 => ?_)
  · have hf := ro_it hf c1
    refine ro_sub (L' := [(0, .ref (ro_ad (kG K) 50)), (2, .int v2)]) [0, 2] rfl ?_
    obtain rfl := Option.some.inj hf
    exact hq
  · have hf := ro_ie hf c1
    refine ro_aload_n hK 1 rfl dX3_readNumber_9 rfl ?_
    obtain ⟨q2, e3, hf⟩ := ro_bd hf
    refine ro_callvi hK [] ml_X3_102 mv_X8_peekDigit (mt_X8_peekDigit (kl K) (kG K)  e3) sh_60 ⟨_, rfl, rfl⟩ (by decide) rfl rfl (Nat.le_of_ble_eq_true rfl) dX3_readNumber_10 ?_
    refine ro_istore (L' := [(4, .int q2), (0, .ref (ro_ad (kG K) 50)), (1, .ref (ro_ad (kG K) 60)), (2, .int v2), (3, .int v3)]) hK dX3_readNumber_13 (by decide) rfl ?_
    refine ro_iload hK 0 rfl dX3_readNumber_15 ?_
    refine ro_if_ge hK 23 dX3_readNumber_17 (by decide) (fun c4 => ?_) (fun c4 => ?_)
    · have hf := ro_it hf c4
      refine ro_iload_n hK 4 rfl dX3_readNumber_23 rfl ?_
      refine ro_iconst (v := 5) hK dX3_readNumber_24 (by decide) ?_
      refine ro_icmp_ne hK 38 dX3_readNumber_25 (by decide) (fun c5 => ?_) (fun c5 => ?_)
      · have hf := ro_ie hf c5
        refine ro_bipush (v := 10) hK dX3_readNumber_38 (by decide) ?_
        refine ro_iload_n hK 3 rfl dX3_readNumber_40 rfl ?_
        refine ro_imul hK dX3_readNumber_41 ?_
        refine ro_iload hK 0 rfl dX3_readNumber_42 ?_
        refine ro_iadd hK dX3_readNumber_44 ?_
        obtain ⟨z6, e7, hf⟩ := ro_ld hf
        refine ro_iv e7 ?_
        refine ro_istore_n (L' := [(2, .int z6), (4, .int q2), (0, .ref (ro_ad (kG K) 50)), (1, .ref (ro_ad (kG K) 60)), (3, .int v3)]) hK dX3_readNumber_45 rfl (by decide) rfl ?_
        refine ro_aload_n hK 3 rfl dX3_readNumber_46 rfl ?_
        refine ro_dup hK dX3_readNumber_47 rfl ?_
        refine ro_geti hK fl_X3_48 sh_60 dX3_readNumber_48 ?_
        refine ro_iconst (v := 1) hK dX3_readNumber_51 (by decide) ?_
        refine ro_iadd hK dX3_readNumber_52 ?_
        obtain ⟨m8, e9, hf⟩ := ro_ld hf
        refine ro_puti hK fl_X3_48 sh_60 rfl rfl dX3_readNumber_53 ?_
        refine ro_mv e9 ?_
        refine ro_iinc (v := v3 + 1) (L' := [(3, .int (v3 + 1)), (2, .int z6), (4, .int q2), (0, .ref (ro_ad (kG K) 50)), (1, .ref (ro_ad (kG K) 60))]) hK 4 rfl dX3_readNumber_56 rfl (by decide) rfl ?_
        refine ro_goto hK 4 dX3_readNumber_59 (by decide) ?_
        refine ro_sub (L' := [(0, .ref (ro_ad (kG K) 50)), (1, .ref (ro_ad (kG K) 60)), (2, .int z6), (3, .int (v3 + 1))]) [3, 4, 1, 0] rfl ?_
        exact hrec (z6, v3 + 1, m8) _ hf hq
      · have hf := ro_it hf c5
        refine ro_sub (L' := [(1, .ref (ro_ad (kG K) 60))]) [2] rfl ?_
        obtain rfl := Option.some.inj hf
        exact hq
    · have hf := ro_ie hf c4
      refine ro_sub (L' := [(0, .ref (ro_ad (kG K) 50)), (2, .int v2)]) [1, 3] rfl ?_
      obtain rfl := Option.some.inj hf
      exact hq
def fl_X3_readNumber_4  : (Int32 × Int32 × ro_Mem) → Option ((Int32 × ro_Mem) ⊕ (ro_Mem ⊕ (Int32 × ro_Mem))) :=
  ro_loop (fun rec s => fb_X3_readNumber_4 rec s.1 s.2.1 s.2.2) ro_FU
theorem lp_X3_readNumber_4 {K : ro_K} (hK : ro_C K RX3 cX3_readNumber 5 2) (hR : ro_R K none)   {s : Int32 × Int32 × ro_Mem} {q : ((Int32 × ro_Mem) ⊕ (ro_Mem ⊕ (Int32 × ro_Mem)))} (hf : fl_X3_readNumber_4 s = some q) (hq : ok_X3_readNumber_4 K q) : ro_X K 4 [(0, .ref (ro_ad (kG K) 50)), (1, .ref (ro_ad (kG K) 60)), (2, .int s.1), (3, .int s.2.1)] [] s.2.2 :=
  ro_loopX (b := fun rec s => fb_X3_readNumber_4 rec s.1 s.2.1 s.2.2) (X := fun s => ro_X K 4 [(0, .ref (ro_ad (kG K) 50)), (1, .ref (ro_ad (kG K) 60)), (2, .int s.1), (3, .int s.2.1)] [] s.2.2) (OK := ok_X3_readNumber_4 K) (fun rec s q hrec hb ho => bb_X3_readNumber_4 hK hR  hrec hb ho) ro_FU s q hf hq
def fj_X3_readNumber_62 (v2 : Int32) (μ : ro_Mem) : Option ro_Mem :=
  if ro_sh (ro_rf μ 50 0) = (0, 2) then
  ((fn_X2_emit (ro_rf μ 50 0) 8 v2 μ).bind fun q15 =>
  some q15.2) else none
theorem bj_X3_readNumber_62 {K : ro_K} (hK : ro_C K RX3 cX3_readNumber 5 2) (hR : ro_R K none) {v2 : Int32}   {μ : ro_Mem}  {out : ro_Mem} (hf : fj_X3_readNumber_62 v2 μ = some out) (hq : kQ K none out) : ro_X K 62 [(0, .ref (ro_ad (kG K) 50)), (2, .int v2)] [] μ := by
  unfold fj_X3_readNumber_62 at hf
  refine ro_aload_n hK 0 rfl dX3_readNumber_62 rfl ?_
  obtain ⟨g14, hf⟩ := ro_gd hf
  refine ro_getm hK fl_X3_12 sh_50 dX3_readNumber_63 ?_
  refine ro_bipush (v := 8) hK dX3_readNumber_66 (by decide) ?_
  refine ro_iload_n hK 1 rfl dX3_readNumber_68 rfl ?_
  obtain ⟨q15, e16, hf⟩ := ro_bd hf
  refine ro_callvi hK [.int 8, .int v2] ml_X3_72 mv_X2_emit (mt_X2_emit (kl K) (kG K) g14 e16) g14 ⟨_, rfl, rfl⟩ (by decide) rfl rfl (Nat.le_of_ble_eq_true rfl) dX3_readNumber_69 ?_
  refine ro_pop hK dX3_readNumber_72 rfl ?_
  obtain rfl := Option.some.inj hf
  exact ro_vret hK hR dX3_readNumber_73 hq
def fn_X3_readNumber (μ : ro_Mem) : Option ro_Mem :=
  (fl_X3_readNumber_4  (0, 0, μ)).bind fun q10 =>
  q10.elim (fun e12 => fj_X3_readNumber_62 e12.1 e12.2) (fun e13 => e13.elim (fun e17 => (fn_X8_fail 2 (e17 60 2) e17).bind fun q19 =>
  some q19) (fun e18 => fj_X3_readNumber_62 e18.1 e18.2))
theorem be_X3_readNumber {K : ro_K} (hK : ro_C K RX3 cX3_readNumber 5 2) (hR : ro_R K none)   {μ : ro_Mem} {out : ro_Mem} (hf : fn_X3_readNumber μ = some out) (hq : kQ K none out) : ro_X K 0 [(0, .ref (ro_ad (kG K) 50)), (1, .ref (ro_ad (kG K) 60))] [] μ := by
  unfold fn_X3_readNumber at hf
  refine ro_iconst (v := 0) hK dX3_readNumber_0 (by decide) ?_
  refine ro_istore_n (L' := [(2, .int 0), (0, .ref (ro_ad (kG K) 50)), (1, .ref (ro_ad (kG K) 60))]) hK dX3_readNumber_1 rfl (by decide) rfl ?_
  refine ro_iconst (v := 0) hK dX3_readNumber_2 (by decide) ?_
  refine ro_istore_n (L' := [(3, .int 0), (2, .int 0), (0, .ref (ro_ad (kG K) 50)), (1, .ref (ro_ad (kG K) 60))]) hK dX3_readNumber_3 rfl (by decide) rfl ?_
  obtain ⟨q10, e11, hf⟩ := ro_bd hf
  refine ro_sub (L' := [(0, .ref (ro_ad (kG K) 50)), (1, .ref (ro_ad (kG K) 60)), (2, .int 0), (3, .int 0)]) [2, 3, 1, 0] rfl ?_
  refine lp_X3_readNumber_4 hK hR  e11 ?_
  rcases q10 with e12 | e13
  · have hf := ro_el hf
    show ro_X K 20 [(0, .ref (ro_ad (kG K) 50)), (2, .int e12.1)] [] e12.2
    refine ro_goto hK 62 dX3_readNumber_20 (by decide) ?_
    exact bj_X3_readNumber_62 hK hR  hf hq
  · have hf := ro_er hf
    rcases e13 with e17 | e18
    · have hf := ro_el hf
      show ro_X K 28 [(1, .ref (ro_ad (kG K) 60))] [] e17
      refine ro_aload_n hK 0 rfl dX3_readNumber_28 rfl ?_
      refine ro_iconst (v := 2) hK dX3_readNumber_29 (by decide) ?_
      refine ro_aload_n hK 0 rfl dX3_readNumber_30 rfl ?_
      refine ro_geti hK fl_X3_48 sh_60 dX3_readNumber_31 ?_
      obtain ⟨q19, e20, hf⟩ := ro_bd hf
      refine ro_callvv hK [.int 2, .int (e17 60 2)] ml_X3_51 mv_X8_fail (mt_X8_fail (kl K) (kG K)  e20) sh_60 ⟨_, rfl, rfl⟩ (by decide) rfl rfl (Nat.le_of_ble_eq_true rfl) dX3_readNumber_34 ?_
      obtain rfl := Option.some.inj hf
      exact ro_vret hK hR dX3_readNumber_37 hq
    · have hf := ro_er hf
      show ro_X K 62 [(0, .ref (ro_ad (kG K) 50)), (2, .int e18.1)] [] e18.2
      exact bj_X3_readNumber_62 hK hR  hf hq
theorem mt_X3_readNumber (l : Launch) (G : ro_G)   {μ : ro_Mem} {out : ro_Mem} (hf : fn_X3_readNumber μ = some out) : ro_MX l G yX3_readNumber cX3_readNumber 5 none 2 [.ref (ro_ad G 50), .ref (ro_ad G 60)] μ none out := by
  refine ro_MX.of (by decide +kernel) (Nat.le_of_ble_eq_true rfl) (fun K hG hl hq hK hR => ?_)
  subst hG
  exact be_X3_readNumber hK hR  hf hq
