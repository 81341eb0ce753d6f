-- ===== X12_in =====
theorem dX12_in_0 : decode cX12_in 0 = .ok (.iload_n 0, 1) := by decide +kernel
theorem dX12_in_1 : decode cX12_in 1 = .ok (.iload_n 1, 1) := by decide +kernel
theorem dX12_in_2 : decode cX12_in 2 = .ok (.if_icmp .lt 12, 3) := by decide +kernel
theorem dX12_in_5 : decode cX12_in 5 = .ok (.iload_n 0, 1) := by decide +kernel
theorem dX12_in_6 : decode cX12_in 6 = .ok (.iload_n 2, 1) := by decide +kernel
theorem dX12_in_7 : decode cX12_in 7 = .ok (.if_icmp .gt 7, 3) := by decide +kernel
theorem dX12_in_10 : decode cX12_in 10 = .ok (.iconst 1, 1) := by decide +kernel
theorem dX12_in_11 : decode cX12_in 11 = .ok (.goto 4, 3) := by decide +kernel
theorem dX12_in_14 : decode cX12_in 14 = .ok (.iconst 0, 1) := by decide +kernel
theorem dX12_in_15 : decode cX12_in 15 = .ok (.ireturn, 1) := by decide +kernel
def fn_X12_in (v0 : Int32) (v1 : Int32) (v2 : Int32) : Option Int32 :=
  if v0 < v1 then
  (some 0)
  else
  (if v2 < v0 then
  (some 0)
  else
  (some 1))
theorem be_X12_in {K : ro_K} (hK : ro_C K RX12 cX12_in 3 0) (hR : ro_R K (some .boolean)) {v0 : Int32} {v1 : Int32} {v2 : Int32}  {μ : ro_Mem} {out : Int32} (hf : fn_X12_in v0 v1 v2 = some out) (hq : kQ K (some (.int out)) μ) : ro_X K 0 [(0, .int v0), (1, .int v1), (2, .int v2)] [] μ := by
  unfold fn_X12_in at hf
  refine ro_iload_n hK 0 rfl dX12_in_0 rfl ?_
  refine ro_iload_n hK 1 rfl dX12_in_1 rfl ?_
  refine ro_icmp_lt hK 14 dX12_in_2 (by decide) (fun c1 => ?_) (fun c1 => ?_)
  · have hf := ro_it hf c1
    refine ro_iconst (v := 0) hK dX12_in_14 (by decide) ?_
    obtain rfl := Option.some.inj hf
    exact ro_zret hK hR dX12_in_15 (by decide) hq
  · have hf := ro_ie hf c1
    refine ro_iload_n hK 0 rfl dX12_in_5 rfl ?_
    refine ro_iload_n hK 2 rfl dX12_in_6 rfl ?_
    refine ro_icmp_gt hK 14 dX12_in_7 (by decide) (fun c2 => ?_) (fun c2 => ?_)
    · have hf := ro_it hf c2
      refine ro_iconst (v := 0) hK dX12_in_14 (by decide) ?_
      obtain rfl := Option.some.inj hf
      exact ro_zret hK hR dX12_in_15 (by decide) hq
    · have hf := ro_ie hf c2
      refine ro_iconst (v := 1) hK dX12_in_10 (by decide) ?_
      refine ro_goto hK 15 dX12_in_11 (by decide) ?_
      obtain rfl := Option.some.inj hf
      exact ro_zret hK hR dX12_in_15 (by decide) hq
theorem mt_X12_in (l : Launch) (G : ro_G) {v0 : Int32} {v1 : Int32} {v2 : Int32}  {μ : ro_Mem} {out : Int32} (hf : fn_X12_in v0 v1 v2 = some out) : ro_MX l G yX12_in cX12_in 3 (some .boolean) 0 [.int v0, .int v1, .int v2] μ (some (.int out)) μ := by
  refine ro_MX.of (by decide +kernel) (Nat.le_of_ble_eq_true rfl) (fun K hG hl hq hK hR => ?_)
  subst hG
  exact be_X12_in hK hR  hf hq
-- ===== X12_min =====
theorem dX12_min_0 : decode cX12_min 0 = .ok (.iload_n 0, 1) := by decide +kernel
theorem dX12_min_1 : decode cX12_min 1 = .ok (.iload_n 1, 1) := by decide +kernel
theorem dX12_min_2 : decode cX12_min 2 = .ok (.if_icmp .ge 7, 3) := by decide +kernel
theorem dX12_min_5 : decode cX12_min 5 = .ok (.iload_n 0, 1) := by decide +kernel
theorem dX12_min_6 : decode cX12_min 6 = .ok (.goto 4, 3) := by decide +kernel
theorem dX12_min_9 : decode cX12_min 9 = .ok (.iload_n 1, 1) := by decide +kernel
theorem dX12_min_10 : decode cX12_min 10 = .ok (.ireturn, 1) := by decide +kernel
def fn_X12_min (v0 : Int32) (v1 : Int32) : Option Int32 :=
  if v1 ≤ v0 then
  (some v1)
  else
  (some v0)
theorem be_X12_min {K : ro_K} (hK : ro_C K RX12 cX12_min 2 0) (hR : ro_R K (some .int)) {v0 : Int32} {v1 : Int32}  {μ : ro_Mem} {out : Int32} (hf : fn_X12_min v0 v1 = some out) (hq : kQ K (some (.int out)) μ) : ro_X K 0 [(0, .int v0), (1, .int v1)] [] μ := by
  unfold fn_X12_min at hf
  refine ro_iload_n hK 0 rfl dX12_min_0 rfl ?_
  refine ro_iload_n hK 1 rfl dX12_min_1 rfl ?_
  refine ro_icmp_ge hK 9 dX12_min_2 (by decide) (fun c1 => ?_) (fun c1 => ?_)
  · have hf := ro_it hf c1
    refine ro_iload_n hK 1 rfl dX12_min_9 rfl ?_
    obtain rfl := Option.some.inj hf
    exact ro_iret hK hR dX12_min_10 hq
  · have hf := ro_ie hf c1
    refine ro_iload_n hK 0 rfl dX12_min_5 rfl ?_
    refine ro_goto hK 10 dX12_min_6 (by decide) ?_
    obtain rfl := Option.some.inj hf
    exact ro_iret hK hR dX12_min_10 hq
theorem mt_X12_min (l : Launch) (G : ro_G) {v0 : Int32} {v1 : Int32}  {μ : ro_Mem} {out : Int32} (hf : fn_X12_min v0 v1 = some out) : ro_MX l G yX12_min cX12_min 2 (some .int) 0 [.int v0, .int v1] μ (some (.int out)) μ := by
  refine ro_MX.of (by decide +kernel) (Nat.le_of_ble_eq_true rfl) (fun K hG hl hq hK hR => ?_)
  subst hG
  exact be_X12_min hK hR  hf hq
-- ===== X12_max =====
theorem dX12_max_0 : decode cX12_max 0 = .ok (.iload_n 0, 1) := by decide +kernel
theorem dX12_max_1 : decode cX12_max 1 = .ok (.iload_n 1, 1) := by decide +kernel
theorem dX12_max_2 : decode cX12_max 2 = .ok (.if_icmp .le 7, 3) := by decide +kernel
theorem dX12_max_5 : decode cX12_max 5 = .ok (.iload_n 0, 1) := by decide +kernel
theorem dX12_max_6 : decode cX12_max 6 = .ok (.goto 4, 3) := by decide +kernel
theorem dX12_max_9 : decode cX12_max 9 = .ok (.iload_n 1, 1) := by decide +kernel
theorem dX12_max_10 : decode cX12_max 10 = .ok (.ireturn, 1) := by decide +kernel
def fn_X12_max (v0 : Int32) (v1 : Int32) : Option Int32 :=
  if v0 ≤ v1 then
  (some v1)
  else
  (some v0)
theorem be_X12_max {K : ro_K} (hK : ro_C K RX12 cX12_max 2 0) (hR : ro_R K (some .int)) {v0 : Int32} {v1 : Int32}  {μ : ro_Mem} {out : Int32} (hf : fn_X12_max v0 v1 = some out) (hq : kQ K (some (.int out)) μ) : ro_X K 0 [(0, .int v0), (1, .int v1)] [] μ := by
  unfold fn_X12_max at hf
  refine ro_iload_n hK 0 rfl dX12_max_0 rfl ?_
  refine ro_iload_n hK 1 rfl dX12_max_1 rfl ?_
  refine ro_icmp_le hK 9 dX12_max_2 (by decide) (fun c1 => ?_) (fun c1 => ?_)
  · have hf := ro_it hf c1
    refine ro_iload_n hK 1 rfl dX12_max_9 rfl ?_
    obtain rfl := Option.some.inj hf
    exact ro_iret hK hR dX12_max_10 hq
  · have hf := ro_ie hf c1
    refine ro_iload_n hK 0 rfl dX12_max_5 rfl ?_
    refine ro_goto hK 10 dX12_max_6 (by decide) ?_
    obtain rfl := Option.some.inj hf
    exact ro_iret hK hR dX12_max_10 hq
theorem mt_X12_max (l : Launch) (G : ro_G) {v0 : Int32} {v1 : Int32}  {μ : ro_Mem} {out : Int32} (hf : fn_X12_max v0 v1 = some out) : ro_MX l G yX12_max cX12_max 2 (some .int) 0 [.int v0, .int v1] μ (some (.int out)) μ := by
  refine ro_MX.of (by decide +kernel) (Nat.le_of_ble_eq_true rfl) (fun K hG hl hq hK hR => ?_)
  subst hG
  exact be_X12_max hK hR  hf hq
-- ===== X12_size =====
theorem dX12_size_0 : decode cX12_size 0 = .ok (.iload_n 0, 1) := by decide +kernel
theorem dX12_size_1 : decode cX12_size 1 = .ok (.ifCond .ge 8, 3) := by decide +kernel
theorem dX12_size_4 : decode cX12_size 4 = .ok (.iload_n 0, 1) := by decide +kernel
theorem dX12_size_5 : decode cX12_size 5 = .ok (.ineg, 1) := by decide +kernel
theorem dX12_size_6 : decode cX12_size 6 = .ok (.goto 4, 3) := by decide +kernel
theorem dX12_size_9 : decode cX12_size 9 = .ok (.iload_n 0, 1) := by decide +kernel
theorem dX12_size_10 : decode cX12_size 10 = .ok (.ireturn, 1) := by decide +kernel
def fn_X12_size (v0 : Int32) : Option Int32 :=
  if 0 ≤ v0 then
  (some v0)
  else
  (some (0 - v0))
theorem be_X12_size {K : ro_K} (hK : ro_C K RX12 cX12_size 1 0) (hR : ro_R K (some .int)) {v0 : Int32}  {μ : ro_Mem} {out : Int32} (hf : fn_X12_size v0 = some out) (hq : kQ K (some (.int out)) μ) : ro_X K 0 [(0, .int v0)] [] μ := by
  unfold fn_X12_size at hf
  refine ro_iload_n hK 0 rfl dX12_size_0 rfl ?_
  refine ro_if_ge hK 9 dX12_size_1 (by decide) (fun c1 => ?_) (fun c1 => ?_)
  · have hf := ro_it hf c1
    refine ro_iload_n hK 0 rfl dX12_size_9 rfl ?_
    obtain rfl := Option.some.inj hf
    exact ro_iret hK hR dX12_size_10 hq
  · have hf := ro_ie hf c1
    refine ro_iload_n hK 0 rfl dX12_size_4 rfl ?_
    refine ro_ineg hK dX12_size_5 ?_
    refine ro_goto hK 10 dX12_size_6 (by decide) ?_
    obtain rfl := Option.some.inj hf
    exact ro_iret hK hR dX12_size_10 hq
theorem mt_X12_size (l : Launch) (G : ro_G) {v0 : Int32}  {μ : ro_Mem} {out : Int32} (hf : fn_X12_size v0 = some out) : ro_MX l G yX12_size cX12_size 1 (some .int) 0 [.int v0] μ (some (.int out)) μ := by
  refine ro_MX.of (by decide +kernel) (Nat.le_of_ble_eq_true rfl) (fun K hG hl hq hK hR => ?_)
  subst hG
  exact be_X12_size hK hR  hf hq
-- ===== X12_has =====
theorem dX12_has_0 : decode cX12_has 0 = .ok (.iload_n 0, 1) := by decide +kernel
theorem dX12_has_1 : decode cX12_has 1 = .ok (.iload_n 1, 1) := by decide +kernel
theorem dX12_has_2 : decode cX12_has 2 = .ok (.ishr, 1) := by decide +kernel
theorem dX12_has_3 : decode cX12_has 3 = .ok (.iconst 1, 1) := by decide +kernel
theorem dX12_has_4 : decode cX12_has 4 = .ok (.iand, 1) := by decide +kernel
theorem dX12_has_5 : decode cX12_has 5 = .ok (.iconst 1, 1) := by decide +kernel
theorem dX12_has_6 : decode cX12_has 6 = .ok (.if_icmp .ne 7, 3) := by decide +kernel
theorem dX12_has_9 : decode cX12_has 9 = .ok (.iconst 1, 1) := by decide +kernel
theorem dX12_has_10 : decode cX12_has 10 = .ok (.goto 4, 3) := by decide +kernel
theorem dX12_has_13 : decode cX12_has 13 = .ok (.iconst 0, 1) := by decide +kernel
theorem dX12_has_14 : decode cX12_has 14 = .ok (.ireturn, 1) := by decide +kernel
def fn_X12_has (v0 : Int32) (v1 : Int32) : Option Int32 :=
  if ((v0 >>> (v1 &&& 31)) &&& 1) = 1 then
  (some 1)
  else
  (some 0)
theorem be_X12_has {K : ro_K} (hK : ro_C K RX12 cX12_has 2 0) (hR : ro_R K (some .boolean)) {v0 : Int32} {v1 : Int32}  {μ : ro_Mem} {out : Int32} (hf : fn_X12_has v0 v1 = some out) (hq : kQ K (some (.int out)) μ) : ro_X K 0 [(0, .int v0), (1, .int v1)] [] μ := by
  unfold fn_X12_has at hf
  refine ro_iload_n hK 0 rfl dX12_has_0 rfl ?_
  refine ro_iload_n hK 1 rfl dX12_has_1 rfl ?_
  refine ro_ishr hK dX12_has_2 ?_
  refine ro_iconst (v := 1) hK dX12_has_3 (by decide) ?_
  refine ro_iand hK dX12_has_4 ?_
  refine ro_iconst (v := 1) hK dX12_has_5 (by decide) ?_
  refine ro_icmp_ne hK 13 dX12_has_6 (by decide) (fun c1 => ?_) (fun c1 => ?_)
  · have hf := ro_ie hf c1
    refine ro_iconst (v := 0) hK dX12_has_13 (by decide) ?_
    obtain rfl := Option.some.inj hf
    exact ro_zret hK hR dX12_has_14 (by decide) hq
  · have hf := ro_it hf c1
    refine ro_iconst (v := 1) hK dX12_has_9 (by decide) ?_
    refine ro_goto hK 14 dX12_has_10 (by decide) ?_
    obtain rfl := Option.some.inj hf
    exact ro_zret hK hR dX12_has_14 (by decide) hq
theorem mt_X12_has (l : Launch) (G : ro_G) {v0 : Int32} {v1 : Int32}  {μ : ro_Mem} {out : Int32} (hf : fn_X12_has v0 v1 = some out) : ro_MX l G yX12_has cX12_has 2 (some .boolean) 0 [.int v0, .int v1] μ (some (.int out)) μ := by
  refine ro_MX.of (by decide +kernel) (Nat.le_of_ble_eq_true rfl) (fun K hG hl hq hK hR => ?_)
  subst hG
  exact be_X12_has hK hR  hf hq
-- ===== X12_bits =====
theorem dX12_bits_0 : decode cX12_bits 0 = .ok (.iconst 0, 1) := by decide +kernel
theorem dX12_bits_1 : decode cX12_bits 1 = .ok (.istore_n 1, 1) := by decide +kernel
theorem dX12_bits_2 : decode cX12_bits 2 = .ok (.iconst 0, 1) := by decide +kernel
theorem dX12_bits_3 : decode cX12_bits 3 = .ok (.istore_n 2, 1) := by decide +kernel
theorem dX12_bits_4 : decode cX12_bits 4 = .ok (.iload_n 2, 1) := by decide +kernel
theorem dX12_bits_5 : decode cX12_bits 5 = .ok (.bipush 16, 2) := by decide +kernel
theorem dX12_bits_7 : decode cX12_bits 7 = .ok (.if_icmp .ge 17, 3) := by decide +kernel
theorem dX12_bits_10 : decode cX12_bits 10 = .ok (.iload_n 1, 1) := by decide +kernel
theorem dX12_bits_11 : decode cX12_bits 11 = .ok (.iload_n 0, 1) := by decide +kernel
theorem dX12_bits_12 : decode cX12_bits 12 = .ok (.iload_n 2, 1) := by decide +kernel
theorem dX12_bits_13 : decode cX12_bits 13 = .ok (.ishr, 1) := by decide +kernel
theorem dX12_bits_14 : decode cX12_bits 14 = .ok (.iconst 1, 1) := by decide +kernel
theorem dX12_bits_15 : decode cX12_bits 15 = .ok (.iand, 1) := by decide +kernel
theorem dX12_bits_16 : decode cX12_bits 16 = .ok (.iadd, 1) := by decide +kernel
theorem dX12_bits_17 : decode cX12_bits 17 = .ok (.istore_n 1, 1) := by decide +kernel
theorem dX12_bits_18 : decode cX12_bits 18 = .ok (.iinc 2 1, 3) := by decide +kernel
theorem dX12_bits_21 : decode cX12_bits 21 = .ok (.goto (-17), 3) := by decide +kernel
theorem dX12_bits_24 : decode cX12_bits 24 = .ok (.iload_n 1, 1) := by decide +kernel
theorem dX12_bits_25 : decode cX12_bits 25 = .ok (.ireturn, 1) := by decide +kernel
def ok_X12_bits_4 (K : ro_K) (v0 : Int32) (μ : ro_Mem) : Int32 → Prop := fun e => ro_X K 24 [(1, .int e)] [] μ
def fb_X12_bits_4 (v0 : Int32) (rec : (Int32 × Int32) → Option Int32) (v1 : Int32) (v2 : Int32) : Option Int32 :=
  if 16 ≤ v2 then
  (some v1)
  else
  (ro_lt (v1 + ((v0 >>> (v2 &&& 31)) &&& 1)) fun z2 =>
  rec (z2, v2 + 1))
theorem bb_X12_bits_4 {K : ro_K} (hK : ro_C K RX12 cX12_bits 3 0) (hR : ro_R K (some .int)) {v0 : Int32}  {μ : ro_Mem} {rec : (Int32 × Int32) → Option Int32} {v1 : Int32} {v2 : Int32} {q : Int32} (hrec : ∀ (s : Int32 × Int32) (q : Int32), rec s = some q → ok_X12_bits_4 K v0 μ q → ro_X K 4 [(0, .int v0), (1, .int s.1), (2, .int s.2)] [] μ) (hf : fb_X12_bits_4 v0 rec v1 v2 = some q) (hq : ok_X12_bits_4 K v0 μ q) : ro_X K 4 [(0, .int v0), (1, .int v1), (2, .int v2)] [] μ := by
  unfold fb_X12_bits_4 at hf
  refine ro_iload_n hK 2 rfl dX12_bits_4 rfl ?_
  refine ro_bipush (v := 16) hK dX12_bits_5 (by decide) ?_
  refine ro_icmp_ge hK 24 dX12_bits_7 (by decide) (fun c1 => ?_) (fun c1 => ?_)
  · have hf := ro_it hf c1
    refine ro_sub (L' := [(1, .int v1)]) [1] rfl ?_
    obtain rfl := Option.some.inj hf
    exact hq
  · have hf := ro_ie hf c1
    refine ro_iload_n hK 1 rfl dX12_bits_10 rfl ?_
    refine ro_iload_n hK 0 rfl dX12_bits_11 rfl ?_
    refine ro_iload_n hK 2 rfl dX12_bits_12 rfl ?_
    refine ro_ishr hK dX12_bits_13 ?_
    refine ro_iconst (v := 1) hK dX12_bits_14 (by decide) ?_
    refine ro_iand hK dX12_bits_15 ?_
    refine ro_iadd hK dX12_bits_16 ?_
    obtain ⟨z2, e3, hf⟩ := ro_ld hf
    refine ro_iv e3 ?_
    refine ro_istore_n (L' := [(1, .int z2), (0, .int v0), (2, .int v2)]) hK dX12_bits_17 rfl (by decide) rfl ?_
    refine ro_iinc (v := v2 + 1) (L' := [(2, .int (v2 + 1)), (1, .int z2), (0, .int v0)]) hK 2 rfl dX12_bits_18 rfl (by decide) rfl ?_
    refine ro_goto hK 4 dX12_bits_21 (by decide) ?_
    refine ro_sub (L' := [(0, .int v0), (1, .int z2), (2, .int (v2 + 1))]) [2, 1, 0] rfl ?_
    exact hrec (z2, v2 + 1) _ hf hq
def fl_X12_bits_4 (v0 : Int32) : (Int32 × Int32) → Option Int32 :=
  ro_loop (fun rec s => fb_X12_bits_4 v0 rec s.1 s.2) ro_FU
theorem lp_X12_bits_4 {K : ro_K} (hK : ro_C K RX12 cX12_bits 3 0) (hR : ro_R K (some .int)) {v0 : Int32}  {μ : ro_Mem} {s : Int32 × Int32} {q : Int32} (hf : fl_X12_bits_4 v0 s = some q) (hq : ok_X12_bits_4 K v0 μ q) : ro_X K 4 [(0, .int v0), (1, .int s.1), (2, .int s.2)] [] μ :=
  ro_loopX (b := fun rec s => fb_X12_bits_4 v0 rec s.1 s.2) (X := fun s => ro_X K 4 [(0, .int v0), (1, .int s.1), (2, .int s.2)] [] μ) (OK := ok_X12_bits_4 K v0 μ) (fun rec s q hrec hb ho => bb_X12_bits_4 hK hR  hrec hb ho) ro_FU s q hf hq
def fn_X12_bits (v0 : Int32) : Option Int32 :=
  (fl_X12_bits_4 v0 (0, 0)).bind fun q4 =>
  some q4
theorem be_X12_bits {K : ro_K} (hK : ro_C K RX12 cX12_bits 3 0) (hR : ro_R K (some .int)) {v0 : Int32}  {μ : ro_Mem} {out : Int32} (hf : fn_X12_bits v0 = some out) (hq : kQ K (some (.int out)) μ) : ro_X K 0 [(0, .int v0)] [] μ := by
  unfold fn_X12_bits at hf
  refine ro_iconst (v := 0) hK dX12_bits_0 (by decide) ?_
  refine ro_istore_n (L' := [(1, .int 0), (0, .int v0)]) hK dX12_bits_1 rfl (by decide) rfl ?_
  refine ro_iconst (v := 0) hK dX12_bits_2 (by decide) ?_
  refine ro_istore_n (L' := [(2, .int 0), (1, .int 0), (0, .int v0)]) hK dX12_bits_3 rfl (by decide) rfl ?_
  obtain ⟨q4, e5, hf⟩ := ro_bd hf
  refine ro_sub (L' := [(0, .int v0), (1, .int 0), (2, .int 0)]) [2, 1, 0] rfl ?_
  refine lp_X12_bits_4 hK hR  e5 ?_
  show ro_X K 24 [(1, .int q4)] [] μ
  refine ro_iload_n hK 0 rfl dX12_bits_24 rfl ?_
  obtain rfl := Option.some.inj hf
  exact ro_iret hK hR dX12_bits_25 hq
theorem mt_X12_bits (l : Launch) (G : ro_G) {v0 : Int32}  {μ : ro_Mem} {out : Int32} (hf : fn_X12_bits v0 = some out) : ro_MX l G yX12_bits cX12_bits 3 (some .int) 0 [.int v0] μ (some (.int out)) μ := by
  refine ro_MX.of (by decide +kernel) (Nat.le_of_ble_eq_true rfl) (fun K hG hl hq hK hR => ?_)
  subst hG
  exact be_X12_bits hK hR  hf hq
-- ===== X12_isPlace =====
theorem dX12_isPlace_0 : decode cX12_isPlace 0 = .ok (.iload_n 0, 1) := by decide +kernel
theorem dX12_isPlace_1 : decode cX12_isPlace 1 = .ok (.ifCond .lt 23, 3) := by decide +kernel
theorem dX12_isPlace_4 : decode cX12_isPlace 4 = .ok (.iload_n 0, 1) := by decide +kernel
theorem dX12_isPlace_5 : decode cX12_isPlace 5 = .ok (.bipush 8, 2) := by decide +kernel
theorem dX12_isPlace_7 : decode cX12_isPlace 7 = .ok (.if_icmp .ge 17, 3) := by decide +kernel
theorem dX12_isPlace_10 : decode cX12_isPlace 10 = .ok (.iload_n 1, 1) := by decide +kernel
theorem dX12_isPlace_11 : decode cX12_isPlace 11 = .ok (.ifCond .lt 13, 3) := by decide +kernel
theorem dX12_isPlace_14 : decode cX12_isPlace 14 = .ok (.iload_n 1, 1) := by decide +kernel
theorem dX12_isPlace_15 : decode cX12_isPlace 15 = .ok (.bipush 12, 2) := by decide +kernel
theorem dX12_isPlace_17 : decode cX12_isPlace 17 = .ok (.if_icmp .ge 7, 3) := by decide +kernel
theorem dX12_isPlace_20 : decode cX12_isPlace 20 = .ok (.iconst 1, 1) := by decide +kernel
theorem dX12_isPlace_21 : decode cX12_isPlace 21 = .ok (.goto 4, 3) := by decide +kernel
theorem dX12_isPlace_24 : decode cX12_isPlace 24 = .ok (.iconst 0, 1) := by decide +kernel
theorem dX12_isPlace_25 : decode cX12_isPlace 25 = .ok (.ireturn, 1) := by decide +kernel
def fn_X12_isPlace (v0 : Int32) (v1 : Int32) : Option Int32 :=
  if v0 < 0 then
  (some 0)
  else
  (if 8 ≤ v0 then
  (some 0)
  else
  (if v1 < 0 then
  (some 0)
  else
  (if 12 ≤ v1 then
  (some 0)
  else
  (some 1))))
theorem be_X12_isPlace {K : ro_K} (hK : ro_C K RX12 cX12_isPlace 2 0) (hR : ro_R K (some .boolean)) {v0 : Int32} {v1 : Int32}  {μ : ro_Mem} {out : Int32} (hf : fn_X12_isPlace v0 v1 = some out) (hq : kQ K (some (.int out)) μ) : ro_X K 0 [(0, .int v0), (1, .int v1)] [] μ := by
  unfold fn_X12_isPlace at hf
  refine ro_iload_n hK 0 rfl dX12_isPlace_0 rfl ?_
  refine ro_if_lt hK 24 dX12_isPlace_1 (by decide) (fun c1 => ?_) (fun c1 => ?_)
  · have hf := ro_it hf c1
    refine ro_iconst (v := 0) hK dX12_isPlace_24 (by decide) ?_
    obtain rfl := Option.some.inj hf
    exact ro_zret hK hR dX12_isPlace_25 (by decide) hq
  · have hf := ro_ie hf c1
    refine ro_iload_n hK 0 rfl dX12_isPlace_4 rfl ?_
    refine ro_bipush (v := 8) hK dX12_isPlace_5 (by decide) ?_
    refine ro_icmp_ge hK 24 dX12_isPlace_7 (by decide) (fun c2 => ?_) (fun c2 => ?_)
    · have hf := ro_it hf c2
      refine ro_iconst (v := 0) hK dX12_isPlace_24 (by decide) ?_
      obtain rfl := Option.some.inj hf
      exact ro_zret hK hR dX12_isPlace_25 (by decide) hq
    · have hf := ro_ie hf c2
      refine ro_iload_n hK 1 rfl dX12_isPlace_10 rfl ?_
      refine ro_if_lt hK 24 dX12_isPlace_11 (by decide) (fun c3 => ?_) (fun c3 => ?_)
      · have hf := ro_it hf c3
        refine ro_iconst (v := 0) hK dX12_isPlace_24 (by decide) ?_
        obtain rfl := Option.some.inj hf
        exact ro_zret hK hR dX12_isPlace_25 (by decide) hq
      · have hf := ro_ie hf c3
        refine ro_iload_n hK 1 rfl dX12_isPlace_14 rfl ?_
        refine ro_bipush (v := 12) hK dX12_isPlace_15 (by decide) ?_
        refine ro_icmp_ge hK 24 dX12_isPlace_17 (by decide) (fun c4 => ?_) (fun c4 => ?_)
        · have hf := ro_it hf c4
          refine ro_iconst (v := 0) hK dX12_isPlace_24 (by decide) ?_
          obtain rfl := Option.some.inj hf
          exact ro_zret hK hR dX12_isPlace_25 (by decide) hq
        · have hf := ro_ie hf c4
          refine ro_iconst (v := 1) hK dX12_isPlace_20 (by decide) ?_
          refine ro_goto hK 25 dX12_isPlace_21 (by decide) ?_
          obtain rfl := Option.some.inj hf
          exact ro_zret hK hR dX12_isPlace_25 (by decide) hq
theorem mt_X12_isPlace (l : Launch) (G : ro_G) {v0 : Int32} {v1 : Int32}  {μ : ro_Mem} {out : Int32} (hf : fn_X12_isPlace v0 v1 = some out) : ro_MX l G yX12_isPlace cX12_isPlace 2 (some .boolean) 0 [.int v0, .int v1] μ (some (.int out)) μ := by
  refine ro_MX.of (by decide +kernel) (Nat.le_of_ble_eq_true rfl) (fun K hG hl hq hK hR => ?_)
  subst hG
  exact be_X12_isPlace hK hR  hf hq
-- ===== X12_isAct =====
theorem dX12_isAct_0 : decode cX12_isAct 0 = .ok (.iload_n 0, 1) := by decide +kernel
theorem dX12_isAct_1 : decode cX12_isAct 1 = .ok (.ifCond .lt 12, 3) := by decide +kernel
theorem dX12_isAct_4 : decode cX12_isAct 4 = .ok (.iload_n 0, 1) := by decide +kernel
theorem dX12_isAct_5 : decode cX12_isAct 5 = .ok (.iconst 4, 1) := by decide +kernel
theorem dX12_isAct_6 : decode cX12_isAct 6 = .ok (.if_icmp .ge 7, 3) := by decide +kernel
theorem dX12_isAct_9 : decode cX12_isAct 9 = .ok (.iconst 1, 1) := by decide +kernel
theorem dX12_isAct_10 : decode cX12_isAct 10 = .ok (.goto 4, 3) := by decide +kernel
theorem dX12_isAct_13 : decode cX12_isAct 13 = .ok (.iconst 0, 1) := by decide +kernel
theorem dX12_isAct_14 : decode cX12_isAct 14 = .ok (.ireturn, 1) := by decide +kernel
def fn_X12_isAct (v0 : Int32) : Option Int32 :=
  if v0 < 0 then
  (some 0)
  else
  (if 4 ≤ v0 then
  (some 0)
  else
  (some 1))
theorem be_X12_isAct {K : ro_K} (hK : ro_C K RX12 cX12_isAct 1 0) (hR : ro_R K (some .boolean)) {v0 : Int32}  {μ : ro_Mem} {out : Int32} (hf : fn_X12_isAct v0 = some out) (hq : kQ K (some (.int out)) μ) : ro_X K 0 [(0, .int v0)] [] μ := by
  unfold fn_X12_isAct at hf
  refine ro_iload_n hK 0 rfl dX12_isAct_0 rfl ?_
  refine ro_if_lt hK 13 dX12_isAct_1 (by decide) (fun c1 => ?_) (fun c1 => ?_)
  · have hf := ro_it hf c1
    refine ro_iconst (v := 0) hK dX12_isAct_13 (by decide) ?_
    obtain rfl := Option.some.inj hf
    exact ro_zret hK hR dX12_isAct_14 (by decide) hq
  · have hf := ro_ie hf c1
    refine ro_iload_n hK 0 rfl dX12_isAct_4 rfl ?_
    refine ro_iconst (v := 4) hK dX12_isAct_5 (by decide) ?_
    refine ro_icmp_ge hK 13 dX12_isAct_6 (by decide) (fun c2 => ?_) (fun c2 => ?_)
    · have hf := ro_it hf c2
      refine ro_iconst (v := 0) hK dX12_isAct_13 (by decide) ?_
      obtain rfl := Option.some.inj hf
      exact ro_zret hK hR dX12_isAct_14 (by decide) hq
    · have hf := ro_ie hf c2
      refine ro_iconst (v := 1) hK dX12_isAct_9 (by decide) ?_
      refine ro_goto hK 14 dX12_isAct_10 (by decide) ?_
      obtain rfl := Option.some.inj hf
      exact ro_zret hK hR dX12_isAct_14 (by decide) hq
theorem mt_X12_isAct (l : Launch) (G : ro_G) {v0 : Int32}  {μ : ro_Mem} {out : Int32} (hf : fn_X12_isAct v0 = some out) : ro_MX l G yX12_isAct cX12_isAct 1 (some .boolean) 0 [.int v0] μ (some (.int out)) μ := by
  refine ro_MX.of (by decide +kernel) (Nat.le_of_ble_eq_true rfl) (fun K hG hl hq hK hR => ?_)
  subst hG
  exact be_X12_isAct hK hR  hf hq
-- ===== X12_seat =====
theorem dX12_seat_0 : decode cX12_seat 0 = .ok (.iload_n 1, 1) := by decide +kernel
theorem dX12_seat_1 : decode cX12_seat 1 = .ok (.iload_n 2, 1) := by decide +kernel
theorem dX12_seat_2 : decode cX12_seat 2 = .ok (.invokestatic 211, 3) := by decide +kernel
theorem dX12_seat_5 : decode cX12_seat 5 = .ok (.ifCond .eq 14, 3) := by decide +kernel
theorem dX12_seat_8 : decode cX12_seat 8 = .ok (.iload 4, 2) := by decide +kernel
theorem dX12_seat_10 : decode cX12_seat 10 = .ok (.iconst 0, 1) := by decide +kernel
theorem dX12_seat_11 : decode cX12_seat 11 = .ok (.bipush 99, 2) := by decide +kernel
theorem dX12_seat_13 : decode cX12_seat 13 = .ok (.invokestatic 215, 3) := by decide +kernel
theorem dX12_seat_16 : decode cX12_seat 16 = .ok (.ifCond .ne 5, 3) := by decide +kernel
theorem dX12_seat_19 : decode cX12_seat 19 = .ok (.iconst 0, 1) := by decide +kernel
theorem dX12_seat_20 : decode cX12_seat 20 = .ok (.ireturn, 1) := by decide +kernel
theorem dX12_seat_21 : decode cX12_seat 21 = .ok (.aload_n 0, 1) := by decide +kernel
theorem dX12_seat_22 : decode cX12_seat 22 = .ok (.getfield 7, 3) := by decide +kernel
theorem dX12_seat_25 : decode cX12_seat 25 = .ok (.bipush 12, 2) := by decide +kernel
theorem dX12_seat_27 : decode cX12_seat 27 = .ok (.iload_n 1, 1) := by decide +kernel
theorem dX12_seat_28 : decode cX12_seat 28 = .ok (.imul, 1) := by decide +kernel
theorem dX12_seat_29 : decode cX12_seat 29 = .ok (.iload_n 2, 1) := by decide +kernel
theorem dX12_seat_30 : decode cX12_seat 30 = .ok (.iadd, 1) := by decide +kernel
theorem dX12_seat_31 : decode cX12_seat 31 = .ok (.iload_n 3, 1) := by decide +kernel
theorem dX12_seat_32 : decode cX12_seat 32 = .ok (.bastore, 1) := by decide +kernel
theorem dX12_seat_33 : decode cX12_seat 33 = .ok (.aload_n 0, 1) := by decide +kernel
theorem dX12_seat_34 : decode cX12_seat 34 = .ok (.getfield 13, 3) := by decide +kernel
theorem dX12_seat_37 : decode cX12_seat 37 = .ok (.bipush 12, 2) := by decide +kernel
theorem dX12_seat_39 : decode cX12_seat 39 = .ok (.iload_n 1, 1) := by decide +kernel
theorem dX12_seat_40 : decode cX12_seat 40 = .ok (.imul, 1) := by decide +kernel
theorem dX12_seat_41 : decode cX12_seat 41 = .ok (.iload_n 2, 1) := by decide +kernel
theorem dX12_seat_42 : decode cX12_seat 42 = .ok (.iadd, 1) := by decide +kernel
theorem dX12_seat_43 : decode cX12_seat 43 = .ok (.iload 4, 2) := by decide +kernel
theorem dX12_seat_45 : decode cX12_seat 45 = .ok (.iastore, 1) := by decide +kernel
theorem dX12_seat_46 : decode cX12_seat 46 = .ok (.iconst 1, 1) := by decide +kernel
theorem dX12_seat_47 : decode cX12_seat 47 = .ok (.ireturn, 1) := by decide +kernel
def fn_X12_seat (v1 : Int32) (v2 : Int32) (v3 : Int32) (v4 : Int32) (μ : ro_Mem) : Option (Int32 × ro_Mem) :=
  (fn_X12_isPlace v1 v2).bind fun q1 =>
  if q1 = 0 then
  (some (0, μ))
  else
  ((fn_X12_in v4 0 99).bind fun q4 =>
  if q4 = 0 then
  (some (0, μ))
  else
  (if ro_in ((12 * v1) + v2) 96 then
  (ro_lt (ro_set μ 208 ((12 * v1) + v2).toNatClampNeg (vp_nar .boolean v3)) fun m8 =>
  ro_lt (ro_set m8 209 ((12 * v1) + v2).toNatClampNeg v4) fun m10 =>
  some (1, m10)) else none))
theorem be_X12_seat {K : ro_K} (hK : ro_C K RX12 cX12_seat 5 1) (hR : ro_R K (some .boolean)) {v1 : Int32} {v2 : Int32} {v3 : Int32} {v4 : Int32}  {μ : ro_Mem} {out : Int32 × ro_Mem} (hf : fn_X12_seat v1 v2 v3 v4 μ = some out) (hq : kQ K (some (.int out.1)) out.2) : ro_X K 0 [(0, .ref (ro_ad (kG K) 207)), (1, .int v1), (2, .int v2), (3, .int v3), (4, .int v4)] [] μ := by
  unfold fn_X12_seat at hf
  refine ro_iload_n hK 1 rfl dX12_seat_0 rfl ?_
  refine ro_iload_n hK 2 rfl dX12_seat_1 rfl ?_
  obtain ⟨q1, e2, hf⟩ := ro_bd hf
  refine ro_callsi hK [.int v1, .int v2] ml_X12_211 ms_X12_isPlace (mt_X12_isPlace (kl K) (kG K)  e2) (by decide) rfl rfl (Nat.le_of_ble_eq_true rfl) dX12_seat_2 ?_
  refine ro_if_eq hK 19 dX12_seat_5 (by decide) (fun c3 => ?_) (fun c3 => ?_)
  · have hf := ro_it hf c3
    refine ro_iconst (v := 0) hK dX12_seat_19 (by decide) ?_
    obtain rfl := Option.some.inj hf
    exact ro_zret hK hR dX12_seat_20 (by decide) hq
  · have hf := ro_ie hf c3
    refine ro_iload hK 4 rfl dX12_seat_8 ?_
    refine ro_iconst (v := 0) hK dX12_seat_10 (by decide) ?_
    refine ro_bipush (v := 99) hK dX12_seat_11 (by decide) ?_
    obtain ⟨q4, e5, hf⟩ := ro_bd hf
    refine ro_callsi hK [.int v4, .int 0, .int 99] ml_X12_215 ms_X12_in (mt_X12_in (kl K) (kG K)  e5) (by decide) rfl rfl (Nat.le_of_ble_eq_true rfl) dX12_seat_13 ?_
    refine ro_if_ne hK 21 dX12_seat_16 (by decide) (fun c6 => ?_) (fun c6 => ?_)
    · have hf := ro_ie hf c6
      refine ro_aload_n hK 0 rfl dX12_seat_21 rfl ?_
      refine ro_getr hK fl_X12_7 sh_207 dX12_seat_22 ?_
      refine ro_bipush (v := 12) hK dX12_seat_25 (by decide) ?_
      refine ro_iload_n hK 1 rfl dX12_seat_27 rfl ?_
      refine ro_imul hK dX12_seat_28 ?_
      refine ro_iload_n hK 2 rfl dX12_seat_29 rfl ?_
      refine ro_iadd hK dX12_seat_30 ?_
      refine ro_iload_n hK 3 rfl dX12_seat_31 rfl ?_
      obtain ⟨g7, hf⟩ := ro_gd hf
      obtain ⟨m8, e9, hf⟩ := ro_ld hf
      refine ro_zast hK sh_208 g7 dX12_seat_32 ?_
      refine ro_mv e9 ?_
      refine ro_aload_n hK 0 rfl dX12_seat_33 rfl ?_
      refine ro_getr hK fl_X12_13 sh_207 dX12_seat_34 ?_
      refine ro_bipush (v := 12) hK dX12_seat_37 (by decide) ?_
      refine ro_iload_n hK 1 rfl dX12_seat_39 rfl ?_
      refine ro_imul hK dX12_seat_40 ?_
      refine ro_iload_n hK 2 rfl dX12_seat_41 rfl ?_
      refine ro_iadd hK dX12_seat_42 ?_
      refine ro_iload hK 4 rfl dX12_seat_43 ?_
      obtain ⟨m10, e11, hf⟩ := ro_ld hf
      refine ro_iast hK sh_209 g7 dX12_seat_45 ?_
      refine ro_mv e11 ?_
      refine ro_iconst (v := 1) hK dX12_seat_46 (by decide) ?_
      obtain rfl := Option.some.inj hf
      exact ro_zret hK hR dX12_seat_47 (by decide) hq
    · have hf := ro_it hf c6
      refine ro_iconst (v := 0) hK dX12_seat_19 (by decide) ?_
      obtain rfl := Option.some.inj hf
      exact ro_zret hK hR dX12_seat_20 (by decide) hq
theorem mt_X12_seat (l : Launch) (G : ro_G) {v1 : Int32} {v2 : Int32} {v3 : Int32} {v4 : Int32}  {μ : ro_Mem} {out : Int32 × ro_Mem} (hf : fn_X12_seat v1 v2 v3 v4 μ = some out) : ro_MX l G yX12_seat cX12_seat 5 (some .boolean) 1 [.ref (ro_ad G 207), .int v1, .int v2, .int v3, .int v4] μ (some (.int out.1)) out.2 := by
  refine ro_MX.of (by decide +kernel) (Nat.le_of_ble_eq_true rfl) (fun K hG hl hq hK hR => ?_)
  subst hG
  exact be_X12_seat hK hR  hf hq
-- ===== X12_isSlate =====
theorem dX12_isSlate_0 : decode cX12_isSlate 0 = .ok (.iload_n 1, 1) := by decide +kernel
theorem dX12_isSlate_1 : decode cX12_isSlate 1 = .ok (.ifCond .lt 23, 3) := by decide +kernel
theorem dX12_isSlate_4 : decode cX12_isSlate 4 = .ok (.iload_n 1, 1) := by decide +kernel
theorem dX12_isSlate_5 : decode cX12_isSlate 5 = .ok (.bipush 16, 2) := by decide +kernel
theorem dX12_isSlate_7 : decode cX12_isSlate 7 = .ok (.if_icmp .ge 17, 3) := by decide +kernel
theorem dX12_isSlate_10 : decode cX12_isSlate 10 = .ok (.aload_n 0, 1) := by decide +kernel
theorem dX12_isSlate_11 : decode cX12_isSlate 11 = .ok (.getfield 20, 3) := by decide +kernel
theorem dX12_isSlate_14 : decode cX12_isSlate 14 = .ok (.iload_n 1, 1) := by decide +kernel
theorem dX12_isSlate_15 : decode cX12_isSlate 15 = .ok (.iaload, 1) := by decide +kernel
theorem dX12_isSlate_16 : decode cX12_isSlate 16 = .ok (.iconst (-1), 1) := by decide +kernel
theorem dX12_isSlate_17 : decode cX12_isSlate 17 = .ok (.if_icmp .eq 7, 3) := by decide +kernel
theorem dX12_isSlate_20 : decode cX12_isSlate 20 = .ok (.iconst 1, 1) := by decide +kernel
theorem dX12_isSlate_21 : decode cX12_isSlate 21 = .ok (.goto 4, 3) := by decide +kernel
theorem dX12_isSlate_24 : decode cX12_isSlate 24 = .ok (.iconst 0, 1) := by decide +kernel
theorem dX12_isSlate_25 : decode cX12_isSlate 25 = .ok (.ireturn, 1) := by decide +kernel
def fn_X12_isSlate (v1 : Int32) (μ : ro_Mem) : Option Int32 :=
  if v1 < 0 then
  (some 0)
  else
  (if 16 ≤ v1 then
  (some 0)
  else
  (if ro_in v1 16 then
  (if (μ 211 v1.toNatClampNeg) = (-1) then
  (some 0)
  else
  (some 1)) else none))
theorem be_X12_isSlate {K : ro_K} (hK : ro_C K RX12 cX12_isSlate 2 0) (hR : ro_R K (some .boolean)) {v1 : Int32}  {μ : ro_Mem} {out : Int32} (hf : fn_X12_isSlate v1 μ = some out) (hq : kQ K (some (.int out)) μ) : ro_X K 0 [(0, .ref (ro_ad (kG K) 207)), (1, .int v1)] [] μ := by
  unfold fn_X12_isSlate at hf
  refine ro_iload_n hK 1 rfl dX12_isSlate_0 rfl ?_
  refine ro_if_lt hK 24 dX12_isSlate_1 (by decide) (fun c1 => ?_) (fun c1 => ?_)
  · have hf := ro_it hf c1
    refine ro_iconst (v := 0) hK dX12_isSlate_24 (by decide) ?_
    obtain rfl := Option.some.inj hf
    exact ro_zret hK hR dX12_isSlate_25 (by decide) hq
  · have hf := ro_ie hf c1
    refine ro_iload_n hK 1 rfl dX12_isSlate_4 rfl ?_
    refine ro_bipush (v := 16) hK dX12_isSlate_5 (by decide) ?_
    refine ro_icmp_ge hK 24 dX12_isSlate_7 (by decide) (fun c2 => ?_) (fun c2 => ?_)
    · have hf := ro_it hf c2
      refine ro_iconst (v := 0) hK dX12_isSlate_24 (by decide) ?_
      obtain rfl := Option.some.inj hf
      exact ro_zret hK hR dX12_isSlate_25 (by decide) hq
    · have hf := ro_ie hf c2
      refine ro_aload_n hK 0 rfl dX12_isSlate_10 rfl ?_
      refine ro_getr hK fl_X12_20 sh_207 dX12_isSlate_11 ?_
      refine ro_iload_n hK 1 rfl dX12_isSlate_14 rfl ?_
      obtain ⟨g3, hf⟩ := ro_gd hf
      refine ro_iald hK sh_211 g3 dX12_isSlate_15 ?_
      refine ro_iconst (v := (-1)) hK dX12_isSlate_16 (by decide) ?_
      refine ro_icmp_eq hK 24 dX12_isSlate_17 (by decide) (fun c4 => ?_) (fun c4 => ?_)
      · have hf := ro_it hf c4
        refine ro_iconst (v := 0) hK dX12_isSlate_24 (by decide) ?_
        obtain rfl := Option.some.inj hf
        exact ro_zret hK hR dX12_isSlate_25 (by decide) hq
      · have hf := ro_ie hf c4
        refine ro_iconst (v := 1) hK dX12_isSlate_20 (by decide) ?_
        refine ro_goto hK 25 dX12_isSlate_21 (by decide) ?_
        obtain rfl := Option.some.inj hf
        exact ro_zret hK hR dX12_isSlate_25 (by decide) hq
theorem mt_X12_isSlate (l : Launch) (G : ro_G) {v1 : Int32}  {μ : ro_Mem} {out : Int32} (hf : fn_X12_isSlate v1 μ = some out) : ro_MX l G yX12_isSlate cX12_isSlate 2 (some .boolean) 0 [.ref (ro_ad G 207), .int v1] μ (some (.int out)) μ := by
  refine ro_MX.of (by decide +kernel) (Nat.le_of_ble_eq_true rfl) (fun K hG hl hq hK hR => ?_)
  subst hG
  exact be_X12_isSlate hK hR  hf hq
-- ===== X12_slate =====
theorem dX12_slate_0 : decode cX12_slate 0 = .ok (.iload_n 1, 1) := by decide +kernel
theorem dX12_slate_1 : decode cX12_slate 1 = .ok (.iconst 0, 1) := by decide +kernel
theorem dX12_slate_2 : decode cX12_slate 2 = .ok (.bipush 15, 2) := by decide +kernel
theorem dX12_slate_4 : decode cX12_slate 4 = .ok (.invokestatic 215, 3) := by decide +kernel
theorem dX12_slate_7 : decode cX12_slate 7 = .ok (.ifCond .eq 34, 3) := by decide +kernel
theorem dX12_slate_10 : decode cX12_slate 10 = .ok (.iload_n 2, 1) := by decide +kernel
theorem dX12_slate_11 : decode cX12_slate 11 = .ok (.iload_n 3, 1) := by decide +kernel
theorem dX12_slate_12 : decode cX12_slate 12 = .ok (.invokestatic 211, 3) := by decide +kernel
theorem dX12_slate_15 : decode cX12_slate 15 = .ok (.ifCond .eq 26, 3) := by decide +kernel
theorem dX12_slate_18 : decode cX12_slate 18 = .ok (.iload 4, 2) := by decide +kernel
theorem dX12_slate_20 : decode cX12_slate 20 = .ok (.iconst 0, 1) := by decide +kernel
theorem dX12_slate_21 : decode cX12_slate 21 = .ok (.bipush 47, 2) := by decide +kernel
theorem dX12_slate_23 : decode cX12_slate 23 = .ok (.invokestatic 215, 3) := by decide +kernel
theorem dX12_slate_26 : decode cX12_slate 26 = .ok (.ifCond .eq 15, 3) := by decide +kernel
theorem dX12_slate_29 : decode cX12_slate 29 = .ok (.iload 5, 2) := by decide +kernel
theorem dX12_slate_31 : decode cX12_slate 31 = .ok (.iload 4, 2) := by decide +kernel
theorem dX12_slate_33 : decode cX12_slate 33 = .ok (.bipush 47, 2) := by decide +kernel
theorem dX12_slate_35 : decode cX12_slate 35 = .ok (.invokestatic 215, 3) := by decide +kernel
theorem dX12_slate_38 : decode cX12_slate 38 = .ok (.ifCond .ne 5, 3) := by decide +kernel
theorem dX12_slate_41 : decode cX12_slate 41 = .ok (.iconst 0, 1) := by decide +kernel
theorem dX12_slate_42 : decode cX12_slate 42 = .ok (.ireturn, 1) := by decide +kernel
theorem dX12_slate_43 : decode cX12_slate 43 = .ok (.aload_n 0, 1) := by decide +kernel
theorem dX12_slate_44 : decode cX12_slate 44 = .ok (.getfield 20, 3) := by decide +kernel
theorem dX12_slate_47 : decode cX12_slate 47 = .ok (.iload_n 1, 1) := by decide +kernel
theorem dX12_slate_48 : decode cX12_slate 48 = .ok (.bipush 12, 2) := by decide +kernel
theorem dX12_slate_50 : decode cX12_slate 50 = .ok (.iload_n 2, 1) := by decide +kernel
theorem dX12_slate_51 : decode cX12_slate 51 = .ok (.imul, 1) := by decide +kernel
theorem dX12_slate_52 : decode cX12_slate 52 = .ok (.iload_n 3, 1) := by decide +kernel
theorem dX12_slate_53 : decode cX12_slate 53 = .ok (.iadd, 1) := by decide +kernel
theorem dX12_slate_54 : decode cX12_slate 54 = .ok (.iastore, 1) := by decide +kernel
theorem dX12_slate_55 : decode cX12_slate 55 = .ok (.aload_n 0, 1) := by decide +kernel
theorem dX12_slate_56 : decode cX12_slate 56 = .ok (.getfield 23, 3) := by decide +kernel
theorem dX12_slate_59 : decode cX12_slate 59 = .ok (.iload_n 1, 1) := by decide +kernel
theorem dX12_slate_60 : decode cX12_slate 60 = .ok (.iload 4, 2) := by decide +kernel
theorem dX12_slate_62 : decode cX12_slate 62 = .ok (.iastore, 1) := by decide +kernel
theorem dX12_slate_63 : decode cX12_slate 63 = .ok (.aload_n 0, 1) := by decide +kernel
theorem dX12_slate_64 : decode cX12_slate 64 = .ok (.getfield 26, 3) := by decide +kernel
theorem dX12_slate_67 : decode cX12_slate 67 = .ok (.iload_n 1, 1) := by decide +kernel
theorem dX12_slate_68 : decode cX12_slate 68 = .ok (.iload 5, 2) := by decide +kernel
theorem dX12_slate_70 : decode cX12_slate 70 = .ok (.iastore, 1) := by decide +kernel
theorem dX12_slate_71 : decode cX12_slate 71 = .ok (.aload_n 0, 1) := by decide +kernel
theorem dX12_slate_72 : decode cX12_slate 72 = .ok (.aload_n 0, 1) := by decide +kernel
theorem dX12_slate_73 : decode cX12_slate 73 = .ok (.getfield 219, 3) := by decide +kernel
theorem dX12_slate_76 : decode cX12_slate 76 = .ok (.iconst 1, 1) := by decide +kernel
theorem dX12_slate_77 : decode cX12_slate 77 = .ok (.iload_n 1, 1) := by decide +kernel
theorem dX12_slate_78 : decode cX12_slate 78 = .ok (.ishl, 1) := by decide +kernel
theorem dX12_slate_79 : decode cX12_slate 79 = .ok (.iconst (-1), 1) := by decide +kernel
theorem dX12_slate_80 : decode cX12_slate 80 = .ok (.ixor, 1) := by decide +kernel
theorem dX12_slate_81 : decode cX12_slate 81 = .ok (.iand, 1) := by decide +kernel
theorem dX12_slate_82 : decode cX12_slate 82 = .ok (.putfield 219, 3) := by decide +kernel
theorem dX12_slate_85 : decode cX12_slate 85 = .ok (.iconst 1, 1) := by decide +kernel
theorem dX12_slate_86 : decode cX12_slate 86 = .ok (.ireturn, 1) := by decide +kernel
def fn_X12_slate (v1 : Int32) (v2 : Int32) (v3 : Int32) (v4 : Int32) (v5 : Int32) (μ : ro_Mem) : Option (Int32 × ro_Mem) :=
  (fn_X12_in v1 0 15).bind fun q1 =>
  if q1 = 0 then
  (some (0, μ))
  else
  ((fn_X12_isPlace v2 v3).bind fun q4 =>
  if q4 = 0 then
  (some (0, μ))
  else
  ((fn_X12_in v4 0 47).bind fun q7 =>
  if q7 = 0 then
  (some (0, μ))
  else
  ((fn_X12_in v5 v4 47).bind fun q10 =>
  if q10 = 0 then
  (some (0, μ))
  else
  (if ro_in v1 16 then
  (ro_lt (ro_set μ 211 v1.toNatClampNeg ((12 * v2) + v3)) fun m14 =>
  ro_lt (ro_set m14 212 v1.toNatClampNeg v4) fun m16 =>
  ro_lt (ro_set m16 213 v1.toNatClampNeg v5) fun m18 =>
  ro_lt (ro_set m18 207 1 ((m18 207 1) &&& (((1 : Int32) <<< (v1 &&& 31)) ^^^ (-1)))) fun m20 =>
  some (1, m20)) else none))))
theorem be_X12_slate {K : ro_K} (hK : ro_C K RX12 cX12_slate 6 1) (hR : ro_R K (some .boolean)) {v1 : Int32} {v2 : Int32} {v3 : Int32} {v4 : Int32} {v5 : Int32}  {μ : ro_Mem} {out : Int32 × ro_Mem} (hf : fn_X12_slate v1 v2 v3 v4 v5 μ = some out) (hq : kQ K (some (.int out.1)) out.2) : ro_X K 0 [(0, .ref (ro_ad (kG K) 207)), (1, .int v1), (2, .int v2), (3, .int v3), (4, .int v4), (5, .int v5)] [] μ := by
  unfold fn_X12_slate at hf
  refine ro_iload_n hK 1 rfl dX12_slate_0 rfl ?_
  refine ro_iconst (v := 0) hK dX12_slate_1 (by decide) ?_
  refine ro_bipush (v := 15) hK dX12_slate_2 (by decide) ?_
  obtain ⟨q1, e2, hf⟩ := ro_bd hf
  refine ro_callsi hK [.int v1, .int 0, .int 15] ml_X12_215 ms_X12_in (mt_X12_in (kl K) (kG K)  e2) (by decide) rfl rfl (Nat.le_of_ble_eq_true rfl) dX12_slate_4 ?_
  refine ro_if_eq hK 41 dX12_slate_7 (by decide) (fun c3 => ?_) (fun c3 => ?_)
  · have hf := ro_it hf c3
    refine ro_iconst (v := 0) hK dX12_slate_41 (by decide) ?_
    obtain rfl := Option.some.inj hf
    exact ro_zret hK hR dX12_slate_42 (by decide) hq
  · have hf := ro_ie hf c3
    refine ro_iload_n hK 2 rfl dX12_slate_10 rfl ?_
    refine ro_iload_n hK 3 rfl dX12_slate_11 rfl ?_
    obtain ⟨q4, e5, hf⟩ := ro_bd hf
    refine ro_callsi hK [.int v2, .int v3] ml_X12_211 ms_X12_isPlace (mt_X12_isPlace (kl K) (kG K)  e5) (by decide) rfl rfl (Nat.le_of_ble_eq_true rfl) dX12_slate_12 ?_
    refine ro_if_eq hK 41 dX12_slate_15 (by decide) (fun c6 => ?_) (fun c6 => ?_)
    · have hf := ro_it hf c6
      refine ro_iconst (v := 0) hK dX12_slate_41 (by decide) ?_
      obtain rfl := Option.some.inj hf
      exact ro_zret hK hR dX12_slate_42 (by decide) hq
    · have hf := ro_ie hf c6
      refine ro_iload hK 4 rfl dX12_slate_18 ?_
      refine ro_iconst (v := 0) hK dX12_slate_20 (by decide) ?_
      refine ro_bipush (v := 47) hK dX12_slate_21 (by decide) ?_
      obtain ⟨q7, e8, hf⟩ := ro_bd hf
      refine ro_callsi hK [.int v4, .int 0, .int 47] ml_X12_215 ms_X12_in (mt_X12_in (kl K) (kG K)  e8) (by decide) rfl rfl (Nat.le_of_ble_eq_true rfl) dX12_slate_23 ?_
      refine ro_if_eq hK 41 dX12_slate_26 (by decide) (fun c9 => ?_) (fun c9 => ?_)
      · have hf := ro_it hf c9
        refine ro_iconst (v := 0) hK dX12_slate_41 (by decide) ?_
        obtain rfl := Option.some.inj hf
        exact ro_zret hK hR dX12_slate_42 (by decide) hq
      · have hf := ro_ie hf c9
        refine ro_iload hK 5 rfl dX12_slate_29 ?_
        refine ro_iload hK 4 rfl dX12_slate_31 ?_
        refine ro_bipush (v := 47) hK dX12_slate_33 (by decide) ?_
        obtain ⟨q10, e11, hf⟩ := ro_bd hf
        refine ro_callsi hK [.int v5, .int v4, .int 47] ml_X12_215 ms_X12_in (mt_X12_in (kl K) (kG K)  e11) (by decide) rfl rfl (Nat.le_of_ble_eq_true rfl) dX12_slate_35 ?_
        refine ro_if_ne hK 43 dX12_slate_38 (by decide) (fun c12 => ?_) (fun c12 => ?_)
        · have hf := ro_ie hf c12
          refine ro_aload_n hK 0 rfl dX12_slate_43 rfl ?_
          refine ro_getr hK fl_X12_20 sh_207 dX12_slate_44 ?_
          refine ro_iload_n hK 1 rfl dX12_slate_47 rfl ?_
          refine ro_bipush (v := 12) hK dX12_slate_48 (by decide) ?_
          refine ro_iload_n hK 2 rfl dX12_slate_50 rfl ?_
          refine ro_imul hK dX12_slate_51 ?_
          refine ro_iload_n hK 3 rfl dX12_slate_52 rfl ?_
          refine ro_iadd hK dX12_slate_53 ?_
          obtain ⟨g13, hf⟩ := ro_gd hf
          obtain ⟨m14, e15, hf⟩ := ro_ld hf
          refine ro_iast hK sh_211 g13 dX12_slate_54 ?_
          refine ro_mv e15 ?_
          refine ro_aload_n hK 0 rfl dX12_slate_55 rfl ?_
          refine ro_getr hK fl_X12_23 sh_207 dX12_slate_56 ?_
          refine ro_iload_n hK 1 rfl dX12_slate_59 rfl ?_
          refine ro_iload hK 4 rfl dX12_slate_60 ?_
          obtain ⟨m16, e17, hf⟩ := ro_ld hf
          refine ro_iast hK sh_212 g13 dX12_slate_62 ?_
          refine ro_mv e17 ?_
          refine ro_aload_n hK 0 rfl dX12_slate_63 rfl ?_
          refine ro_getr hK fl_X12_26 sh_207 dX12_slate_64 ?_
          refine ro_iload_n hK 1 rfl dX12_slate_67 rfl ?_
          refine ro_iload hK 5 rfl dX12_slate_68 ?_
          obtain ⟨m18, e19, hf⟩ := ro_ld hf
          refine ro_iast hK sh_213 g13 dX12_slate_70 ?_
          refine ro_mv e19 ?_
          refine ro_aload_n hK 0 rfl dX12_slate_71 rfl ?_
          refine ro_aload_n hK 0 rfl dX12_slate_72 rfl ?_
          refine ro_geti hK fl_X12_219 sh_207 dX12_slate_73 ?_
          refine ro_iconst (v := 1) hK dX12_slate_76 (by decide) ?_
          refine ro_iload_n hK 1 rfl dX12_slate_77 rfl ?_
          refine ro_ishl hK dX12_slate_78 ?_
          refine ro_iconst (v := (-1)) hK dX12_slate_79 (by decide) ?_
          refine ro_ixor hK dX12_slate_80 ?_
          refine ro_iand hK dX12_slate_81 ?_
          obtain ⟨m20, e21, hf⟩ := ro_ld hf
          refine ro_puti hK fl_X12_219 sh_207 rfl rfl dX12_slate_82 ?_
          refine ro_mv e21 ?_
          refine ro_iconst (v := 1) hK dX12_slate_85 (by decide) ?_
          obtain rfl := Option.some.inj hf
          exact ro_zret hK hR dX12_slate_86 (by decide) hq
        · have hf := ro_it hf c12
          refine ro_iconst (v := 0) hK dX12_slate_41 (by decide) ?_
          obtain rfl := Option.some.inj hf
          exact ro_zret hK hR dX12_slate_42 (by decide) hq
theorem mt_X12_slate (l : Launch) (G : ro_G) {v1 : Int32} {v2 : Int32} {v3 : Int32} {v4 : Int32} {v5 : Int32}  {μ : ro_Mem} {out : Int32 × ro_Mem} (hf : fn_X12_slate v1 v2 v3 v4 v5 μ = some out) : ro_MX l G yX12_slate cX12_slate 6 (some .boolean) 1 [.ref (ro_ad G 207), .int v1, .int v2, .int v3, .int v4, .int v5] μ (some (.int out.1)) out.2 := by
  refine ro_MX.of (by decide +kernel) (Nat.le_of_ble_eq_true rfl) (fun K hG hl hq hK hR => ?_)
  subst hG
  exact be_X12_slate hK hR  hf hq
-- ===== X12_nail =====
theorem dX12_nail_0 : decode cX12_nail 0 = .ok (.aload_n 0, 1) := by decide +kernel
theorem dX12_nail_1 : decode cX12_nail 1 = .ok (.iload_n 1, 1) := by decide +kernel
theorem dX12_nail_2 : decode cX12_nail 2 = .ok (.invokevirtual 222, 3) := by decide +kernel
theorem dX12_nail_5 : decode cX12_nail 5 = .ok (.ifCond .eq 15, 3) := by decide +kernel
theorem dX12_nail_8 : decode cX12_nail 8 = .ok (.aload_n 0, 1) := by decide +kernel
theorem dX12_nail_9 : decode cX12_nail 9 = .ok (.getfield 219, 3) := by decide +kernel
theorem dX12_nail_12 : decode cX12_nail 12 = .ok (.iload_n 1, 1) := by decide +kernel
theorem dX12_nail_13 : decode cX12_nail 13 = .ok (.invokestatic 226, 3) := by decide +kernel
theorem dX12_nail_16 : decode cX12_nail 16 = .ok (.iload_n 2, 1) := by decide +kernel
theorem dX12_nail_17 : decode cX12_nail 17 = .ok (.if_icmp .ne 5, 3) := by decide +kernel
theorem dX12_nail_20 : decode cX12_nail 20 = .ok (.iconst 0, 1) := by decide +kernel
theorem dX12_nail_21 : decode cX12_nail 21 = .ok (.ireturn, 1) := by decide +kernel
theorem dX12_nail_22 : decode cX12_nail 22 = .ok (.aload_n 0, 1) := by decide +kernel
theorem dX12_nail_23 : decode cX12_nail 23 = .ok (.aload_n 0, 1) := by decide +kernel
theorem dX12_nail_24 : decode cX12_nail 24 = .ok (.getfield 219, 3) := by decide +kernel
theorem dX12_nail_27 : decode cX12_nail 27 = .ok (.iconst 1, 1) := by decide +kernel
theorem dX12_nail_28 : decode cX12_nail 28 = .ok (.iload_n 1, 1) := by decide +kernel
theorem dX12_nail_29 : decode cX12_nail 29 = .ok (.ishl, 1) := by decide +kernel
theorem dX12_nail_30 : decode cX12_nail 30 = .ok (.ixor, 1) := by decide +kernel
theorem dX12_nail_31 : decode cX12_nail 31 = .ok (.putfield 219, 3) := by decide +kernel
theorem dX12_nail_34 : decode cX12_nail 34 = .ok (.iconst 1, 1) := by decide +kernel
theorem dX12_nail_35 : decode cX12_nail 35 = .ok (.ireturn, 1) := by decide +kernel
def fn_X12_nail (v1 : Int32) (v2 : Int32) (μ : ro_Mem) : Option (Int32 × ro_Mem) :=
  (fn_X12_isSlate v1 μ).bind fun q1 =>
  if q1 = 0 then
  (some (0, μ))
  else
  ((fn_X12_has (μ 207 1) v1).bind fun q4 =>
  if q4 = v2 then
  (some (0, μ))
  else
  (ro_lt (ro_set μ 207 1 ((μ 207 1) ^^^ ((1 : Int32) <<< (v1 &&& 31)))) fun m7 =>
  some (1, m7)))
theorem be_X12_nail {K : ro_K} (hK : ro_C K RX12 cX12_nail 3 1) (hR : ro_R K (some .boolean)) {v1 : Int32} {v2 : Int32}  {μ : ro_Mem} {out : Int32 × ro_Mem} (hf : fn_X12_nail v1 v2 μ = some out) (hq : kQ K (some (.int out.1)) out.2) : ro_X K 0 [(0, .ref (ro_ad (kG K) 207)), (1, .int v1), (2, .int v2)] [] μ := by
  unfold fn_X12_nail at hf
  refine ro_aload_n hK 0 rfl dX12_nail_0 rfl ?_
  refine ro_iload_n hK 1 rfl dX12_nail_1 rfl ?_
  obtain ⟨q1, e2, hf⟩ := ro_bd hf
  refine ro_callvi hK [.int v1] ml_X12_222 mv_X12_isSlate (mt_X12_isSlate (kl K) (kG K)  e2) sh_207 ⟨_, rfl, rfl⟩ (by decide) rfl rfl (Nat.le_of_ble_eq_true rfl) dX12_nail_2 ?_
  refine ro_if_eq hK 20 dX12_nail_5 (by decide) (fun c3 => ?_) (fun c3 => ?_)
  · have hf := ro_it hf c3
    refine ro_iconst (v := 0) hK dX12_nail_20 (by decide) ?_
    obtain rfl := Option.some.inj hf
    exact ro_zret hK hR dX12_nail_21 (by decide) hq
  · have hf := ro_ie hf c3
    refine ro_aload_n hK 0 rfl dX12_nail_8 rfl ?_
    refine ro_geti hK fl_X12_219 sh_207 dX12_nail_9 ?_
    refine ro_iload_n hK 1 rfl dX12_nail_12 rfl ?_
    obtain ⟨q4, e5, hf⟩ := ro_bd hf
    refine ro_callsi hK [.int (μ 207 1), .int v1] ml_X12_226 ms_X12_has (mt_X12_has (kl K) (kG K)  e5) (by decide) rfl rfl (Nat.le_of_ble_eq_true rfl) dX12_nail_13 ?_
    refine ro_iload_n hK 2 rfl dX12_nail_16 rfl ?_
    refine ro_icmp_ne hK 22 dX12_nail_17 (by decide) (fun c6 => ?_) (fun c6 => ?_)
    · have hf := ro_ie hf c6
      refine ro_aload_n hK 0 rfl dX12_nail_22 rfl ?_
      refine ro_aload_n hK 0 rfl dX12_nail_23 rfl ?_
      refine ro_geti hK fl_X12_219 sh_207 dX12_nail_24 ?_
      refine ro_iconst (v := 1) hK dX12_nail_27 (by decide) ?_
      refine ro_iload_n hK 1 rfl dX12_nail_28 rfl ?_
      refine ro_ishl hK dX12_nail_29 ?_
      refine ro_ixor hK dX12_nail_30 ?_
      obtain ⟨m7, e8, hf⟩ := ro_ld hf
      refine ro_puti hK fl_X12_219 sh_207 rfl rfl dX12_nail_31 ?_
      refine ro_mv e8 ?_
      refine ro_iconst (v := 1) hK dX12_nail_34 (by decide) ?_
      obtain rfl := Option.some.inj hf
      exact ro_zret hK hR dX12_nail_35 (by decide) hq
    · have hf := ro_it hf c6
      refine ro_iconst (v := 0) hK dX12_nail_20 (by decide) ?_
      obtain rfl := Option.some.inj hf
      exact ro_zret hK hR dX12_nail_21 (by decide) hq
theorem mt_X12_nail (l : Launch) (G : ro_G) {v1 : Int32} {v2 : Int32}  {μ : ro_Mem} {out : Int32 × ro_Mem} (hf : fn_X12_nail v1 v2 μ = some out) : ro_MX l G yX12_nail cX12_nail 3 (some .boolean) 1 [.ref (ro_ad G 207), .int v1, .int v2] μ (some (.int out.1)) out.2 := by
  refine ro_MX.of (by decide +kernel) (Nat.le_of_ble_eq_true rfl) (fun K hG hl hq hK hR => ?_)
  subst hG
  exact be_X12_nail hK hR  hf hq
-- ===== X12_rain =====
theorem dX12_rain_0 : decode cX12_rain 0 = .ok (.iload_n 1, 1) := by decide +kernel
theorem dX12_rain_1 : decode cX12_rain 1 = .ok (.invokestatic 229, 3) := by decide +kernel
theorem dX12_rain_4 : decode cX12_rain 4 = .ok (.ifCond .eq 13, 3) := by decide +kernel
theorem dX12_rain_7 : decode cX12_rain 7 = .ok (.iload_n 2, 1) := by decide +kernel
theorem dX12_rain_8 : decode cX12_rain 8 = .ok (.iconst 0, 1) := by decide +kernel
theorem dX12_rain_9 : decode cX12_rain 9 = .ok (.bipush 9, 2) := by decide +kernel
theorem dX12_rain_11 : decode cX12_rain 11 = .ok (.invokestatic 215, 3) := by decide +kernel
theorem dX12_rain_14 : decode cX12_rain 14 = .ok (.ifCond .ne 5, 3) := by decide +kernel
theorem dX12_rain_17 : decode cX12_rain 17 = .ok (.iconst 0, 1) := by decide +kernel
theorem dX12_rain_18 : decode cX12_rain 18 = .ok (.ireturn, 1) := by decide +kernel
theorem dX12_rain_19 : decode cX12_rain 19 = .ok (.aload_n 0, 1) := by decide +kernel
theorem dX12_rain_20 : decode cX12_rain 20 = .ok (.getfield 29, 3) := by decide +kernel
theorem dX12_rain_23 : decode cX12_rain 23 = .ok (.iload_n 1, 1) := by decide +kernel
theorem dX12_rain_24 : decode cX12_rain 24 = .ok (.iload_n 2, 1) := by decide +kernel
theorem dX12_rain_25 : decode cX12_rain 25 = .ok (.iastore, 1) := by decide +kernel
theorem dX12_rain_26 : decode cX12_rain 26 = .ok (.iconst 1, 1) := by decide +kernel
theorem dX12_rain_27 : decode cX12_rain 27 = .ok (.ireturn, 1) := by decide +kernel
def fn_X12_rain (v1 : Int32) (v2 : Int32) (μ : ro_Mem) : Option (Int32 × ro_Mem) :=
  (fn_X12_isAct v1).bind fun q1 =>
  if q1 = 0 then
  (some (0, μ))
  else
  ((fn_X12_in v2 0 9).bind fun q4 =>
  if q4 = 0 then
  (some (0, μ))
  else
  (if ro_in v1 4 then
  (ro_lt (ro_set μ 214 v1.toNatClampNeg v2) fun m8 =>
  some (1, m8)) else none))
theorem be_X12_rain {K : ro_K} (hK : ro_C K RX12 cX12_rain 3 1) (hR : ro_R K (some .boolean)) {v1 : Int32} {v2 : Int32}  {μ : ro_Mem} {out : Int32 × ro_Mem} (hf : fn_X12_rain v1 v2 μ = some out) (hq : kQ K (some (.int out.1)) out.2) : ro_X K 0 [(0, .ref (ro_ad (kG K) 207)), (1, .int v1), (2, .int v2)] [] μ := by
  unfold fn_X12_rain at hf
  refine ro_iload_n hK 1 rfl dX12_rain_0 rfl ?_
  obtain ⟨q1, e2, hf⟩ := ro_bd hf
  refine ro_callsi hK [.int v1] ml_X12_229 ms_X12_isAct (mt_X12_isAct (kl K) (kG K)  e2) (by decide) rfl rfl (Nat.le_of_ble_eq_true rfl) dX12_rain_1 ?_
  refine ro_if_eq hK 17 dX12_rain_4 (by decide) (fun c3 => ?_) (fun c3 => ?_)
  · have hf := ro_it hf c3
    refine ro_iconst (v := 0) hK dX12_rain_17 (by decide) ?_
    obtain rfl := Option.some.inj hf
    exact ro_zret hK hR dX12_rain_18 (by decide) hq
  · have hf := ro_ie hf c3
    refine ro_iload_n hK 2 rfl dX12_rain_7 rfl ?_
    refine ro_iconst (v := 0) hK dX12_rain_8 (by decide) ?_
    refine ro_bipush (v := 9) hK dX12_rain_9 (by decide) ?_
    obtain ⟨q4, e5, hf⟩ := ro_bd hf
    refine ro_callsi hK [.int v2, .int 0, .int 9] ml_X12_215 ms_X12_in (mt_X12_in (kl K) (kG K)  e5) (by decide) rfl rfl (Nat.le_of_ble_eq_true rfl) dX12_rain_11 ?_
    refine ro_if_ne hK 19 dX12_rain_14 (by decide) (fun c6 => ?_) (fun c6 => ?_)
    · have hf := ro_ie hf c6
      refine ro_aload_n hK 0 rfl dX12_rain_19 rfl ?_
      refine ro_getr hK fl_X12_29 sh_207 dX12_rain_20 ?_
      refine ro_iload_n hK 1 rfl dX12_rain_23 rfl ?_
      refine ro_iload_n hK 2 rfl dX12_rain_24 rfl ?_
      obtain ⟨g7, hf⟩ := ro_gd hf
      obtain ⟨m8, e9, hf⟩ := ro_ld hf
      refine ro_iast hK sh_214 g7 dX12_rain_25 ?_
      refine ro_mv e9 ?_
      refine ro_iconst (v := 1) hK dX12_rain_26 (by decide) ?_
      obtain rfl := Option.some.inj hf
      exact ro_zret hK hR dX12_rain_27 (by decide) hq
    · have hf := ro_it hf c6
      refine ro_iconst (v := 0) hK dX12_rain_17 (by decide) ?_
      obtain rfl := Option.some.inj hf
      exact ro_zret hK hR dX12_rain_18 (by decide) hq
theorem mt_X12_rain (l : Launch) (G : ro_G) {v1 : Int32} {v2 : Int32}  {μ : ro_Mem} {out : Int32 × ro_Mem} (hf : fn_X12_rain v1 v2 μ = some out) : ro_MX l G yX12_rain cX12_rain 3 (some .boolean) 1 [.ref (ro_ad G 207), .int v1, .int v2] μ (some (.int out.1)) out.2 := by
  refine ro_MX.of (by decide +kernel) (Nat.le_of_ble_eq_true rfl) (fun K hG hl hq hK hR => ?_)
  subst hG
  exact be_X12_rain hK hR  hf hq
-- ===== X12_isGuest =====
theorem dX12_isGuest_0 : decode cX12_isGuest 0 = .ok (.iload_n 1, 1) := by decide +kernel
theorem dX12_isGuest_1 : decode cX12_isGuest 1 = .ok (.ifCond .lt 24, 3) := by decide +kernel
theorem dX12_isGuest_4 : decode cX12_isGuest 4 = .ok (.iload_n 1, 1) := by decide +kernel
theorem dX12_isGuest_5 : decode cX12_isGuest 5 = .ok (.bipush 10, 2) := by decide +kernel
theorem dX12_isGuest_7 : decode cX12_isGuest 7 = .ok (.if_icmp .ge 18, 3) := by decide +kernel
theorem dX12_isGuest_10 : decode cX12_isGuest 10 = .ok (.aload_n 0, 1) := by decide +kernel
theorem dX12_isGuest_11 : decode cX12_isGuest 11 = .ok (.getfield 232, 3) := by decide +kernel
theorem dX12_isGuest_14 : decode cX12_isGuest 14 = .ok (.iload_n 1, 1) := by decide +kernel
theorem dX12_isGuest_15 : decode cX12_isGuest 15 = .ok (.invokestatic 226, 3) := by decide +kernel
theorem dX12_isGuest_18 : decode cX12_isGuest 18 = .ok (.ifCond .eq 7, 3) := by decide +kernel
theorem dX12_isGuest_21 : decode cX12_isGuest 21 = .ok (.iconst 1, 1) := by decide +kernel
theorem dX12_isGuest_22 : decode cX12_isGuest 22 = .ok (.goto 4, 3) := by decide +kernel
theorem dX12_isGuest_25 : decode cX12_isGuest 25 = .ok (.iconst 0, 1) := by decide +kernel
theorem dX12_isGuest_26 : decode cX12_isGuest 26 = .ok (.ireturn, 1) := by decide +kernel
def fn_X12_isGuest (v1 : Int32) (μ : ro_Mem) : Option Int32 :=
  if v1 < 0 then
  (some 0)
  else
  (if 10 ≤ v1 then
  (some 0)
  else
  ((fn_X12_has (μ 207 2) v1).bind fun q3 =>
  if q3 = 0 then
  (some 0)
  else
  (some 1)))
theorem be_X12_isGuest {K : ro_K} (hK : ro_C K RX12 cX12_isGuest 2 1) (hR : ro_R K (some .boolean)) {v1 : Int32}  {μ : ro_Mem} {out : Int32} (hf : fn_X12_isGuest v1 μ = some out) (hq : kQ K (some (.int out)) μ) : ro_X K 0 [(0, .ref (ro_ad (kG K) 207)), (1, .int v1)] [] μ := by
  unfold fn_X12_isGuest at hf
  refine ro_iload_n hK 1 rfl dX12_isGuest_0 rfl ?_
  refine ro_if_lt hK 25 dX12_isGuest_1 (by decide) (fun c1 => ?_) (fun c1 => ?_)
  · have hf := ro_it hf c1
    refine ro_iconst (v := 0) hK dX12_isGuest_25 (by decide) ?_
    obtain rfl := Option.some.inj hf
    exact ro_zret hK hR dX12_isGuest_26 (by decide) hq
  · have hf := ro_ie hf c1
    refine ro_iload_n hK 1 rfl dX12_isGuest_4 rfl ?_
    refine ro_bipush (v := 10) hK dX12_isGuest_5 (by decide) ?_
    refine ro_icmp_ge hK 25 dX12_isGuest_7 (by decide) (fun c2 => ?_) (fun c2 => ?_)
    · have hf := ro_it hf c2
      refine ro_iconst (v := 0) hK dX12_isGuest_25 (by decide) ?_
      obtain rfl := Option.some.inj hf
      exact ro_zret hK hR dX12_isGuest_26 (by decide) hq
    · have hf := ro_ie hf c2
      refine ro_aload_n hK 0 rfl dX12_isGuest_10 rfl ?_
      refine ro_geti hK fl_X12_232 sh_207 dX12_isGuest_11 ?_
      refine ro_iload_n hK 1 rfl dX12_isGuest_14 rfl ?_
      obtain ⟨q3, e4, hf⟩ := ro_bd hf
      refine ro_callsi hK [.int (μ 207 2), .int v1] ml_X12_226 ms_X12_has (mt_X12_has (kl K) (kG K)  e4) (by decide) rfl rfl (Nat.le_of_ble_eq_true rfl) dX12_isGuest_15 ?_
      refine ro_if_eq hK 25 dX12_isGuest_18 (by decide) (fun c5 => ?_) (fun c5 => ?_)
      · have hf := ro_it hf c5
        refine ro_iconst (v := 0) hK dX12_isGuest_25 (by decide) ?_
        obtain rfl := Option.some.inj hf
        exact ro_zret hK hR dX12_isGuest_26 (by decide) hq
      · have hf := ro_ie hf c5
        refine ro_iconst (v := 1) hK dX12_isGuest_21 (by decide) ?_
        refine ro_goto hK 26 dX12_isGuest_22 (by decide) ?_
        obtain rfl := Option.some.inj hf
        exact ro_zret hK hR dX12_isGuest_26 (by decide) hq
theorem mt_X12_isGuest (l : Launch) (G : ro_G) {v1 : Int32}  {μ : ro_Mem} {out : Int32} (hf : fn_X12_isGuest v1 μ = some out) : ro_MX l G yX12_isGuest cX12_isGuest 2 (some .boolean) 1 [.ref (ro_ad G 207), .int v1] μ (some (.int out)) μ := by
  refine ro_MX.of (by decide +kernel) (Nat.le_of_ble_eq_true rfl) (fun K hG hl hq hK hR => ?_)
  subst hG
  exact be_X12_isGuest hK hR  hf hq
-- ===== X12_guest =====
theorem dX12_guest_0 : decode cX12_guest 0 = .ok (.iload_n 1, 1) := by decide +kernel
theorem dX12_guest_1 : decode cX12_guest 1 = .ok (.iconst 0, 1) := by decide +kernel
theorem dX12_guest_2 : decode cX12_guest 2 = .ok (.bipush 9, 2) := by decide +kernel
theorem dX12_guest_4 : decode cX12_guest 4 = .ok (.invokestatic 215, 3) := by decide +kernel
theorem dX12_guest_7 : decode cX12_guest 7 = .ok (.ifCond .eq 13, 3) := by decide +kernel
theorem dX12_guest_10 : decode cX12_guest 10 = .ok (.iload_n 2, 1) := by decide +kernel
theorem dX12_guest_11 : decode cX12_guest 11 = .ok (.iconst 1, 1) := by decide +kernel
theorem dX12_guest_12 : decode cX12_guest 12 = .ok (.bipush 99, 2) := by decide +kernel
theorem dX12_guest_14 : decode cX12_guest 14 = .ok (.invokestatic 215, 3) := by decide +kernel
theorem dX12_guest_17 : decode cX12_guest 17 = .ok (.ifCond .ne 5, 3) := by decide +kernel
theorem dX12_guest_20 : decode cX12_guest 20 = .ok (.iconst 0, 1) := by decide +kernel
theorem dX12_guest_21 : decode cX12_guest 21 = .ok (.ireturn, 1) := by decide +kernel
theorem dX12_guest_22 : decode cX12_guest 22 = .ok (.aload_n 0, 1) := by decide +kernel
theorem dX12_guest_23 : decode cX12_guest 23 = .ok (.aload_n 0, 1) := by decide +kernel
theorem dX12_guest_24 : decode cX12_guest 24 = .ok (.getfield 232, 3) := by decide +kernel
theorem dX12_guest_27 : decode cX12_guest 27 = .ok (.iconst 1, 1) := by decide +kernel
theorem dX12_guest_28 : decode cX12_guest 28 = .ok (.iload_n 1, 1) := by decide +kernel
theorem dX12_guest_29 : decode cX12_guest 29 = .ok (.ishl, 1) := by decide +kernel
theorem dX12_guest_30 : decode cX12_guest 30 = .ok (.ior, 1) := by decide +kernel
theorem dX12_guest_31 : decode cX12_guest 31 = .ok (.putfield 232, 3) := by decide +kernel
theorem dX12_guest_34 : decode cX12_guest 34 = .ok (.aload_n 0, 1) := by decide +kernel
theorem dX12_guest_35 : decode cX12_guest 35 = .ok (.getfield 32, 3) := by decide +kernel
theorem dX12_guest_38 : decode cX12_guest 38 = .ok (.iload_n 1, 1) := by decide +kernel
theorem dX12_guest_39 : decode cX12_guest 39 = .ok (.iload_n 2, 1) := by decide +kernel
theorem dX12_guest_40 : decode cX12_guest 40 = .ok (.iastore, 1) := by decide +kernel
theorem dX12_guest_41 : decode cX12_guest 41 = .ok (.iconst 0, 1) := by decide +kernel
theorem dX12_guest_42 : decode cX12_guest 42 = .ok (.istore_n 3, 1) := by decide +kernel
theorem dX12_guest_43 : decode cX12_guest 43 = .ok (.iload_n 3, 1) := by decide +kernel
theorem dX12_guest_44 : decode cX12_guest 44 = .ok (.iconst 4, 1) := by decide +kernel
theorem dX12_guest_45 : decode cX12_guest 45 = .ok (.if_icmp .ge 23, 3) := by decide +kernel
theorem dX12_guest_48 : decode cX12_guest 48 = .ok (.aload_n 0, 1) := by decide +kernel
theorem dX12_guest_49 : decode cX12_guest 49 = .ok (.getfield 35, 3) := by decide +kernel
theorem dX12_guest_52 : decode cX12_guest 52 = .ok (.bipush 10, 2) := by decide +kernel
theorem dX12_guest_54 : decode cX12_guest 54 = .ok (.iload_n 3, 1) := by decide +kernel
theorem dX12_guest_55 : decode cX12_guest 55 = .ok (.imul, 1) := by decide +kernel
theorem dX12_guest_56 : decode cX12_guest 56 = .ok (.iload_n 1, 1) := by decide +kernel
theorem dX12_guest_57 : decode cX12_guest 57 = .ok (.iadd, 1) := by decide +kernel
theorem dX12_guest_58 : decode cX12_guest 58 = .ok (.sipush 255, 3) := by decide +kernel
theorem dX12_guest_61 : decode cX12_guest 61 = .ok (.iastore, 1) := by decide +kernel
theorem dX12_guest_62 : decode cX12_guest 62 = .ok (.iinc 3 1, 3) := by decide +kernel
theorem dX12_guest_65 : decode cX12_guest 65 = .ok (.goto (-22), 3) := by decide +kernel
theorem dX12_guest_68 : decode cX12_guest 68 = .ok (.iconst 1, 1) := by decide +kernel
theorem dX12_guest_69 : decode cX12_guest 69 = .ok (.ireturn, 1) := by decide +kernel
def ok_X12_guest_43 (K : ro_K) (v1 : Int32) : ro_Mem → Prop := fun e => ro_X K 68 [] [] e
def fb_X12_guest_43 (v1 : Int32) (rec : (Int32 × ro_Mem) → Option ro_Mem) (v3 : Int32) (μ : ro_Mem) : Option ro_Mem :=
  if 4 ≤ v3 then
  (some μ)
  else
  (if ro_in ((10 * v3) + v1) 40 then
  (ro_lt (ro_set μ 216 ((10 * v3) + v1).toNatClampNeg 255) fun m14 =>
  rec (v3 + 1, m14)) else none)
theorem bb_X12_guest_43 {K : ro_K} (hK : ro_C K RX12 cX12_guest 4 1) (hR : ro_R K (some .boolean)) {v1 : Int32}  {μ : ro_Mem} {rec : (Int32 × ro_Mem) → Option ro_Mem} {v3 : Int32} {q : ro_Mem} (hrec : ∀ (s : Int32 × ro_Mem) (q : ro_Mem), rec s = some q → ok_X12_guest_43 K v1 q → ro_X K 43 [(0, .ref (ro_ad (kG K) 207)), (1, .int v1), (3, .int s.1)] [] s.2) (hf : fb_X12_guest_43 v1 rec v3 μ = some q) (hq : ok_X12_guest_43 K v1 q) : ro_X K 43 [(0, .ref (ro_ad (kG K) 207)), (1, .int v1), (3, .int v3)] [] μ := by
  unfold fb_X12_guest_43 at hf
  refine ro_iload_n hK 2 rfl dX12_guest_43 rfl ?_
  refine ro_iconst (v := 4) hK dX12_guest_44 (by decide) ?_
  refine ro_icmp_ge hK 68 dX12_guest_45 (by decide) (fun c12 => ?_) (fun c12 => ?_)
  · have hf := ro_it hf c12
    refine ro_sub (L' := []) [] rfl ?_
    obtain rfl := Option.some.inj hf
    exact hq
  · have hf := ro_ie hf c12
    refine ro_aload_n hK 0 rfl dX12_guest_48 rfl ?_
    refine ro_getr hK fl_X12_35 sh_207 dX12_guest_49 ?_
    refine ro_bipush (v := 10) hK dX12_guest_52 (by decide) ?_
    refine ro_iload_n hK 2 rfl dX12_guest_54 rfl ?_
    refine ro_imul hK dX12_guest_55 ?_
    refine ro_iload_n hK 1 rfl dX12_guest_56 rfl ?_
    refine ro_iadd hK dX12_guest_57 ?_
    refine ro_sipush (v := 255) hK dX12_guest_58 (by decide) ?_
    obtain ⟨g13, hf⟩ := ro_gd hf
    obtain ⟨m14, e15, hf⟩ := ro_ld hf
    refine ro_iast hK sh_216 g13 dX12_guest_61 ?_
    refine ro_mv e15 ?_
    refine ro_iinc (v := v3 + 1) (L' := [(3, .int (v3 + 1)), (0, .ref (ro_ad (kG K) 207)), (1, .int v1)]) hK 2 rfl dX12_guest_62 rfl (by decide) rfl ?_
    refine ro_goto hK 43 dX12_guest_65 (by decide) ?_
    refine ro_sub (L' := [(0, .ref (ro_ad (kG K) 207)), (1, .int v1), (3, .int (v3 + 1))]) [1, 2, 0] rfl ?_
    exact hrec (v3 + 1, m14) _ hf hq
def fl_X12_guest_43 (v1 : Int32) : (Int32 × ro_Mem) → Option ro_Mem :=
  ro_loop (fun rec s => fb_X12_guest_43 v1 rec s.1 s.2) ro_FU
theorem lp_X12_guest_43 {K : ro_K} (hK : ro_C K RX12 cX12_guest 4 1) (hR : ro_R K (some .boolean)) {v1 : Int32}  {s : Int32 × ro_Mem} {q : ro_Mem} (hf : fl_X12_guest_43 v1 s = some q) (hq : ok_X12_guest_43 K v1 q) : ro_X K 43 [(0, .ref (ro_ad (kG K) 207)), (1, .int v1), (3, .int s.1)] [] s.2 :=
  ro_loopX (b := fun rec s => fb_X12_guest_43 v1 rec s.1 s.2) (X := fun s => ro_X K 43 [(0, .ref (ro_ad (kG K) 207)), (1, .int v1), (3, .int s.1)] [] s.2) (OK := ok_X12_guest_43 K v1) (fun rec s q hrec hb ho => bb_X12_guest_43 hK hR  hrec hb ho) ro_FU s q hf hq
def fn_X12_guest (v1 : Int32) (v2 : Int32) (μ : ro_Mem) : Option (Int32 × ro_Mem) :=
  (fn_X12_in v1 0 9).bind fun q1 =>
  if q1 = 0 then
  (some (0, μ))
  else
  ((fn_X12_in v2 1 99).bind fun q4 =>
  if q4 = 0 then
  (some (0, μ))
  else
  (ro_lt (ro_set μ 207 2 ((μ 207 2) ||| ((1 : Int32) <<< (v1 &&& 31)))) fun m7 =>
  if ro_in v1 10 then
  (ro_lt (ro_set m7 215 v1.toNatClampNeg v2) fun m10 =>
  (fl_X12_guest_43 v1 (0, m10)).bind fun q16 =>
  some (1, q16)) else none))
theorem be_X12_guest {K : ro_K} (hK : ro_C K RX12 cX12_guest 4 1) (hR : ro_R K (some .boolean)) {v1 : Int32} {v2 : Int32}  {μ : ro_Mem} {out : Int32 × ro_Mem} (hf : fn_X12_guest v1 v2 μ = some out) (hq : kQ K (some (.int out.1)) out.2) : ro_X K 0 [(0, .ref (ro_ad (kG K) 207)), (1, .int v1), (2, .int v2)] [] μ := by
  unfold fn_X12_guest at hf
  refine ro_iload_n hK 1 rfl dX12_guest_0 rfl ?_
  refine ro_iconst (v := 0) hK dX12_guest_1 (by decide) ?_
  refine ro_bipush (v := 9) hK dX12_guest_2 (by decide) ?_
  obtain ⟨q1, e2, hf⟩ := ro_bd hf
  refine ro_callsi hK [.int v1, .int 0, .int 9] ml_X12_215 ms_X12_in (mt_X12_in (kl K) (kG K)  e2) (by decide) rfl rfl (Nat.le_of_ble_eq_true rfl) dX12_guest_4 ?_
  refine ro_if_eq hK 20 dX12_guest_7 (by decide) (fun c3 => ?_) (fun c3 => ?_)
  · have hf := ro_it hf c3
    refine ro_iconst (v := 0) hK dX12_guest_20 (by decide) ?_
    obtain rfl := Option.some.inj hf
    exact ro_zret hK hR dX12_guest_21 (by decide) hq
  · have hf := ro_ie hf c3
    refine ro_iload_n hK 2 rfl dX12_guest_10 rfl ?_
    refine ro_iconst (v := 1) hK dX12_guest_11 (by decide) ?_
    refine ro_bipush (v := 99) hK dX12_guest_12 (by decide) ?_
    obtain ⟨q4, e5, hf⟩ := ro_bd hf
    refine ro_callsi hK [.int v2, .int 1, .int 99] ml_X12_215 ms_X12_in (mt_X12_in (kl K) (kG K)  e5) (by decide) rfl rfl (Nat.le_of_ble_eq_true rfl) dX12_guest_14 ?_
    refine ro_if_ne hK 22 dX12_guest_17 (by decide) (fun c6 => ?_) (fun c6 => ?_)
    · have hf := ro_ie hf c6
      refine ro_aload_n hK 0 rfl dX12_guest_22 rfl ?_
      refine ro_aload_n hK 0 rfl dX12_guest_23 rfl ?_
      refine ro_geti hK fl_X12_232 sh_207 dX12_guest_24 ?_
      refine ro_iconst (v := 1) hK dX12_guest_27 (by decide) ?_
      refine ro_iload_n hK 1 rfl dX12_guest_28 rfl ?_
      refine ro_ishl hK dX12_guest_29 ?_
      refine ro_ior hK dX12_guest_30 ?_
      obtain ⟨m7, e8, hf⟩ := ro_ld hf
      refine ro_puti hK fl_X12_232 sh_207 rfl rfl dX12_guest_31 ?_
      refine ro_mv e8 ?_
      refine ro_aload_n hK 0 rfl dX12_guest_34 rfl ?_
      refine ro_getr hK fl_X12_32 sh_207 dX12_guest_35 ?_
      refine ro_iload_n hK 1 rfl dX12_guest_38 rfl ?_
      refine ro_iload_n hK 2 rfl dX12_guest_39 rfl ?_
      obtain ⟨g9, hf⟩ := ro_gd hf
      obtain ⟨m10, e11, hf⟩ := ro_ld hf
      refine ro_iast hK sh_215 g9 dX12_guest_40 ?_
      refine ro_mv e11 ?_
      refine ro_iconst (v := 0) hK dX12_guest_41 (by decide) ?_
      refine ro_istore_n (L' := [(3, .int 0), (0, .ref (ro_ad (kG K) 207)), (1, .int v1), (2, .int v2)]) hK dX12_guest_42 rfl (by decide) rfl ?_
      obtain ⟨q16, e17, hf⟩ := ro_bd hf
      refine ro_sub (L' := [(0, .ref (ro_ad (kG K) 207)), (1, .int v1), (3, .int 0)]) [1, 2, 0] rfl ?_
      refine lp_X12_guest_43 hK hR  e17 ?_
      show ro_X K 68 [] [] q16
      refine ro_iconst (v := 1) hK dX12_guest_68 (by decide) ?_
      obtain rfl := Option.some.inj hf
      exact ro_zret hK hR dX12_guest_69 (by decide) hq
    · have hf := ro_it hf c6
      refine ro_iconst (v := 0) hK dX12_guest_20 (by decide) ?_
      obtain rfl := Option.some.inj hf
      exact ro_zret hK hR dX12_guest_21 (by decide) hq
theorem mt_X12_guest (l : Launch) (G : ro_G) {v1 : Int32} {v2 : Int32}  {μ : ro_Mem} {out : Int32 × ro_Mem} (hf : fn_X12_guest v1 v2 μ = some out) : ro_MX l G yX12_guest cX12_guest 4 (some .boolean) 1 [.ref (ro_ad G 207), .int v1, .int v2] μ (some (.int out.1)) out.2 := by
  refine ro_MX.of (by decide +kernel) (Nat.le_of_ble_eq_true rfl) (fun K hG hl hq hK hR => ?_)
  subst hG
  exact be_X12_guest hK hR  hf hq
-- ===== X12_whoOn =====
theorem dX12_whoOn_0 : decode cX12_whoOn 0 = .ok (.iconst 0, 1) := by decide +kernel
theorem dX12_whoOn_1 : decode cX12_whoOn 1 = .ok (.istore_n 3, 1) := by decide +kernel
theorem dX12_whoOn_2 : decode cX12_whoOn 2 = .ok (.iload_n 3, 1) := by decide +kernel
theorem dX12_whoOn_3 : decode cX12_whoOn 3 = .ok (.bipush 10, 2) := by decide +kernel
theorem dX12_whoOn_5 : decode cX12_whoOn 5 = .ok (.if_icmp .ge 34, 3) := by decide +kernel
theorem dX12_whoOn_8 : decode cX12_whoOn 8 = .ok (.aload_n 0, 1) := by decide +kernel
theorem dX12_whoOn_9 : decode cX12_whoOn 9 = .ok (.iload_n 3, 1) := by decide +kernel
theorem dX12_whoOn_10 : decode cX12_whoOn 10 = .ok (.invokevirtual 235, 3) := by decide +kernel
theorem dX12_whoOn_13 : decode cX12_whoOn 13 = .ok (.ifCond .eq 20, 3) := by decide +kernel
theorem dX12_whoOn_16 : decode cX12_whoOn 16 = .ok (.aload_n 0, 1) := by decide +kernel
theorem dX12_whoOn_17 : decode cX12_whoOn 17 = .ok (.getfield 35, 3) := by decide +kernel
theorem dX12_whoOn_20 : decode cX12_whoOn 20 = .ok (.bipush 10, 2) := by decide +kernel
theorem dX12_whoOn_22 : decode cX12_whoOn 22 = .ok (.iload_n 1, 1) := by decide +kernel
theorem dX12_whoOn_23 : decode cX12_whoOn 23 = .ok (.imul, 1) := by decide +kernel
theorem dX12_whoOn_24 : decode cX12_whoOn 24 = .ok (.iload_n 3, 1) := by decide +kernel
theorem dX12_whoOn_25 : decode cX12_whoOn 25 = .ok (.iadd, 1) := by decide +kernel
theorem dX12_whoOn_26 : decode cX12_whoOn 26 = .ok (.iaload, 1) := by decide +kernel
theorem dX12_whoOn_27 : decode cX12_whoOn 27 = .ok (.iload_n 2, 1) := by decide +kernel
theorem dX12_whoOn_28 : decode cX12_whoOn 28 = .ok (.if_icmp .ne 5, 3) := by decide +kernel
theorem dX12_whoOn_31 : decode cX12_whoOn 31 = .ok (.iload_n 3, 1) := by decide +kernel
theorem dX12_whoOn_32 : decode cX12_whoOn 32 = .ok (.ireturn, 1) := by decide +kernel
theorem dX12_whoOn_33 : decode cX12_whoOn 33 = .ok (.iinc 3 1, 3) := by decide +kernel
theorem dX12_whoOn_36 : decode cX12_whoOn 36 = .ok (.goto (-34), 3) := by decide +kernel
theorem dX12_whoOn_39 : decode cX12_whoOn 39 = .ok (.iconst (-1), 1) := by decide +kernel
theorem dX12_whoOn_40 : decode cX12_whoOn 40 = .ok (.ireturn, 1) := by decide +kernel
def ok_X12_whoOn_2 (K : ro_K) (v1 : Int32) (v2 : Int32) (μ : ro_Mem) : (Int32 ⊕ Unit) → Prop := Sum.elim (fun e => ro_X K 31 [(3, .int e)] [] μ) (fun e => ro_X K 39 [] [] μ)
def fb_X12_whoOn_2 (v1 : Int32) (v2 : Int32) (μ : ro_Mem) (rec : Int32 → Option (Int32 ⊕ Unit)) (v3 : Int32) : Option (Int32 ⊕ Unit) :=
  if 10 ≤ v3 then
  (some (.inr ()))
  else
  ((fn_X12_isGuest v3 μ).bind fun q2 =>
  if q2 = 0 then
  (rec (v3 + 1))
  else
  (if ro_in ((10 * v1) + v3) 40 then
  (if (μ 216 ((10 * v1) + v3).toNatClampNeg) = v2 then
  (some (.inl v3))
  else
  (rec (v3 + 1))) else none))
theorem bb_X12_whoOn_2 {K : ro_K} (hK : ro_C K RX12 cX12_whoOn 4 2) (hR : ro_R K (some .int)) {v1 : Int32} {v2 : Int32}  {μ : ro_Mem} {rec : Int32 → Option (Int32 ⊕ Unit)} {v3 : Int32} {q : (Int32 ⊕ Unit)} (hrec : ∀ (s : Int32) (q : (Int32 ⊕ Unit)), rec s = some q → ok_X12_whoOn_2 K v1 v2 μ q → ro_X K 2 [(0, .ref (ro_ad (kG K) 207)), (1, .int v1), (2, .int v2), (3, .int s)] [] μ) (hf : fb_X12_whoOn_2 v1 v2 μ rec v3 = some q) (hq : ok_X12_whoOn_2 K v1 v2 μ q) : ro_X K 2 [(0, .ref (ro_ad (kG K) 207)), (1, .int v1), (2, .int v2), (3, .int v3)] [] μ := by
  unfold fb_X12_whoOn_2 at hf
  refine ro_iload_n hK 3 rfl dX12_whoOn_2 rfl ?_
  refine ro_bipush (v := 10) hK dX12_whoOn_3 (by decide) ?_
  refine ro_icmp_ge hK 39 dX12_whoOn_5 (by decide) (fun c1 => ?_) (fun c1 => ?_)
  · have hf := ro_it hf c1
    refine ro_sub (L' := []) [] rfl ?_
    obtain rfl := Option.some.inj hf
    exact hq
  · have hf := ro_ie hf c1
    refine ro_aload_n hK 0 rfl dX12_whoOn_8 rfl ?_
    refine ro_iload_n hK 3 rfl dX12_whoOn_9 rfl ?_
    obtain ⟨q2, e3, hf⟩ := ro_bd hf
    refine ro_callvi hK [.int v3] ml_X12_235 mv_X12_isGuest (mt_X12_isGuest (kl K) (kG K)  e3) sh_207 ⟨_, rfl, rfl⟩ (by decide) rfl rfl (Nat.le_of_ble_eq_true rfl) dX12_whoOn_10 ?_
    refine ro_if_eq hK 33 dX12_whoOn_13 (by decide) (fun c4 => ?_) (fun c4 => ?_)
    · have hf := ro_it hf c4
      refine ro_iinc (v := v3 + 1) (L' := [(3, .int (v3 + 1)), (0, .ref (ro_ad (kG K) 207)), (1, .int v1), (2, .int v2)]) hK 3 rfl dX12_whoOn_33 rfl (by decide) rfl ?_
      refine ro_goto hK 2 dX12_whoOn_36 (by decide) ?_
      refine ro_sub (L' := [(0, .ref (ro_ad (kG K) 207)), (1, .int v1), (2, .int v2), (3, .int (v3 + 1))]) [1, 2, 3, 0] rfl ?_
      exact hrec (v3 + 1) _ hf hq
    · have hf := ro_ie hf c4
      refine ro_aload_n hK 0 rfl dX12_whoOn_16 rfl ?_
      refine ro_getr hK fl_X12_35 sh_207 dX12_whoOn_17 ?_
      refine ro_bipush (v := 10) hK dX12_whoOn_20 (by decide) ?_
      refine ro_iload_n hK 1 rfl dX12_whoOn_22 rfl ?_
      refine ro_imul hK dX12_whoOn_23 ?_
      refine ro_iload_n hK 3 rfl dX12_whoOn_24 rfl ?_
      refine ro_iadd hK dX12_whoOn_25 ?_
      obtain ⟨g5, hf⟩ := ro_gd hf
      refine ro_iald hK sh_216 g5 dX12_whoOn_26 ?_
      refine ro_iload_n hK 2 rfl dX12_whoOn_27 rfl ?_
      refine ro_icmp_ne hK 33 dX12_whoOn_28 (by decide) (fun c6 => ?_) (fun c6 => ?_)
      · have hf := ro_ie hf c6
        refine ro_iinc (v := v3 + 1) (L' := [(3, .int (v3 + 1)), (0, .ref (ro_ad (kG K) 207)), (1, .int v1), (2, .int v2)]) hK 3 rfl dX12_whoOn_33 rfl (by decide) rfl ?_
        refine ro_goto hK 2 dX12_whoOn_36 (by decide) ?_
        refine ro_sub (L' := [(0, .ref (ro_ad (kG K) 207)), (1, .int v1), (2, .int v2), (3, .int (v3 + 1))]) [1, 2, 3, 0] rfl ?_
        exact hrec (v3 + 1) _ hf hq
      · have hf := ro_it hf c6
        refine ro_sub (L' := [(3, .int v3)]) [3] rfl ?_
        obtain rfl := Option.some.inj hf
        exact hq
def fl_X12_whoOn_2 (v1 : Int32) (v2 : Int32) (μ : ro_Mem) : Int32 → Option (Int32 ⊕ Unit) :=
  ro_loop (fun rec s => fb_X12_whoOn_2 v1 v2 μ rec s) ro_FU
theorem lp_X12_whoOn_2 {K : ro_K} (hK : ro_C K RX12 cX12_whoOn 4 2) (hR : ro_R K (some .int)) {v1 : Int32} {v2 : Int32}  {μ : ro_Mem} {s : Int32} {q : (Int32 ⊕ Unit)} (hf : fl_X12_whoOn_2 v1 v2 μ s = some q) (hq : ok_X12_whoOn_2 K v1 v2 μ q) : ro_X K 2 [(0, .ref (ro_ad (kG K) 207)), (1, .int v1), (2, .int v2), (3, .int s)] [] μ :=
  ro_loopX (b := fun rec s => fb_X12_whoOn_2 v1 v2 μ rec s) (X := fun s => ro_X K 2 [(0, .ref (ro_ad (kG K) 207)), (1, .int v1), (2, .int v2), (3, .int s)] [] μ) (OK := ok_X12_whoOn_2 K v1 v2 μ) (fun rec s q hrec hb ho => bb_X12_whoOn_2 hK hR  hrec hb ho) ro_FU s q hf hq
def fn_X12_whoOn (v1 : Int32) (v2 : Int32) (μ : ro_Mem) : Option Int32 :=
  (fl_X12_whoOn_2 v1 v2 μ 0).bind fun q7 =>
  q7.elim (fun e9 => some e9) (fun e10 => some (-1))
theorem be_X12_whoOn {K : ro_K} (hK : ro_C K RX12 cX12_whoOn 4 2) (hR : ro_R K (some .int)) {v1 : Int32} {v2 : Int32}  {μ : ro_Mem} {out : Int32} (hf : fn_X12_whoOn v1 v2 μ = some out) (hq : kQ K (some (.int out)) μ) : ro_X K 0 [(0, .ref (ro_ad (kG K) 207)), (1, .int v1), (2, .int v2)] [] μ := by
  unfold fn_X12_whoOn at hf
  refine ro_iconst (v := 0) hK dX12_whoOn_0 (by decide) ?_
  refine ro_istore_n (L' := [(3, .int 0), (0, .ref (ro_ad (kG K) 207)), (1, .int v1), (2, .int v2)]) hK dX12_whoOn_1 rfl (by decide) rfl ?_
  obtain ⟨q7, e8, hf⟩ := ro_bd hf
  refine ro_sub (L' := [(0, .ref (ro_ad (kG K) 207)), (1, .int v1), (2, .int v2), (3, .int 0)]) [1, 2, 3, 0] rfl ?_
  refine lp_X12_whoOn_2 hK hR  e8 ?_
  rcases q7 with e9 | e10
  · have hf := ro_el hf
    show ro_X K 31 [(3, .int e9)] [] μ
    refine ro_iload_n hK 0 rfl dX12_whoOn_31 rfl ?_
    obtain rfl := Option.some.inj hf
    exact ro_iret hK hR dX12_whoOn_32 hq
  · have hf := ro_er hf
    show ro_X K 39 [] [] μ
    refine ro_iconst (v := (-1)) hK dX12_whoOn_39 (by decide) ?_
    obtain rfl := Option.some.inj hf
    exact ro_iret hK hR dX12_whoOn_40 hq
theorem mt_X12_whoOn (l : Launch) (G : ro_G) {v1 : Int32} {v2 : Int32}  {μ : ro_Mem} {out : Int32} (hf : fn_X12_whoOn v1 v2 μ = some out) : ro_MX l G yX12_whoOn cX12_whoOn 4 (some .int) 2 [.ref (ro_ad G 207), .int v1, .int v2] μ (some (.int out)) μ := by
  refine ro_MX.of (by decide +kernel) (Nat.le_of_ble_eq_true rfl) (fun K hG hl hq hK hR => ?_)
  subst hG
  exact be_X12_whoOn hK hR  hf hq
-- ===== X12_sits =====
theorem dX12_sits_0 : decode cX12_sits 0 = .ok (.aload_n 0, 1) := by decide +kernel
theorem dX12_sits_1 : decode cX12_sits 1 = .ok (.iload_n 1, 1) := by decide +kernel
theorem dX12_sits_2 : decode cX12_sits 2 = .ok (.invokevirtual 235, 3) := by decide +kernel
theorem dX12_sits_5 : decode cX12_sits 5 = .ok (.ifCond .eq 10, 3) := by decide +kernel
theorem dX12_sits_8 : decode cX12_sits 8 = .ok (.iload_n 2, 1) := by decide +kernel
theorem dX12_sits_9 : decode cX12_sits 9 = .ok (.invokestatic 229, 3) := by decide +kernel
theorem dX12_sits_12 : decode cX12_sits 12 = .ok (.ifCond .ne 5, 3) := by decide +kernel
theorem dX12_sits_15 : decode cX12_sits 15 = .ok (.iconst 0, 1) := by decide +kernel
theorem dX12_sits_16 : decode cX12_sits 16 = .ok (.ireturn, 1) := by decide +kernel
theorem dX12_sits_17 : decode cX12_sits 17 = .ok (.iload_n 3, 1) := by decide +kernel
theorem dX12_sits_18 : decode cX12_sits 18 = .ok (.iconst (-1), 1) := by decide +kernel
theorem dX12_sits_19 : decode cX12_sits 19 = .ok (.if_icmp .ne 19, 3) := by decide +kernel
theorem dX12_sits_22 : decode cX12_sits 22 = .ok (.aload_n 0, 1) := by decide +kernel
theorem dX12_sits_23 : decode cX12_sits 23 = .ok (.getfield 35, 3) := by decide +kernel
theorem dX12_sits_26 : decode cX12_sits 26 = .ok (.bipush 10, 2) := by decide +kernel
theorem dX12_sits_28 : decode cX12_sits 28 = .ok (.iload_n 2, 1) := by decide +kernel
theorem dX12_sits_29 : decode cX12_sits 29 = .ok (.imul, 1) := by decide +kernel
theorem dX12_sits_30 : decode cX12_sits 30 = .ok (.iload_n 1, 1) := by decide +kernel
theorem dX12_sits_31 : decode cX12_sits 31 = .ok (.iadd, 1) := by decide +kernel
theorem dX12_sits_32 : decode cX12_sits 32 = .ok (.sipush 255, 3) := by decide +kernel
theorem dX12_sits_35 : decode cX12_sits 35 = .ok (.iastore, 1) := by decide +kernel
theorem dX12_sits_36 : decode cX12_sits 36 = .ok (.iconst 1, 1) := by decide +kernel
theorem dX12_sits_37 : decode cX12_sits 37 = .ok (.ireturn, 1) := by decide +kernel
theorem dX12_sits_38 : decode cX12_sits 38 = .ok (.iload_n 3, 1) := by decide +kernel
theorem dX12_sits_39 : decode cX12_sits 39 = .ok (.iload 4, 2) := by decide +kernel
theorem dX12_sits_41 : decode cX12_sits 41 = .ok (.invokestatic 211, 3) := by decide +kernel
theorem dX12_sits_44 : decode cX12_sits 44 = .ok (.ifCond .ne 5, 3) := by decide +kernel
theorem dX12_sits_47 : decode cX12_sits 47 = .ok (.iconst 0, 1) := by decide +kernel
theorem dX12_sits_48 : decode cX12_sits 48 = .ok (.ireturn, 1) := by decide +kernel
theorem dX12_sits_49 : decode cX12_sits 49 = .ok (.aload_n 0, 1) := by decide +kernel
theorem dX12_sits_50 : decode cX12_sits 50 = .ok (.iload_n 2, 1) := by decide +kernel
theorem dX12_sits_51 : decode cX12_sits 51 = .ok (.bipush 12, 2) := by decide +kernel
theorem dX12_sits_53 : decode cX12_sits 53 = .ok (.iload_n 3, 1) := by decide +kernel
theorem dX12_sits_54 : decode cX12_sits 54 = .ok (.imul, 1) := by decide +kernel
theorem dX12_sits_55 : decode cX12_sits 55 = .ok (.iload 4, 2) := by decide +kernel
theorem dX12_sits_57 : decode cX12_sits 57 = .ok (.iadd, 1) := by decide +kernel
theorem dX12_sits_58 : decode cX12_sits 58 = .ok (.invokevirtual 238, 3) := by decide +kernel
theorem dX12_sits_61 : decode cX12_sits 61 = .ok (.istore 5, 2) := by decide +kernel
theorem dX12_sits_63 : decode cX12_sits 63 = .ok (.iload 5, 2) := by decide +kernel
theorem dX12_sits_65 : decode cX12_sits 65 = .ok (.iconst (-1), 1) := by decide +kernel
theorem dX12_sits_66 : decode cX12_sits 66 = .ok (.if_icmp .eq 11, 3) := by decide +kernel
theorem dX12_sits_69 : decode cX12_sits 69 = .ok (.iload 5, 2) := by decide +kernel
theorem dX12_sits_71 : decode cX12_sits 71 = .ok (.iload_n 1, 1) := by decide +kernel
theorem dX12_sits_72 : decode cX12_sits 72 = .ok (.if_icmp .eq 5, 3) := by decide +kernel
theorem dX12_sits_75 : decode cX12_sits 75 = .ok (.iconst 0, 1) := by decide +kernel
theorem dX12_sits_76 : decode cX12_sits 76 = .ok (.ireturn, 1) := by decide +kernel
theorem dX12_sits_77 : decode cX12_sits 77 = .ok (.aload_n 0, 1) := by decide +kernel
theorem dX12_sits_78 : decode cX12_sits 78 = .ok (.getfield 35, 3) := by decide +kernel
theorem dX12_sits_81 : decode cX12_sits 81 = .ok (.bipush 10, 2) := by decide +kernel
theorem dX12_sits_83 : decode cX12_sits 83 = .ok (.iload_n 2, 1) := by decide +kernel
theorem dX12_sits_84 : decode cX12_sits 84 = .ok (.imul, 1) := by decide +kernel
theorem dX12_sits_85 : decode cX12_sits 85 = .ok (.iload_n 1, 1) := by decide +kernel
theorem dX12_sits_86 : decode cX12_sits 86 = .ok (.iadd, 1) := by decide +kernel
theorem dX12_sits_87 : decode cX12_sits 87 = .ok (.bipush 12, 2) := by decide +kernel
theorem dX12_sits_89 : decode cX12_sits 89 = .ok (.iload_n 3, 1) := by decide +kernel
theorem dX12_sits_90 : decode cX12_sits 90 = .ok (.imul, 1) := by decide +kernel
theorem dX12_sits_91 : decode cX12_sits 91 = .ok (.iload 4, 2) := by decide +kernel
theorem dX12_sits_93 : decode cX12_sits 93 = .ok (.iadd, 1) := by decide +kernel
theorem dX12_sits_94 : decode cX12_sits 94 = .ok (.iastore, 1) := by decide +kernel
theorem dX12_sits_95 : decode cX12_sits 95 = .ok (.iconst 1, 1) := by decide +kernel
theorem dX12_sits_96 : decode cX12_sits 96 = .ok (.ireturn, 1) := by decide +kernel
def fj_X12_sits_77 (v1 : Int32) (v2 : Int32) (v3 : Int32) (v4 : Int32) (μ : ro_Mem) : Option (Int32 × ro_Mem) :=
  if ro_in ((10 * v2) + v1) 40 then
  (ro_lt (ro_set μ 216 ((10 * v2) + v1).toNatClampNeg ((12 * v3) + v4)) fun m15 =>
  some (1, m15)) else none
theorem bj_X12_sits_77 {K : ro_K} (hK : ro_C K RX12 cX12_sits 6 3) (hR : ro_R K (some .boolean)) {v1 : Int32} {v2 : Int32} {v3 : Int32} {v4 : Int32}   {μ : ro_Mem}  {out : Int32 × ro_Mem} (hf : fj_X12_sits_77 v1 v2 v3 v4 μ = some out) (hq : kQ K (some (.int out.1)) out.2) : ro_X K 77 [(0, .ref (ro_ad (kG K) 207)), (1, .int v1), (2, .int v2), (3, .int v3), (4, .int v4)] [] μ := by
  unfold fj_X12_sits_77 at hf
  refine ro_aload_n hK 0 rfl dX12_sits_77 rfl ?_
  refine ro_getr hK fl_X12_35 sh_207 dX12_sits_78 ?_
  refine ro_bipush (v := 10) hK dX12_sits_81 (by decide) ?_
  refine ro_iload_n hK 2 rfl dX12_sits_83 rfl ?_
  refine ro_imul hK dX12_sits_84 ?_
  refine ro_iload_n hK 1 rfl dX12_sits_85 rfl ?_
  refine ro_iadd hK dX12_sits_86 ?_
  refine ro_bipush (v := 12) hK dX12_sits_87 (by decide) ?_
  refine ro_iload_n hK 3 rfl dX12_sits_89 rfl ?_
  refine ro_imul hK dX12_sits_90 ?_
  refine ro_iload hK 4 rfl dX12_sits_91 ?_
  refine ro_iadd hK dX12_sits_93 ?_
  obtain ⟨g14, hf⟩ := ro_gd hf
  obtain ⟨m15, e16, hf⟩ := ro_ld hf
  refine ro_iast hK sh_216 g14 dX12_sits_94 ?_
  refine ro_mv e16 ?_
  refine ro_iconst (v := 1) hK dX12_sits_95 (by decide) ?_
  obtain rfl := Option.some.inj hf
  exact ro_zret hK hR dX12_sits_96 (by decide) hq
def fn_X12_sits (v1 : Int32) (v2 : Int32) (v3 : Int32) (v4 : Int32) (μ : ro_Mem) : Option (Int32 × ro_Mem) :=
  (fn_X12_isGuest v1 μ).bind fun q1 =>
  if q1 = 0 then
  (some (0, μ))
  else
  ((fn_X12_isAct v2).bind fun q4 =>
  if q4 = 0 then
  (some (0, μ))
  else
  (if v3 = (-1) then
  (if ro_in ((10 * v2) + v1) 40 then
  (ro_lt (ro_set μ 216 ((10 * v2) + v1).toNatClampNeg 255) fun m19 =>
  some (1, m19)) else none)
  else
  ((fn_X12_isPlace v3 v4).bind fun q8 =>
  if q8 = 0 then
  (some (0, μ))
  else
  ((fn_X12_whoOn v2 ((12 * v3) + v4) μ).bind fun q11 =>
  if q11 = (-1) then
  (fj_X12_sits_77 v1 v2 v3 v4 μ)
  else
  (if q11 = v1 then
  (fj_X12_sits_77 v1 v2 v3 v4 μ)
  else
  (some (0, μ)))))))
theorem be_X12_sits {K : ro_K} (hK : ro_C K RX12 cX12_sits 6 3) (hR : ro_R K (some .boolean)) {v1 : Int32} {v2 : Int32} {v3 : Int32} {v4 : Int32}  {μ : ro_Mem} {out : Int32 × ro_Mem} (hf : fn_X12_sits v1 v2 v3 v4 μ = some out) (hq : kQ K (some (.int out.1)) out.2) : ro_X K 0 [(0, .ref (ro_ad (kG K) 207)), (1, .int v1), (2, .int v2), (3, .int v3), (4, .int v4)] [] μ := by
  unfold fn_X12_sits at hf
  refine ro_aload_n hK 0 rfl dX12_sits_0 rfl ?_
  refine ro_iload_n hK 1 rfl dX12_sits_1 rfl ?_
  obtain ⟨q1, e2, hf⟩ := ro_bd hf
  refine ro_callvi hK [.int v1] ml_X12_235 mv_X12_isGuest (mt_X12_isGuest (kl K) (kG K)  e2) sh_207 ⟨_, rfl, rfl⟩ (by decide) rfl rfl (Nat.le_of_ble_eq_true rfl) dX12_sits_2 ?_
  refine ro_if_eq hK 15 dX12_sits_5 (by decide) (fun c3 => ?_) (fun c3 => ?_)
  · have hf := ro_it hf c3
    refine ro_iconst (v := 0) hK dX12_sits_15 (by decide) ?_
    obtain rfl := Option.some.inj hf
    exact ro_zret hK hR dX12_sits_16 (by decide) hq
  · have hf := ro_ie hf c3
    refine ro_iload_n hK 2 rfl dX12_sits_8 rfl ?_
    obtain ⟨q4, e5, hf⟩ := ro_bd hf
    refine ro_callsi hK [.int v2] ml_X12_229 ms_X12_isAct (mt_X12_isAct (kl K) (kG K)  e5) (by decide) rfl rfl (Nat.le_of_ble_eq_true rfl) dX12_sits_9 ?_
    refine ro_if_ne hK 17 dX12_sits_12 (by decide) (fun c6 => ?_) (fun c6 => ?_)
    · have hf := ro_ie hf c6
      refine ro_iload_n hK 3 rfl dX12_sits_17 rfl ?_
      refine ro_iconst (v := (-1)) hK dX12_sits_18 (by decide) ?_
      refine ro_icmp_ne hK 38 dX12_sits_19 (by decide) (fun c7 => ?_) (fun c7 => ?_)
      · have hf := ro_ie hf c7
        refine ro_iload_n hK 3 rfl dX12_sits_38 rfl ?_
        refine ro_iload hK 4 rfl dX12_sits_39 ?_
        obtain ⟨q8, e9, hf⟩ := ro_bd hf
        refine ro_callsi hK [.int v3, .int v4] ml_X12_211 ms_X12_isPlace (mt_X12_isPlace (kl K) (kG K)  e9) (by decide) rfl rfl (Nat.le_of_ble_eq_true rfl) dX12_sits_41 ?_
        refine ro_if_ne hK 49 dX12_sits_44 (by decide) (fun c10 => ?_) (fun c10 => ?_)
        · have hf := ro_ie hf c10
          refine ro_aload_n hK 0 rfl dX12_sits_49 rfl ?_
          refine ro_iload_n hK 2 rfl dX12_sits_50 rfl ?_
          refine ro_bipush (v := 12) hK dX12_sits_51 (by decide) ?_
          refine ro_iload_n hK 3 rfl dX12_sits_53 rfl ?_
          refine ro_imul hK dX12_sits_54 ?_
          refine ro_iload hK 4 rfl dX12_sits_55 ?_
          refine ro_iadd hK dX12_sits_57 ?_
          obtain ⟨q11, e12, hf⟩ := ro_bd hf
          refine ro_callvi hK [.int v2, .int ((12 * v3) + v4)] ml_X12_238 mv_X12_whoOn (mt_X12_whoOn (kl K) (kG K)  e12) sh_207 ⟨_, rfl, rfl⟩ (by decide) rfl rfl (Nat.le_of_ble_eq_true rfl) dX12_sits_58 ?_
          refine ro_istore (L' := [(5, .int q11), (0, .ref (ro_ad (kG K) 207)), (1, .int v1), (2, .int v2), (3, .int v3), (4, .int v4)]) hK dX12_sits_61 (by decide) rfl ?_
          refine ro_iload hK 0 rfl dX12_sits_63 ?_
          refine ro_iconst (v := (-1)) hK dX12_sits_65 (by decide) ?_
          refine ro_icmp_eq hK 77 dX12_sits_66 (by decide) (fun c13 => ?_) (fun c13 => ?_)
          · have hf := ro_it hf c13
            refine ro_sub (L' := [(0, .ref (ro_ad (kG K) 207)), (1, .int v1), (2, .int v2), (3, .int v3), (4, .int v4)]) [1, 2, 3, 4, 5] rfl ?_
            exact bj_X12_sits_77 hK hR  hf hq
          · have hf := ro_ie hf c13
            refine ro_iload hK 0 rfl dX12_sits_69 ?_
            refine ro_iload_n hK 2 rfl dX12_sits_71 rfl ?_
            refine ro_icmp_eq hK 77 dX12_sits_72 (by decide) (fun c17 => ?_) (fun c17 => ?_)
            · have hf := ro_it hf c17
              refine ro_sub (L' := [(0, .ref (ro_ad (kG K) 207)), (1, .int v1), (2, .int v2), (3, .int v3), (4, .int v4)]) [1, 2, 3, 4, 5] rfl ?_
              exact bj_X12_sits_77 hK hR  hf hq
            · have hf := ro_ie hf c17
              refine ro_iconst (v := 0) hK dX12_sits_75 (by decide) ?_
              obtain rfl := Option.some.inj hf
              exact ro_zret hK hR dX12_sits_76 (by decide) hq
        · have hf := ro_it hf c10
          refine ro_iconst (v := 0) hK dX12_sits_47 (by decide) ?_
          obtain rfl := Option.some.inj hf
          exact ro_zret hK hR dX12_sits_48 (by decide) hq
      · have hf := ro_it hf c7
        refine ro_aload_n hK 0 rfl dX12_sits_22 rfl ?_
        refine ro_getr hK fl_X12_35 sh_207 dX12_sits_23 ?_
        refine ro_bipush (v := 10) hK dX12_sits_26 (by decide) ?_
        refine ro_iload_n hK 2 rfl dX12_sits_28 rfl ?_
        refine ro_imul hK dX12_sits_29 ?_
        refine ro_iload_n hK 1 rfl dX12_sits_30 rfl ?_
        refine ro_iadd hK dX12_sits_31 ?_
        refine ro_sipush (v := 255) hK dX12_sits_32 (by decide) ?_
        obtain ⟨g18, hf⟩ := ro_gd hf
        obtain ⟨m19, e20, hf⟩ := ro_ld hf
        refine ro_iast hK sh_216 g18 dX12_sits_35 ?_
        refine ro_mv e20 ?_
        refine ro_iconst (v := 1) hK dX12_sits_36 (by decide) ?_
        obtain rfl := Option.some.inj hf
        exact ro_zret hK hR dX12_sits_37 (by decide) hq
    · have hf := ro_it hf c6
      refine ro_iconst (v := 0) hK dX12_sits_15 (by decide) ?_
      obtain rfl := Option.some.inj hf
      exact ro_zret hK hR dX12_sits_16 (by decide) hq
theorem mt_X12_sits (l : Launch) (G : ro_G) {v1 : Int32} {v2 : Int32} {v3 : Int32} {v4 : Int32}  {μ : ro_Mem} {out : Int32 × ro_Mem} (hf : fn_X12_sits v1 v2 v3 v4 μ = some out) : ro_MX l G yX12_sits cX12_sits 6 (some .boolean) 3 [.ref (ro_ad G 207), .int v1, .int v2, .int v3, .int v4] μ (some (.int out.1)) out.2 := by
  refine ro_MX.of (by decide +kernel) (Nat.le_of_ble_eq_true rfl) (fun K hG hl hq hK hR => ?_)
  subst hG
  exact be_X12_sits hK hR  hf hq
-- ===== X12_types =====
theorem dX12_types_0 : decode cX12_types 0 = .ok (.iconst 3, 1) := by decide +kernel
theorem dX12_types_1 : decode cX12_types 1 = .ok (.istore_n 2, 1) := by decide +kernel
theorem dX12_types_2 : decode cX12_types 2 = .ok (.iload_n 2, 1) := by decide +kernel
theorem dX12_types_3 : decode cX12_types 3 = .ok (.ifCond .lt 35, 3) := by decide +kernel
theorem dX12_types_6 : decode cX12_types 6 = .ok (.aload_n 0, 1) := by decide +kernel
theorem dX12_types_7 : decode cX12_types 7 = .ok (.getfield 38, 3) := by decide +kernel
theorem dX12_types_10 : decode cX12_types 10 = .ok (.aload_n 0, 1) := by decide +kernel
theorem dX12_types_11 : decode cX12_types 11 = .ok (.getfield 242, 3) := by decide +kernel
theorem dX12_types_14 : decode cX12_types 14 = .ok (.iload_n 1, 1) := by decide +kernel
theorem dX12_types_15 : decode cX12_types 15 = .ok (.bipush 8, 2) := by decide +kernel
theorem dX12_types_17 : decode cX12_types 17 = .ok (.iload_n 2, 1) := by decide +kernel
theorem dX12_types_18 : decode cX12_types 18 = .ok (.imul, 1) := by decide +kernel
theorem dX12_types_19 : decode cX12_types 19 = .ok (.ishr, 1) := by decide +kernel
theorem dX12_types_20 : decode cX12_types 20 = .ok (.i2b, 1) := by decide +kernel
theorem dX12_types_21 : decode cX12_types 21 = .ok (.bastore, 1) := by decide +kernel
theorem dX12_types_22 : decode cX12_types 22 = .ok (.aload_n 0, 1) := by decide +kernel
theorem dX12_types_23 : decode cX12_types 23 = .ok (.aload_n 0, 1) := by decide +kernel
theorem dX12_types_24 : decode cX12_types 24 = .ok (.getfield 242, 3) := by decide +kernel
theorem dX12_types_27 : decode cX12_types 27 = .ok (.iconst 1, 1) := by decide +kernel
theorem dX12_types_28 : decode cX12_types 28 = .ok (.iadd, 1) := by decide +kernel
theorem dX12_types_29 : decode cX12_types 29 = .ok (.putfield 242, 3) := by decide +kernel
theorem dX12_types_32 : decode cX12_types 32 = .ok (.iinc 2 (-1), 3) := by decide +kernel
theorem dX12_types_35 : decode cX12_types 35 = .ok (.goto (-33), 3) := by decide +kernel
theorem dX12_types_38 : decode cX12_types 38 = .ok (.return_, 1) := by decide +kernel
def ok_X12_types_2 (K : ro_K) (v1 : Int32) : ro_Mem → Prop := fun e => ro_X K 38 [] [] e
def fb_X12_types_2 (v1 : Int32) (rec : (Int32 × ro_Mem) → Option ro_Mem) (v2 : Int32) (μ : ro_Mem) : Option ro_Mem :=
  if v2 < 0 then
  (some μ)
  else
  (if ro_in (μ 207 13) 220 then
  (ro_lt (ro_set μ 217 (μ 207 13).toNatClampNeg (vp_nar .byte (ro_i2b (v1 >>> ((8 * v2) &&& 31))))) fun m3 =>
  ro_lt (ro_set m3 207 13 ((m3 207 13) + 1)) fun m5 =>
  rec (v2 + (-1), m5)) else none)
theorem bb_X12_types_2 {K : ro_K} (hK : ro_C K RX12 cX12_types 3 0) (hR : ro_R K none) {v1 : Int32}  {μ : ro_Mem} {rec : (Int32 × ro_Mem) → Option ro_Mem} {v2 : Int32} {q : ro_Mem} (hrec : ∀ (s : Int32 × ro_Mem) (q : ro_Mem), rec s = some q → ok_X12_types_2 K v1 q → ro_X K 2 [(0, .ref (ro_ad (kG K) 207)), (1, .int v1), (2, .int s.1)] [] s.2) (hf : fb_X12_types_2 v1 rec v2 μ = some q) (hq : ok_X12_types_2 K v1 q) : ro_X K 2 [(0, .ref (ro_ad (kG K) 207)), (1, .int v1), (2, .int v2)] [] μ := by
  unfold fb_X12_types_2 at hf
  refine ro_iload_n hK 2 rfl dX12_types_2 rfl ?_
  refine ro_if_lt hK 38 dX12_types_3 (by decide) (fun c1 => ?_) (fun c1 => ?_)
  · have hf := ro_it hf c1
    refine ro_sub (L' := []) [] rfl ?_
    obtain rfl := Option.some.inj hf
    exact hq
  · have hf := ro_ie hf c1
    refine ro_aload_n hK 0 rfl dX12_types_6 rfl ?_
    refine ro_getr hK fl_X12_38 sh_207 dX12_types_7 ?_
    refine ro_aload_n hK 0 rfl dX12_types_10 rfl ?_
    refine ro_geti hK fl_X12_242 sh_207 dX12_types_11 ?_
    refine ro_iload_n hK 1 rfl dX12_types_14 rfl ?_
    refine ro_bipush (v := 8) hK dX12_types_15 (by decide) ?_
    refine ro_iload_n hK 2 rfl dX12_types_17 rfl ?_
    refine ro_imul hK dX12_types_18 ?_
    refine ro_ishr hK dX12_types_19 ?_
    refine ro_ib hK dX12_types_20 ?_
    obtain ⟨g2, hf⟩ := ro_gd hf
    obtain ⟨m3, e4, hf⟩ := ro_ld hf
    refine ro_bast hK sh_217 g2 dX12_types_21 ?_
    refine ro_mv e4 ?_
    refine ro_aload_n hK 0 rfl dX12_types_22 rfl ?_
    refine ro_aload_n hK 0 rfl dX12_types_23 rfl ?_
    refine ro_geti hK fl_X12_242 sh_207 dX12_types_24 ?_
    refine ro_iconst (v := 1) hK dX12_types_27 (by decide) ?_
    refine ro_iadd hK dX12_types_28 ?_
    obtain ⟨m5, e6, hf⟩ := ro_ld hf
    refine ro_puti hK fl_X12_242 sh_207 rfl rfl dX12_types_29 ?_
    refine ro_mv e6 ?_
    refine ro_iinc (v := v2 + (-1)) (L' := [(2, .int (v2 + (-1))), (0, .ref (ro_ad (kG K) 207)), (1, .int v1)]) hK 2 rfl dX12_types_32 rfl (by decide) rfl ?_
    refine ro_goto hK 2 dX12_types_35 (by decide) ?_
    refine ro_sub (L' := [(0, .ref (ro_ad (kG K) 207)), (1, .int v1), (2, .int (v2 + (-1)))]) [1, 2, 0] rfl ?_
    exact hrec (v2 + (-1), m5) _ hf hq
def fl_X12_types_2 (v1 : Int32) : (Int32 × ro_Mem) → Option ro_Mem :=
  ro_loop (fun rec s => fb_X12_types_2 v1 rec s.1 s.2) ro_FU
theorem lp_X12_types_2 {K : ro_K} (hK : ro_C K RX12 cX12_types 3 0) (hR : ro_R K none) {v1 : Int32}  {s : Int32 × ro_Mem} {q : ro_Mem} (hf : fl_X12_types_2 v1 s = some q) (hq : ok_X12_types_2 K v1 q) : ro_X K 2 [(0, .ref (ro_ad (kG K) 207)), (1, .int v1), (2, .int s.1)] [] s.2 :=
  ro_loopX (b := fun rec s => fb_X12_types_2 v1 rec s.1 s.2) (X := fun s => ro_X K 2 [(0, .ref (ro_ad (kG K) 207)), (1, .int v1), (2, .int s.1)] [] s.2) (OK := ok_X12_types_2 K v1) (fun rec s q hrec hb ho => bb_X12_types_2 hK hR  hrec hb ho) ro_FU s q hf hq
def fn_X12_types (v1 : Int32) (μ : ro_Mem) : Option ro_Mem :=
  (fl_X12_types_2 v1 (3, μ)).bind fun q7 =>
  some q7
theorem be_X12_types {K : ro_K} (hK : ro_C K RX12 cX12_types 3 0) (hR : ro_R K none) {v1 : Int32}  {μ : ro_Mem} {out : ro_Mem} (hf : fn_X12_types v1 μ = some out) (hq : kQ K none out) : ro_X K 0 [(0, .ref (ro_ad (kG K) 207)), (1, .int v1)] [] μ := by
  unfold fn_X12_types at hf
  refine ro_iconst (v := 3) hK dX12_types_0 (by decide) ?_
  refine ro_istore_n (L' := [(2, .int 3), (0, .ref (ro_ad (kG K) 207)), (1, .int v1)]) hK dX12_types_1 rfl (by decide) rfl ?_
  obtain ⟨q7, e8, hf⟩ := ro_bd hf
  refine ro_sub (L' := [(0, .ref (ro_ad (kG K) 207)), (1, .int v1), (2, .int 3)]) [1, 2, 0] rfl ?_
  refine lp_X12_types_2 hK hR  e8 ?_
  show ro_X K 38 [] [] q7
  obtain rfl := Option.some.inj hf
  exact ro_vret hK hR dX12_types_38 hq
theorem mt_X12_types (l : Launch) (G : ro_G) {v1 : Int32}  {μ : ro_Mem} {out : ro_Mem} (hf : fn_X12_types v1 μ = some out) : ro_MX l G yX12_types cX12_types 3 none 0 [.ref (ro_ad G 207), .int v1] μ none out := by
  refine ro_MX.of (by decide +kernel) (Nat.le_of_ble_eq_true rfl) (fun K hG hl hq hK hR => ?_)
  subst hG
  exact be_X12_types hK hR  hf hq
-- ===== X12_feed =====
theorem dX12_feed_0 : decode cX12_feed 0 = .ok (.aload_n 0, 1) := by decide +kernel
theorem dX12_feed_1 : decode cX12_feed 1 = .ok (.getfield 242, 3) := by decide +kernel
theorem dX12_feed_4 : decode cX12_feed 4 = .ok (.bipush 20, 2) := by decide +kernel
theorem dX12_feed_6 : decode cX12_feed 6 = .ok (.iadd, 1) := by decide +kernel
theorem dX12_feed_7 : decode cX12_feed 7 = .ok (.sipush 220, 3) := by decide +kernel
theorem dX12_feed_10 : decode cX12_feed 10 = .ok (.if_icmp .le 5, 3) := by decide +kernel
theorem dX12_feed_13 : decode cX12_feed 13 = .ok (.iconst (-1), 1) := by decide +kernel
theorem dX12_feed_14 : decode cX12_feed 14 = .ok (.ireturn, 1) := by decide +kernel
theorem dX12_feed_15 : decode cX12_feed 15 = .ok (.aload_n 0, 1) := by decide +kernel
theorem dX12_feed_16 : decode cX12_feed 16 = .ok (.iload_n 1, 1) := by decide +kernel
theorem dX12_feed_17 : decode cX12_feed 17 = .ok (.invokevirtual 245, 3) := by decide +kernel
theorem dX12_feed_20 : decode cX12_feed 20 = .ok (.aload_n 0, 1) := by decide +kernel
theorem dX12_feed_21 : decode cX12_feed 21 = .ok (.iload_n 2, 1) := by decide +kernel
theorem dX12_feed_22 : decode cX12_feed 22 = .ok (.invokevirtual 245, 3) := by decide +kernel
theorem dX12_feed_25 : decode cX12_feed 25 = .ok (.aload_n 0, 1) := by decide +kernel
theorem dX12_feed_26 : decode cX12_feed 26 = .ok (.iload_n 3, 1) := by decide +kernel
theorem dX12_feed_27 : decode cX12_feed 27 = .ok (.invokevirtual 245, 3) := by decide +kernel
theorem dX12_feed_30 : decode cX12_feed 30 = .ok (.aload_n 0, 1) := by decide +kernel
theorem dX12_feed_31 : decode cX12_feed 31 = .ok (.iload 4, 2) := by decide +kernel
theorem dX12_feed_33 : decode cX12_feed 33 = .ok (.invokevirtual 245, 3) := by decide +kernel
theorem dX12_feed_36 : decode cX12_feed 36 = .ok (.aload_n 0, 1) := by decide +kernel
theorem dX12_feed_37 : decode cX12_feed 37 = .ok (.iload 5, 2) := by decide +kernel
theorem dX12_feed_39 : decode cX12_feed 39 = .ok (.invokevirtual 245, 3) := by decide +kernel
theorem dX12_feed_42 : decode cX12_feed 42 = .ok (.aload_n 0, 1) := by decide +kernel
theorem dX12_feed_43 : decode cX12_feed 43 = .ok (.getfield 242, 3) := by decide +kernel
theorem dX12_feed_46 : decode cX12_feed 46 = .ok (.ireturn, 1) := by decide +kernel
def fn_X12_feed (v1 : Int32) (v2 : Int32) (v3 : Int32) (v4 : Int32) (v5 : Int32) (μ : ro_Mem) : Option (Int32 × ro_Mem) :=
  if ((μ 207 13) + 20) ≤ 220 then
  ((fn_X12_types v1 μ).bind fun q2 =>
  (fn_X12_types v2 q2).bind fun q4 =>
  (fn_X12_types v3 q4).bind fun q6 =>
  (fn_X12_types v4 q6).bind fun q8 =>
  (fn_X12_types v5 q8).bind fun q10 =>
  some (q10 207 13, q10))
  else
  (some ((-1), μ))
theorem be_X12_feed {K : ro_K} (hK : ro_C K RX12 cX12_feed 6 1) (hR : ro_R K (some .int)) {v1 : Int32} {v2 : Int32} {v3 : Int32} {v4 : Int32} {v5 : Int32}  {μ : ro_Mem} {out : Int32 × ro_Mem} (hf : fn_X12_feed v1 v2 v3 v4 v5 μ = some out) (hq : kQ K (some (.int out.1)) out.2) : ro_X K 0 [(0, .ref (ro_ad (kG K) 207)), (1, .int v1), (2, .int v2), (3, .int v3), (4, .int v4), (5, .int v5)] [] μ := by
  unfold fn_X12_feed at hf
  refine ro_aload_n hK 0 rfl dX12_feed_0 rfl ?_
  refine ro_geti hK fl_X12_242 sh_207 dX12_feed_1 ?_
  refine ro_bipush (v := 20) hK dX12_feed_4 (by decide) ?_
  refine ro_iadd hK dX12_feed_6 ?_
  refine ro_sipush (v := 220) hK dX12_feed_7 (by decide) ?_
  refine ro_icmp_le hK 15 dX12_feed_10 (by decide) (fun c1 => ?_) (fun c1 => ?_)
  · have hf := ro_it hf c1
    refine ro_aload_n hK 0 rfl dX12_feed_15 rfl ?_
    refine ro_iload_n hK 1 rfl dX12_feed_16 rfl ?_
    obtain ⟨q2, e3, hf⟩ := ro_bd hf
    refine ro_callvv hK [.int v1] ml_X12_245 mv_X12_types (mt_X12_types (kl K) (kG K)  e3) sh_207 ⟨_, rfl, rfl⟩ (by decide) rfl rfl (Nat.le_of_ble_eq_true rfl) dX12_feed_17 ?_
    refine ro_aload_n hK 0 rfl dX12_feed_20 rfl ?_
    refine ro_iload_n hK 2 rfl dX12_feed_21 rfl ?_
    obtain ⟨q4, e5, hf⟩ := ro_bd hf
    refine ro_callvv hK [.int v2] ml_X12_245 mv_X12_types (mt_X12_types (kl K) (kG K)  e5) sh_207 ⟨_, rfl, rfl⟩ (by decide) rfl rfl (Nat.le_of_ble_eq_true rfl) dX12_feed_22 ?_
    refine ro_aload_n hK 0 rfl dX12_feed_25 rfl ?_
    refine ro_iload_n hK 3 rfl dX12_feed_26 rfl ?_
    obtain ⟨q6, e7, hf⟩ := ro_bd hf
    refine ro_callvv hK [.int v3] ml_X12_245 mv_X12_types (mt_X12_types (kl K) (kG K)  e7) sh_207 ⟨_, rfl, rfl⟩ (by decide) rfl rfl (Nat.le_of_ble_eq_true rfl) dX12_feed_27 ?_
    refine ro_aload_n hK 0 rfl dX12_feed_30 rfl ?_
    refine ro_iload hK 4 rfl dX12_feed_31 ?_
    obtain ⟨q8, e9, hf⟩ := ro_bd hf
    refine ro_callvv hK [.int v4] ml_X12_245 mv_X12_types (mt_X12_types (kl K) (kG K)  e9) sh_207 ⟨_, rfl, rfl⟩ (by decide) rfl rfl (Nat.le_of_ble_eq_true rfl) dX12_feed_33 ?_
    refine ro_aload_n hK 0 rfl dX12_feed_36 rfl ?_
    refine ro_iload hK 5 rfl dX12_feed_37 ?_
    obtain ⟨q10, e11, hf⟩ := ro_bd hf
    refine ro_callvv hK [.int v5] ml_X12_245 mv_X12_types (mt_X12_types (kl K) (kG K)  e11) sh_207 ⟨_, rfl, rfl⟩ (by decide) rfl rfl (Nat.le_of_ble_eq_true rfl) dX12_feed_39 ?_
    refine ro_aload_n hK 0 rfl dX12_feed_42 rfl ?_
    refine ro_geti hK fl_X12_242 sh_207 dX12_feed_43 ?_
    obtain rfl := Option.some.inj hf
    exact ro_iret hK hR dX12_feed_46 hq
  · have hf := ro_ie hf c1
    refine ro_iconst (v := (-1)) hK dX12_feed_13 (by decide) ?_
    obtain rfl := Option.some.inj hf
    exact ro_iret hK hR dX12_feed_14 hq
theorem mt_X12_feed (l : Launch) (G : ro_G) {v1 : Int32} {v2 : Int32} {v3 : Int32} {v4 : Int32} {v5 : Int32}  {μ : ro_Mem} {out : Int32 × ro_Mem} (hf : fn_X12_feed v1 v2 v3 v4 v5 μ = some out) : ro_MX l G yX12_feed cX12_feed 6 (some .int) 1 [.ref (ro_ad G 207), .int v1, .int v2, .int v3, .int v4, .int v5] μ (some (.int out.1)) out.2 := by
  refine ro_MX.of (by decide +kernel) (Nat.le_of_ble_eq_true rfl) (fun K hG hl hq hK hR => ?_)
  subst hG
  exact be_X12_feed hK hR  hf hq
-- ===== X12_voice =====
theorem dX12_voice_0 : decode cX12_voice 0 = .ok (.iload_n 0, 1) := by decide +kernel
theorem dX12_voice_1 : decode cX12_voice 1 = .ok (.bipush 115, 2) := by decide +kernel
theorem dX12_voice_3 : decode cX12_voice 3 = .ok (.if_icmp .ne 7, 3) := by decide +kernel
theorem dX12_voice_6 : decode cX12_voice 6 = .ok (.iconst 0, 1) := by decide +kernel
theorem dX12_voice_7 : decode cX12_voice 7 = .ok (.goto 34, 3) := by decide +kernel
theorem dX12_voice_10 : decode cX12_voice 10 = .ok (.iload_n 0, 1) := by decide +kernel
theorem dX12_voice_11 : decode cX12_voice 11 = .ok (.bipush 97, 2) := by decide +kernel
theorem dX12_voice_13 : decode cX12_voice 13 = .ok (.if_icmp .ne 7, 3) := by decide +kernel
theorem dX12_voice_16 : decode cX12_voice 16 = .ok (.iconst 1, 1) := by decide +kernel
theorem dX12_voice_17 : decode cX12_voice 17 = .ok (.goto 24, 3) := by decide +kernel
theorem dX12_voice_20 : decode cX12_voice 20 = .ok (.iload_n 0, 1) := by decide +kernel
theorem dX12_voice_21 : decode cX12_voice 21 = .ok (.bipush 116, 2) := by decide +kernel
theorem dX12_voice_23 : decode cX12_voice 23 = .ok (.if_icmp .ne 7, 3) := by decide +kernel
theorem dX12_voice_26 : decode cX12_voice 26 = .ok (.iconst 2, 1) := by decide +kernel
theorem dX12_voice_27 : decode cX12_voice 27 = .ok (.goto 14, 3) := by decide +kernel
theorem dX12_voice_30 : decode cX12_voice 30 = .ok (.iload_n 0, 1) := by decide +kernel
theorem dX12_voice_31 : decode cX12_voice 31 = .ok (.bipush 98, 2) := by decide +kernel
theorem dX12_voice_33 : decode cX12_voice 33 = .ok (.if_icmp .ne 7, 3) := by decide +kernel
theorem dX12_voice_36 : decode cX12_voice 36 = .ok (.iconst 3, 1) := by decide +kernel
theorem dX12_voice_37 : decode cX12_voice 37 = .ok (.goto 4, 3) := by decide +kernel
theorem dX12_voice_40 : decode cX12_voice 40 = .ok (.iconst (-1), 1) := by decide +kernel
theorem dX12_voice_41 : decode cX12_voice 41 = .ok (.ireturn, 1) := by decide +kernel
def fn_X12_voice (v0 : Int32) : Option Int32 :=
  if v0 = 115 then
  (some 0)
  else
  (if v0 = 97 then
  (some 1)
  else
  (if v0 = 116 then
  (some 2)
  else
  (if v0 = 98 then
  (some 3)
  else
  (some (-1)))))
theorem be_X12_voice {K : ro_K} (hK : ro_C K RX12 cX12_voice 1 0) (hR : ro_R K (some .int)) {v0 : Int32}  {μ : ro_Mem} {out : Int32} (hf : fn_X12_voice v0 = some out) (hq : kQ K (some (.int out)) μ) : ro_X K 0 [(0, .int v0)] [] μ := by
  unfold fn_X12_voice at hf
  refine ro_iload_n hK 0 rfl dX12_voice_0 rfl ?_
  refine ro_bipush (v := 115) hK dX12_voice_1 (by decide) ?_
  refine ro_icmp_ne hK 10 dX12_voice_3 (by decide) (fun c1 => ?_) (fun c1 => ?_)
  · have hf := ro_ie hf c1
    refine ro_iload_n hK 0 rfl dX12_voice_10 rfl ?_
    refine ro_bipush (v := 97) hK dX12_voice_11 (by decide) ?_
    refine ro_icmp_ne hK 20 dX12_voice_13 (by decide) (fun c2 => ?_) (fun c2 => ?_)
    · have hf := ro_ie hf c2
      refine ro_iload_n hK 0 rfl dX12_voice_20 rfl ?_
      refine ro_bipush (v := 116) hK dX12_voice_21 (by decide) ?_
      refine ro_icmp_ne hK 30 dX12_voice_23 (by decide) (fun c3 => ?_) (fun c3 => ?_)
      · have hf := ro_ie hf c3
        refine ro_iload_n hK 0 rfl dX12_voice_30 rfl ?_
        refine ro_bipush (v := 98) hK dX12_voice_31 (by decide) ?_
        refine ro_icmp_ne hK 40 dX12_voice_33 (by decide) (fun c4 => ?_) (fun c4 => ?_)
        · have hf := ro_ie hf c4
          refine ro_iconst (v := (-1)) hK dX12_voice_40 (by decide) ?_
          obtain rfl := Option.some.inj hf
          exact ro_iret hK hR dX12_voice_41 hq
        · have hf := ro_it hf c4
          refine ro_iconst (v := 3) hK dX12_voice_36 (by decide) ?_
          refine ro_goto hK 41 dX12_voice_37 (by decide) ?_
          obtain rfl := Option.some.inj hf
          exact ro_iret hK hR dX12_voice_41 hq
      · have hf := ro_it hf c3
        refine ro_iconst (v := 2) hK dX12_voice_26 (by decide) ?_
        refine ro_goto hK 41 dX12_voice_27 (by decide) ?_
        obtain rfl := Option.some.inj hf
        exact ro_iret hK hR dX12_voice_41 hq
    · have hf := ro_it hf c2
      refine ro_iconst (v := 1) hK dX12_voice_16 (by decide) ?_
      refine ro_goto hK 41 dX12_voice_17 (by decide) ?_
      obtain rfl := Option.some.inj hf
      exact ro_iret hK hR dX12_voice_41 hq
  · have hf := ro_it hf c1
    refine ro_iconst (v := 0) hK dX12_voice_6 (by decide) ?_
    refine ro_goto hK 41 dX12_voice_7 (by decide) ?_
    obtain rfl := Option.some.inj hf
    exact ro_iret hK hR dX12_voice_41 hq
theorem mt_X12_voice (l : Launch) (G : ro_G) {v0 : Int32}  {μ : ro_Mem} {out : Int32} (hf : fn_X12_voice v0 = some out) : ro_MX l G yX12_voice cX12_voice 1 (some .int) 0 [.int v0] μ (some (.int out)) μ := by
  refine ro_MX.of (by decide +kernel) (Nat.le_of_ble_eq_true rfl) (fun K hG hl hq hK hR => ?_)
  subst hG
  exact be_X12_voice hK hR  hf hq
-- ===== X12_here =====
theorem dX12_here_0 : decode cX12_here 0 = .ok (.aload_n 0, 1) := by decide +kernel
theorem dX12_here_1 : decode cX12_here 1 = .ok (.getfield 249, 3) := by decide +kernel
theorem dX12_here_4 : decode cX12_here 4 = .ok (.aload_n 0, 1) := by decide +kernel
theorem dX12_here_5 : decode cX12_here 5 = .ok (.getfield 288, 3) := by decide +kernel
theorem dX12_here_8 : decode cX12_here 8 = .ok (.if_icmp .ge 19, 3) := by decide +kernel
theorem dX12_here_11 : decode cX12_here 11 = .ok (.aload_n 0, 1) := by decide +kernel
theorem dX12_here_12 : decode cX12_here 12 = .ok (.getfield 38, 3) := by decide +kernel
theorem dX12_here_15 : decode cX12_here 15 = .ok (.aload_n 0, 1) := by decide +kernel
theorem dX12_here_16 : decode cX12_here 16 = .ok (.getfield 249, 3) := by decide +kernel
theorem dX12_here_19 : decode cX12_here 19 = .ok (.baload, 1) := by decide +kernel
theorem dX12_here_20 : decode cX12_here 20 = .ok (.sipush 255, 3) := by decide +kernel
theorem dX12_here_23 : decode cX12_here 23 = .ok (.iand, 1) := by decide +kernel
theorem dX12_here_24 : decode cX12_here 24 = .ok (.goto 4, 3) := by decide +kernel
theorem dX12_here_27 : decode cX12_here 27 = .ok (.iconst (-1), 1) := by decide +kernel
theorem dX12_here_28 : decode cX12_here 28 = .ok (.ireturn, 1) := by decide +kernel
def fn_X12_here (μ : ro_Mem) : Option Int32 :=
  if (μ 207 15) ≤ (μ 207 14) then
  (some (-1))
  else
  (if ro_in (μ 207 14) 220 then
  (some ((μ 217 (μ 207 14).toNatClampNeg) &&& 255)) else none)
theorem be_X12_here {K : ro_K} (hK : ro_C K RX12 cX12_here 1 0) (hR : ro_R K (some .int))   {μ : ro_Mem} {out : Int32} (hf : fn_X12_here μ = some out) (hq : kQ K (some (.int out)) μ) : ro_X K 0 [(0, .ref (ro_ad (kG K) 207))] [] μ := by
  unfold fn_X12_here at hf
  refine ro_aload_n hK 0 rfl dX12_here_0 rfl ?_
  refine ro_geti hK fl_X12_249 sh_207 dX12_here_1 ?_
  refine ro_aload_n hK 0 rfl dX12_here_4 rfl ?_
  refine ro_geti hK fl_X12_288 sh_207 dX12_here_5 ?_
  refine ro_icmp_ge hK 27 dX12_here_8 (by decide) (fun c1 => ?_) (fun c1 => ?_)
  · have hf := ro_it hf c1
    refine ro_iconst (v := (-1)) hK dX12_here_27 (by decide) ?_
    obtain rfl := Option.some.inj hf
    exact ro_iret hK hR dX12_here_28 hq
  · have hf := ro_ie hf c1
    refine ro_aload_n hK 0 rfl dX12_here_11 rfl ?_
    refine ro_getr hK fl_X12_38 sh_207 dX12_here_12 ?_
    refine ro_aload_n hK 0 rfl dX12_here_15 rfl ?_
    refine ro_geti hK fl_X12_249 sh_207 dX12_here_16 ?_
    obtain ⟨g2, hf⟩ := ro_gd hf
    refine ro_bald hK sh_217 g2 dX12_here_19 ?_
    refine ro_sipush (v := 255) hK dX12_here_20 (by decide) ?_
    refine ro_iand hK dX12_here_23 ?_
    refine ro_goto hK 28 dX12_here_24 (by decide) ?_
    obtain rfl := Option.some.inj hf
    exact ro_iret hK hR dX12_here_28 hq
theorem mt_X12_here (l : Launch) (G : ro_G)   {μ : ro_Mem} {out : Int32} (hf : fn_X12_here μ = some out) : ro_MX l G yX12_here cX12_here 1 (some .int) 0 [.ref (ro_ad G 207)] μ (some (.int out)) μ := by
  refine ro_MX.of (by decide +kernel) (Nat.le_of_ble_eq_true rfl) (fun K hG hl hq hK hR => ?_)
  subst hG
  exact be_X12_here hK hR  hf hq
-- ===== X12_isDigit =====
theorem dX12_isDigit_0 : decode cX12_isDigit 0 = .ok (.aload_n 0, 1) := by decide +kernel
theorem dX12_isDigit_1 : decode cX12_isDigit 1 = .ok (.invokevirtual 259, 3) := by decide +kernel
theorem dX12_isDigit_4 : decode cX12_isDigit 4 = .ok (.bipush 48, 2) := by decide +kernel
theorem dX12_isDigit_6 : decode cX12_isDigit 6 = .ok (.if_icmp .lt 16, 3) := by decide +kernel
theorem dX12_isDigit_9 : decode cX12_isDigit 9 = .ok (.aload_n 0, 1) := by decide +kernel
theorem dX12_isDigit_10 : decode cX12_isDigit 10 = .ok (.invokevirtual 259, 3) := by decide +kernel
theorem dX12_isDigit_13 : decode cX12_isDigit 13 = .ok (.bipush 57, 2) := by decide +kernel
theorem dX12_isDigit_15 : decode cX12_isDigit 15 = .ok (.if_icmp .gt 7, 3) := by decide +kernel
theorem dX12_isDigit_18 : decode cX12_isDigit 18 = .ok (.iconst 1, 1) := by decide +kernel
theorem dX12_isDigit_19 : decode cX12_isDigit 19 = .ok (.goto 4, 3) := by decide +kernel
theorem dX12_isDigit_22 : decode cX12_isDigit 22 = .ok (.iconst 0, 1) := by decide +kernel
theorem dX12_isDigit_23 : decode cX12_isDigit 23 = .ok (.ireturn, 1) := by decide +kernel
def fn_X12_isDigit (μ : ro_Mem) : Option Int32 :=
  (fn_X12_here μ).bind fun q1 =>
  if q1 < 48 then
  (some 0)
  else
  ((fn_X12_here μ).bind fun q4 =>
  if 57 < q4 then
  (some 0)
  else
  (some 1))
theorem be_X12_isDigit {K : ro_K} (hK : ro_C K RX12 cX12_isDigit 1 1) (hR : ro_R K (some .boolean))   {μ : ro_Mem} {out : Int32} (hf : fn_X12_isDigit μ = some out) (hq : kQ K (some (.int out)) μ) : ro_X K 0 [(0, .ref (ro_ad (kG K) 207))] [] μ := by
  unfold fn_X12_isDigit at hf
  refine ro_aload_n hK 0 rfl dX12_isDigit_0 rfl ?_
  obtain ⟨q1, e2, hf⟩ := ro_bd hf
  refine ro_callvi hK [] ml_X12_259 mv_X12_here (mt_X12_here (kl K) (kG K)  e2) sh_207 ⟨_, rfl, rfl⟩ (by decide) rfl rfl (Nat.le_of_ble_eq_true rfl) dX12_isDigit_1 ?_
  refine ro_bipush (v := 48) hK dX12_isDigit_4 (by decide) ?_
  refine ro_icmp_lt hK 22 dX12_isDigit_6 (by decide) (fun c3 => ?_) (fun c3 => ?_)
  · have hf := ro_it hf c3
    refine ro_iconst (v := 0) hK dX12_isDigit_22 (by decide) ?_
    obtain rfl := Option.some.inj hf
    exact ro_zret hK hR dX12_isDigit_23 (by decide) hq
  · have hf := ro_ie hf c3
    refine ro_aload_n hK 0 rfl dX12_isDigit_9 rfl ?_
    obtain ⟨q4, e5, hf⟩ := ro_bd hf
    refine ro_callvi hK [] ml_X12_259 mv_X12_here (mt_X12_here (kl K) (kG K)  e5) sh_207 ⟨_, rfl, rfl⟩ (by decide) rfl rfl (Nat.le_of_ble_eq_true rfl) dX12_isDigit_10 ?_
    refine ro_bipush (v := 57) hK dX12_isDigit_13 (by decide) ?_
    refine ro_icmp_gt hK 22 dX12_isDigit_15 (by decide) (fun c6 => ?_) (fun c6 => ?_)
    · have hf := ro_it hf c6
      refine ro_iconst (v := 0) hK dX12_isDigit_22 (by decide) ?_
      obtain rfl := Option.some.inj hf
      exact ro_zret hK hR dX12_isDigit_23 (by decide) hq
    · have hf := ro_ie hf c6
      refine ro_iconst (v := 1) hK dX12_isDigit_18 (by decide) ?_
      refine ro_goto hK 23 dX12_isDigit_19 (by decide) ?_
      obtain rfl := Option.some.inj hf
      exact ro_zret hK hR dX12_isDigit_23 (by decide) hq
theorem mt_X12_isDigit (l : Launch) (G : ro_G)   {μ : ro_Mem} {out : Int32} (hf : fn_X12_isDigit μ = some out) : ro_MX l G yX12_isDigit cX12_isDigit 1 (some .boolean) 1 [.ref (ro_ad G 207)] μ (some (.int out)) μ := by
  refine ro_MX.of (by decide +kernel) (Nat.le_of_ble_eq_true rfl) (fun K hG hl hq hK hR => ?_)
  subst hG
  exact be_X12_isDigit hK hR  hf hq
-- ===== X12_wrongAt =====
theorem dX12_wrongAt_0 : decode cX12_wrongAt 0 = .ok (.aload_n 0, 1) := by decide +kernel
theorem dX12_wrongAt_1 : decode cX12_wrongAt 1 = .ok (.sipush (-1000), 3) := by decide +kernel
theorem dX12_wrongAt_4 : decode cX12_wrongAt 4 = .ok (.iload_n 1, 1) := by decide +kernel
theorem dX12_wrongAt_5 : decode cX12_wrongAt 5 = .ok (.imul, 1) := by decide +kernel
theorem dX12_wrongAt_6 : decode cX12_wrongAt 6 = .ok (.iload_n 2, 1) := by decide +kernel
theorem dX12_wrongAt_7 : decode cX12_wrongAt 7 = .ok (.isub, 1) := by decide +kernel
theorem dX12_wrongAt_8 : decode cX12_wrongAt 8 = .ok (.putfield 297, 3) := by decide +kernel
theorem dX12_wrongAt_11 : decode cX12_wrongAt 11 = .ok (.iconst 0, 1) := by decide +kernel
theorem dX12_wrongAt_12 : decode cX12_wrongAt 12 = .ok (.ireturn, 1) := by decide +kernel
def fn_X12_wrongAt (v1 : Int32) (v2 : Int32) (μ : ro_Mem) : Option (Int32 × ro_Mem) :=
  ro_lt (ro_set μ 207 16 (((-1000) * v1) - v2)) fun m1 =>
  some (0, m1)
theorem be_X12_wrongAt {K : ro_K} (hK : ro_C K RX12 cX12_wrongAt 3 0) (hR : ro_R K (some .boolean)) {v1 : Int32} {v2 : Int32}  {μ : ro_Mem} {out : Int32 × ro_Mem} (hf : fn_X12_wrongAt v1 v2 μ = some out) (hq : kQ K (some (.int out.1)) out.2) : ro_X K 0 [(0, .ref (ro_ad (kG K) 207)), (1, .int v1), (2, .int v2)] [] μ := by
  unfold fn_X12_wrongAt at hf
  refine ro_aload_n hK 0 rfl dX12_wrongAt_0 rfl ?_
  refine ro_sipush (v := (-1000)) hK dX12_wrongAt_1 (by decide) ?_
  refine ro_iload_n hK 1 rfl dX12_wrongAt_4 rfl ?_
  refine ro_imul hK dX12_wrongAt_5 ?_
  refine ro_iload_n hK 2 rfl dX12_wrongAt_6 rfl ?_
  refine ro_isub hK dX12_wrongAt_7 ?_
  obtain ⟨m1, e2, hf⟩ := ro_ld hf
  refine ro_puti hK fl_X12_297 sh_207 rfl rfl dX12_wrongAt_8 ?_
  refine ro_mv e2 ?_
  refine ro_iconst (v := 0) hK dX12_wrongAt_11 (by decide) ?_
  obtain rfl := Option.some.inj hf
  exact ro_zret hK hR dX12_wrongAt_12 (by decide) hq
theorem mt_X12_wrongAt (l : Launch) (G : ro_G) {v1 : Int32} {v2 : Int32}  {μ : ro_Mem} {out : Int32 × ro_Mem} (hf : fn_X12_wrongAt v1 v2 μ = some out) : ro_MX l G yX12_wrongAt cX12_wrongAt 3 (some .boolean) 0 [.ref (ro_ad G 207), .int v1, .int v2] μ (some (.int out.1)) out.2 := by
  refine ro_MX.of (by decide +kernel) (Nat.le_of_ble_eq_true rfl) (fun K hG hl hq hK hR => ?_)
  subst hG
  exact be_X12_wrongAt hK hR  hf hq
