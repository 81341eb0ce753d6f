-- ===== feed =====
theorem rt_bb (x : Int32) : x.toInt8.toInt32 &&& 255 = x &&& 255 := by
  apply Int32.toBitVec_inj.mp
  rw [Int32.toBitVec_and, Int32.toBitVec_and, Int8.toBitVec_toInt32, Int32.toBitVec_toInt8]
  apply BitVec.eq_of_getLsbD_eq
  intro i hi
  rw [BitVec.getLsbD_and, BitVec.getLsbD_and]
  have hm : ∀ i < 32, 8 ≤ i → (255 : Int32).toBitVec.getLsbD i = false := by decide
  rcases Nat.lt_or_ge i 8 with z | z
  · rw [BitVec.getLsbD_signExtend, BitVec.getLsbD_signExtend, if_pos z, if_pos hi]
    simp only [z, hi, decide_true, Bool.true_and]
  · rw [hm i hi z]; simp
def rt_byte (v : Int32) (i : Nat) : Int32 := ro_ush v (nI (24 - 8 * i)) &&& 255
def rt_mbyte (v : Int32) (i : Nat) : Int32 := vp_nar .byte (ro_i2b (v >>> (nI (24 - 8 * i) &&& 31)))
theorem rt_bytes (v : Int32) {i : Nat} (hi : i < 4) : rt_mbyte v i &&& 255 = rt_byte v i ∧ ∃ n, n < 256 ∧ rt_byte v i = nI n := by
  refine ⟨?_, pk_andE _ 8 (by decide)⟩
  unfold rt_mbyte rt_byte ro_i2b
  rw [pk_vb, rt_bb]
  apply b_ext
  intro j hj
  rw [b_and, b_and, b_255]
  by_cases h8 : j < 8
  · unfold ro_ush
    rw [b_sshr _ (by omega) _ hj, b_ushr _ (by omega), if_pos (by omega)]
  · simp [h8]
/-- four bytes put at n -/
def rt_ins (b : Nat → Int32) (f : Nat → Int32) (n : Nat) : Nat → Int32 := fun j => if n ≤ j ∧ j < n + 4 then b (j - n) else f j
def rt_app (b : Nat → Int32) (oa os k n : Nat) (μ : ro_Mem) : Nat → ro_Mem
  | 0 => μ
  | i + 1 => ro_set (ro_set (rt_app b oa os k n μ i) oa (n + i) (b i)) os k (nI (n + (i + 1)))
theorem rt_app_s (b : Nat → Int32) {oa os k n : Nat} {μ : ro_Mem} (ho : ¬ oa = os) (h0 : μ os k = nI n) : ∀ i, (∀ o, ¬ o = oa → ¬ o = os → rt_app b oa os k n μ i o = μ o) ∧ rt_app b oa os k n μ i os = upd (μ os) k (nI (n + i)) ∧ rt_app b oa os k n μ i oa = fun j => if n ≤ j ∧ j < n + i then b (j - n) else μ oa j := by
  intro i
  induction i with
  | zero =>
    refine ⟨fun o _ _ => rfl, ?_, ?_⟩
    · show μ os = _
      rw [Nat.add_zero, ← h0]
      funext j
      by_cases e : j = k
      · rw [e]; simp [upd]
      · simp [upd, e]
    · funext j
      rw [if_neg (by omega)]
      rfl
  | succ i ih =>
    obtain ⟨h1, h2, h3⟩ := ih
    refine ⟨fun o ha hs => ?_, ?_, ?_⟩
    · show ro_set (ro_set _ _ _ _) _ _ _ o = _
      rw [ro_set_ne _ _ _ hs, ro_set_ne _ _ _ ha, h1 o ha hs]
    · show ro_set (ro_set _ _ _ _) _ _ _ os = _
      rw [ro_set_same, ro_set_ne _ _ _ (fun q => ho q.symm), h2]
      funext j
      by_cases e : j = k
      · simp [upd, e]
      · simp [upd, e]
    · show ro_set (ro_set _ _ _ _) _ _ _ oa = _
      rw [ro_set_ne _ _ _ ho, ro_set_same, h3]
      funext j
      unfold upd
      by_cases e : j = n + i
      · rw [if_pos e, if_pos (by omega)]
        congr 1; omega
      · rw [if_neg e]
        by_cases e2 : n ≤ j ∧ j < n + i
        · dsimp only; rw [if_pos e2, if_pos (by omega)]
        · dsimp only; rw [if_neg e2, if_neg (by omega)]
theorem rt_append {v : Int32} {μ : ro_Mem} {n : Nat} (h0 : μ 60 1 = nI n) (hn : n + 4 ≤ 220) : fn_X8_append v μ = some (rt_app (rt_byte v) 61 60 1 n μ 4) := by
  have hl : fl_X8_append_3 v (24, μ) = some (rt_app (rt_byte v) 61 60 1 n μ 4) := by
    unfold fl_X8_append_3
    have hs : ((24 : Int32), μ) = (fun i => (nI 24 - nI (8 * i), rt_app (rt_byte v) 61 60 1 n μ i)) 0 := by
      show _ = (nI 24 - nI 0, μ)
      rw [pk_sub (by omega)]; rfl
    rw [hs]
    refine rt_loop (fun i => (nI 24 - nI (8 * i), rt_app (rt_byte v) 61 60 1 n μ i)) 4 ?_ ?_ ro_FU (by decide)
    · intro i hi rec
      obtain ⟨g1, g2, g3⟩ := rt_app_s (rt_byte v) (oa := 61) (os := 60) (k := 1) (by decide) h0 i
      have e1 : rt_app (rt_byte v) 61 60 1 n μ i 60 1 = nI (n + i) := by rw [g2]; simp [upd]
      have e2 : nI 24 - nI (8 * i) = nI (24 - 8 * i) := pk_sub (by omega)
      show fb_X8_append_3 v rec (nI 24 - nI (8 * i)) (rt_app (rt_byte v) 61 60 1 n μ i) = rec (nI 24 - nI (8 * (i + 1)), rt_app (rt_byte v) 61 60 1 n μ (i + 1))
      have e3 : nI (24 - 8 * i) + (-8) = nI 24 - nI (8 * (i + 1)) := by
        rw [← e2, Nat.mul_add, ← nI_add]
        show nI 24 - nI (8 * i) + -nI 8 = nI 24 - (nI (8 * i) + nI 8)
        rw [Int32.sub_eq_add_neg, Int32.sub_eq_add_neg, Int32.neg_add, Int32.add_assoc, Int32.sub_eq_add_neg]
      have e4 : ro_set (rt_app (rt_byte v) 61 60 1 n μ i) 61 (n + i) (rt_byte v i) 60 1 = nI (n + i) := by
        rw [ro_set_ne _ _ _ (by decide), e1]
      unfold fb_X8_append_3
      rw [e2, if_neg (nI_pos (by omega)), e1, if_neg (show ¬ (220 : Int32) ≤ nI (n + i) from nI_ge (b := 220) (by omega) (by decide)), if_pos (rt_in (n := 220) (by omega) (by decide)), nI_clamp (by omega)]
      show rec (nI (24 - 8 * i) + (-8), ro_set (ro_set (rt_app (rt_byte v) 61 60 1 n μ i) 61 (n + i) (rt_byte v i)) 60 1 (ro_set (rt_app (rt_byte v) 61 60 1 n μ i) 61 (n + i) (rt_byte v i) 60 1 + 1)) = _
      rw [e4, e3, nI_1]
      rfl
    · intro rec
      show fb_X8_append_3 v rec (nI 24 - nI 32) _ = _
      unfold fb_X8_append_3
      rw [if_pos (pk_sneg (by decide) (by decide))]
  unfold fn_X8_append
  rw [hl]
  rfl
theorem rt_types {v : Int32} {μ : ro_Mem} {n : Nat} (h0 : μ 207 13 = nI n) (hn : n + 4 ≤ 220) : fn_X12_types v μ = some (rt_app (rt_mbyte v) 217 207 13 n μ 4) := by
  have hl : fl_X12_types_2 v (3, μ) = some (rt_app (rt_mbyte v) 217 207 13 n μ 4) := by
    unfold fl_X12_types_2
    have hs : ((3 : Int32), μ) = (fun i => (nI 3 - nI i, rt_app (rt_mbyte v) 217 207 13 n μ i)) 0 := by
      show _ = (nI 3 - nI 0, μ)
      rw [pk_sub (by omega)]; rfl
    rw [hs]
    refine rt_loop (fun i => (nI 3 - nI i, rt_app (rt_mbyte v) 217 207 13 n μ i)) 4 ?_ ?_ ro_FU (by decide)
    · intro i hi rec
      obtain ⟨g1, g2, g3⟩ := rt_app_s (rt_mbyte v) (oa := 217) (os := 207) (k := 13) (by decide) h0 i
      have e1 : rt_app (rt_mbyte v) 217 207 13 n μ i 207 13 = nI (n + i) := by rw [g2]; simp [upd]
      have e2 : nI 3 - nI i = nI (3 - i) := pk_sub (by omega)
      show fb_X12_types_2 v rec (nI 3 - nI i) (rt_app (rt_mbyte v) 217 207 13 n μ i) = rec (nI 3 - nI (i + 1), rt_app (rt_mbyte v) 217 207 13 n μ (i + 1))
      have e3 : nI (3 - i) + (-1) = nI 3 - nI (i + 1) := by
        rw [← e2, ← nI_add]
        show nI 3 - nI i + -nI 1 = nI 3 - (nI i + nI 1)
        rw [Int32.sub_eq_add_neg, Int32.sub_eq_add_neg, Int32.neg_add, Int32.add_assoc, Int32.sub_eq_add_neg]
      have e4 : ro_set (rt_app (rt_mbyte v) 217 207 13 n μ i) 217 (n + i) (rt_mbyte v i) 207 13 = nI (n + i) := by
        rw [ro_set_ne _ _ _ (by decide), e1]
      have e5 : (8 : Int32) * nI (3 - i) = nI (24 - 8 * i) := by
        show nI 8 * nI (3 - i) = _
        rw [pk_mul]; congr 1; omega
      unfold fb_X12_types_2
      rw [e2, if_neg (nI_pos (by omega)), e1, if_pos (rt_in (n := 220) (by omega) (by decide)), nI_clamp (by omega), e5]
      show rec (nI (3 - i) + (-1), ro_set (ro_set (rt_app (rt_mbyte v) 217 207 13 n μ i) 217 (n + i) (rt_mbyte v i)) 207 13 (ro_set (rt_app (rt_mbyte v) 217 207 13 n μ i) 217 (n + i) (rt_mbyte v i) 207 13 + 1)) = _
      rw [e4, e3, nI_1]
      rfl
    · intro rec
      show fb_X12_types_2 v rec (nI 3 - nI 4) _ = _
      unfold fb_X12_types_2
      rw [if_pos (pk_sneg (by decide) (by decide))]
  unfold fn_X12_types
  rw [hl]
  rfl
theorem rt_ins_T {f mf : Nat → Int32} {n : Nat} (v : Int32) (h : ∀ i, i < 220 → (mf i &&& 255) = f i ∧ ∃ n, n < 256 ∧ f i = nI n) : ∀ i, i < 220 → (rt_ins (rt_mbyte v) mf n i &&& 255) = rt_ins (rt_byte v) f n i ∧ ∃ m, m < 256 ∧ rt_ins (rt_byte v) f n i = nI m := by
  intro i hi
  unfold rt_ins
  by_cases e : n ≤ i ∧ i < n + 4
  · rw [if_pos e, if_pos e]
    exact rt_bytes v (by omega)
  · rw [if_neg e, if_neg e]
    exact h i hi
theorem rt_feed5 (b : Int32 → Nat → Int32) {oa os k n : Nat} (ho : ¬ oa = os) (g : Int32 → ro_Mem → Option ro_Mem) (hg : ∀ v μ n, μ os k = nI n → n + 4 ≤ 220 → g v μ = some (rt_app (b v) oa os k n μ 4)) (v1 v2 v3 v4 v5 : Int32) {μ : ro_Mem} (h0 : μ os k = nI n) (hn : n + 20 ≤ 220) : ∃ M, ((g v1 μ).bind fun q2 => (g v2 q2).bind fun q4 => (g v3 q4).bind fun q6 => (g v4 q6).bind fun q8 => (g v5 q8).bind fun q10 => some (q10 os k, q10)) = some (nI (n + 20), M) ∧ (∀ o, ¬ o = oa → ¬ o = os → M o = μ o) ∧ M os = upd (μ os) k (nI (n + 20)) ∧ M oa = rt_ins (b v5) (rt_ins (b v4) (rt_ins (b v3) (rt_ins (b v2) (rt_ins (b v1) (μ oa) n) (n + 4)) (n + 8)) (n + 12)) (n + 16) := by
  have key : ∀ (v : Int32) (μ : ro_Mem) (n : Nat), μ os k = nI n → n + 4 ≤ 220 → ∃ M, g v μ = some M ∧ (∀ o, ¬ o = oa → ¬ o = os → M o = μ o) ∧ M os = upd (μ os) k (nI (n + 4)) ∧ M oa = rt_ins (b v) (μ oa) n := by
    intro v μ n h h4
    obtain ⟨g1, g2, g3⟩ := rt_app_s (b v) ho h 4
    exact ⟨_, hg v μ n h h4, g1, g2, g3⟩
  obtain ⟨m1, a1, b1, c1, d1⟩ := key v1 μ n h0 (by omega)
  obtain ⟨m2, a2, b2, c2, d2⟩ := key v2 m1 (n + 4) (by rw [c1]; simp [upd]) (by omega)
  obtain ⟨m3, a3, b3, c3, d3⟩ := key v3 m2 (n + 8) (by rw [c2]; simp [upd]) (by omega)
  obtain ⟨m4, a4, b4, c4, d4⟩ := key v4 m3 (n + 12) (by rw [c3]; simp [upd]) (by omega)
  obtain ⟨m5, a5, b5, c5, d5⟩ := key v5 m4 (n + 16) (by rw [c4]; simp [upd]) (by omega)
  refine ⟨m5, ?_, ?_, ?_, ?_⟩
  · rw [a1, Option.bind_some, a2, Option.bind_some, a3, Option.bind_some, a4, Option.bind_some, a5, Option.bind_some, c5]
    simp [upd]
  · intro o h1 h2
    rw [b5 o h1 h2, b4 o h1 h2, b3 o h1 h2, b2 o h1 h2, b1 o h1 h2]
  · rw [c5, c4, c3, c2, c1]
    funext j
    by_cases e : j = k
    · simp [upd, e]
    · simp [upd, e]
  · rw [d5, d4, d3, d2, d1]
theorem op_feed (a b c d e : Int32) (μ : ro_Mem) (hI : Inv μ) : ∃ r μ1 μ2, fn_X11_feed a b c d e μ = some (r, μ1) ∧ fn_X12_feed a b c d e μ1 = some (r, μ2) ∧ Inv μ2 := by
  obtain ⟨hm, ⟨n, hn, hsz⟩, hb⟩ := hI.2.2.1
  have hsm : μ 207 13 = nI n := by rw [hm, hsz]
  have e20 : nI n + 20 = nI (n + 20) := nI_add n 20
  by_cases h : n + 20 ≤ 220
  · have hl : nI (n + 20) ≤ nI 220 := nI_le h (by decide)
    obtain ⟨M, h1, h2, h3, h4⟩ := rt_feed5 rt_byte (oa := 61) (os := 60) (k := 1) (by decide) fn_X8_append (fun v μ n h h' => rt_append h h') a b c d e hsz h
    have hsM : M 207 13 = nI n := by rw [h2 207 (by decide) (by decide)]; exact hsm
    obtain ⟨P, p1, p2, p3, p4⟩ := rt_feed5 rt_mbyte (oa := 217) (os := 207) (k := 13) (by decide) fn_X12_types (fun v μ n h h' => rt_types h h') a b c d e hsM h
    refine ⟨nI (n + 20), M, P, ?_, ?_, ?_⟩
    · unfold fn_X11_feed
      rw [hsz, e20]
      refine (if_pos hl).trans ?_
      exact h1
    · unfold fn_X12_feed
      rw [hsM, e20]
      refine (if_pos hl).trans ?_
      exact p1
    · have hof : ∀ o, ¬ o = 60 → ¬ o = 61 → ¬ o = 207 → ¬ o = 217 → P o = μ o := fun o q1 q2 q3 q4 => by rw [p2 o q4 q3, h2 o q2 q1]
      have e207 : ∀ k, ¬ k = 13 → P 207 k = μ 207 k := fun k hk => by
        rw [p3, h2 207 (by decide) (by decide)]; simp [upd, hk]
      obtain ⟨hU, hB, hMo, hS, hR, hG, hN, hX⟩ := hI.1
      refine hI.calm ⟨?_, ?_, ?_, ?_, ?_, ?_, ?_, ?_⟩ ?_ (hof 0 (by omega) (by omega) (by omega) (by omega)) (by rw [hof 2 (by omega) (by omega) (by omega) (by omega)]) (by rw [hof 2 (by omega) (by omega) (by omega) (by omega)]) (fun o h => hof o (by omega) (by omega) (by omega) (by omega)) (fun k h => e207 k (by omega))
      · rw [hof 3 (by omega) (by omega) (by omega) (by omega), hof 208 (by omega) (by omega) (by omega) (by omega)]; exact hU
      · rw [hof 4 (by omega) (by omega) (by omega) (by omega), hof 209 (by omega) (by omega) (by omega) (by omega)]; exact hB
      · rw [hof 5 (by omega) (by omega) (by omega) (by omega), hof 210 (by omega) (by omega) (by omega) (by omega)]; exact hMo
      · rw [hof 6 (by omega) (by omega) (by omega) (by omega), hof 7 (by omega) (by omega) (by omega) (by omega), hof 8 (by omega) (by omega) (by omega) (by omega), hof 211 (by omega) (by omega) (by omega) (by omega), hof 212 (by omega) (by omega) (by omega) (by omega), hof 213 (by omega) (by omega) (by omega) (by omega), hof 2 (by omega) (by omega) (by omega) (by omega), e207 1 (by omega)]; exact hS
      · rw [hof 9 (by omega) (by omega) (by omega) (by omega), hof 214 (by omega) (by omega) (by omega) (by omega)]; exact hR
      · rw [hof 10 (by omega) (by omega) (by omega) (by omega), hof 11 (by omega) (by omega) (by omega) (by omega), hof 215 (by omega) (by omega) (by omega) (by omega), hof 216 (by omega) (by omega) (by omega) (by omega), hof 2 (by omega) (by omega) (by omega) (by omega), e207 2 (by omega)]; exact hG
      · rw [hof 12 (by omega) (by omega) (by omega) (by omega), hof 13 (by omega) (by omega) (by omega) (by omega), hof 14 (by omega) (by omega) (by omega) (by omega), hof 257 (by omega) (by omega) (by omega) (by omega), hof 258 (by omega) (by omega) (by omega) (by omega), hof 259 (by omega) (by omega) (by omega) (by omega), hof 2 (by omega) (by omega) (by omega) (by omega), e207 70 (by omega), e207 71 (by omega)]; exact hN
      · rw [hof 2 (by omega) (by omega) (by omega) (by omega), e207 0 (by omega)]; exact hX
      · have q61 := (p2 61 (by decide) (by decide)).trans h4
        have q217 := p4
        rw [h2 217 (by decide) (by decide)] at q217
        have q60 : P 60 1 = nI (n + 20) := by rw [p2 60 (by decide) (by decide), h3]; simp [upd]
        have q207 : P 207 13 = nI (n + 20) := by rw [p3]; simp [upd]
        rw [q61, q217, q60, q207]
        exact ⟨rfl, ⟨n + 20, h, rfl⟩, rt_ins_T e (rt_ins_T d (rt_ins_T c (rt_ins_T b (rt_ins_T a hb))))⟩
  · have hl : ¬ nI (n + 20) ≤ nI 220 := nI_ge (by omega) (by omega)
    refine ⟨-1, μ, μ, ?_, ?_, hI⟩
    · unfold fn_X11_feed
      rw [hsz, e20]
      exact if_neg hl
    · unfold fn_X12_feed
      rw [hsm, e20]
      exact if_neg hl
-- ===== draw =====
def sp_x (n : Nat) : Nat → Nat
  | 0 => n
  | i + 1 => (25173 * sp_x n i + 13849) % 65536
def sp_xs (n : Nat) : Nat → Nat
  | 0 => 0
  | i + 1 => sp_xs n i + sp_x n (i + 1) % 10
theorem sp_x_lt {n : Nat} (h : n < 65536) : ∀ i, sp_x n i < 65536
  | 0 => h
  | i + 1 => Nat.mod_lt _ (by decide)
def rt_dr (ox kx oR n : Nat) (μ : ro_Mem) : Nat → ro_Mem
  | 0 => μ
  | i + 1 => ro_set (ro_set (rt_dr ox kx oR n μ i) ox kx (nI (sp_x n (i + 1)))) oR i (nI (sp_x n (i + 1) % 10))
theorem rt_dr_s {ox kx oR n : Nat} {μ : ro_Mem} (ho : ¬ oR = ox) (h0 : μ ox kx = nI n) : ∀ i, (∀ o, ¬ o = ox → ¬ o = oR → rt_dr ox kx oR n μ i o = μ o) ∧ rt_dr ox kx oR n μ i ox = upd (μ ox) kx (nI (sp_x n i)) ∧ rt_dr ox kx oR n μ i oR = fun j => if j < i then nI (sp_x n (j + 1) % 10) else μ oR j := by
  intro i
  induction i with
  | zero =>
    refine ⟨fun o _ _ => rfl, ?_, ?_⟩
    · show μ ox = upd (μ ox) kx (nI n)
      rw [← h0]
      funext j
      by_cases e : j = kx
      · rw [e]; simp [upd]
      · simp [upd, e]
    · funext j
      rw [if_neg (by omega)]
      rfl
  | succ i ih =>
    obtain ⟨h1, h2, h3⟩ := ih
    refine ⟨fun o ha hs => ?_, ?_, ?_⟩
    · show ro_set (ro_set _ _ _ _) _ _ _ o = _
      rw [ro_set_ne _ _ _ hs, ro_set_ne _ _ _ ha, h1 o ha hs]
    · show ro_set (ro_set _ _ _ _) _ _ _ ox = _
      rw [ro_set_ne _ _ _ (fun q => ho q.symm), ro_set_same, h2]
      funext j
      by_cases e : j = kx
      · simp [upd, e]
      · simp [upd, e]
    · show ro_set (ro_set _ _ _ _) _ _ _ oR = _
      rw [ro_set_same, ro_set_ne _ _ _ ho, h3]
      funext j
      unfold upd
      by_cases e : j = i
      · rw [if_pos e, if_pos (by omega), e]
      · rw [if_neg e]
        by_cases e2 : j < i
        · dsimp only; rw [if_pos e2, if_pos (by omega)]
        · dsimp only; rw [if_neg e2, if_neg (by omega)]
theorem rt_dr_n {n : Nat} (h : n < 65536) : (25173 : Int32) * nI n + 13849 = nI (25173 * n + 13849) ∧ 25173 * n + 13849 < 2 ^ 31 := by
  refine ⟨?_, by omega⟩
  show nI 25173 * nI n + nI 13849 = _
  rw [pk_mul, nI_add]
theorem rt_draw {ox kx oR n : Nat} {μ : ro_Mem} (ho : ¬ oR = ox) (h0 : μ ox kx = nI n) (hn : n < 65536) (b : ((Int32 × Int32 × ro_Mem) → Option (Int32 × ro_Mem)) → (Int32 × Int32 × ro_Mem) → Option (Int32 × ro_Mem)) (hb : ∀ rec z i m y, i < 4 → m ox kx = nI y → y < 65536 → b rec (z, nI i, m) = rec (z + nI ((25173 * y + 13849) % 65536 % 10), nI (i + 1), ro_set (ro_set m ox kx (nI ((25173 * y + 13849) % 65536))) oR i (nI ((25173 * y + 13849) % 65536 % 10)))) (he : ∀ rec z m, b rec (z, nI 4, m) = some (z, m)) : ro_loop b ro_FU (0, 0, μ) = some (nI (sp_xs n 4), rt_dr ox kx oR n μ 4) := by
  have hs : ((0 : Int32), (0 : Int32), μ) = (fun i => (nI (sp_xs n i), nI i, rt_dr ox kx oR n μ i)) 0 := rfl
  rw [hs]
  refine rt_loop (fun i => (nI (sp_xs n i), nI i, rt_dr ox kx oR n μ i)) 4 ?_ ?_ ro_FU (by decide)
  · intro i hi rec
    obtain ⟨g1, g2, g3⟩ := rt_dr_s (n := n) ho h0 i
    have e1 : rt_dr ox kx oR n μ i ox kx = nI (sp_x n i) := by rw [g2]; simp [upd]
    show b rec (nI (sp_xs n i), nI i, rt_dr ox kx oR n μ i) = _
    rw [hb rec _ i _ _ hi e1 (sp_x_lt hn i), nI_add]
    rfl
  · intro rec
    exact he rec _ _
theorem op_draw (μ : ro_Mem) (hI : Inv μ) : ∃ r μ1 μ2, fn_X11_draw μ = some (r, μ1) ∧ fn_X12_draw μ1 = some (r, μ2) ∧ Inv μ2 := by
  obtain ⟨hU, hB, hMo, hS, hR, hG, hN, hX⟩ := hI.1
  obtain ⟨hm, n, hn, hx⟩ := hX
  have h1 : fl_X11_draw_12 (0, 0, μ) = some (nI (sp_xs n 4), rt_dr 2 17 9 n μ 4) := by
    unfold fl_X11_draw_12
    refine rt_draw (by decide) hx hn _ ?_ ?_
    · intro rec z i m y hi hy hy2
      obtain ⟨q1, q2⟩ := rt_dr_n hy2
      have q3 : nI (25173 * y + 13849) &&& 65535 = nI ((25173 * y + 13849) % 65536) := fa_mask _ 16
      have q4 : ro_rem (nI ((25173 * y + 13849) % 65536)) 10 = nI ((25173 * y + 13849) % 65536 % 10) := by
        show _ - _ / nI 10 * nI 10 = _
        rw [pk_rem (by omega) (by decide) (by decide)]
      show fb_X11_draw_12 rec z (nI i) m = _
      unfold fb_X11_draw_12
      rw [if_neg (show ¬ (4 : Int32) ≤ nI i from nI_ge hi (by decide)), hy, q1, q3]
      show (if ro_in (nI i) 4 then _ else none) = _
      rw [if_pos (rt_in hi (by decide)), nI_clamp (by omega)]
      simp only [ro_lt, ro_set_same, upd, if_true, q4, nI_1]
    · intro rec z m
      rfl
  have h2 : ∀ M : ro_Mem, M 207 0 = nI n → fl_X12_draw_4 (0, 0, M) = some (nI (sp_xs n 4), rt_dr 207 0 214 n M 4) := by
    intro M hM
    unfold fl_X12_draw_4
    refine rt_draw (by decide) hM hn _ ?_ ?_
    · intro rec z i m y hi hy hy2
      obtain ⟨q1, q2⟩ := rt_dr_n hy2
      have q3 : ro_rem (nI (25173 * y + 13849)) 65536 = nI ((25173 * y + 13849) % 65536) := by
        show _ - _ / nI 65536 * nI 65536 = _
        rw [pk_rem q2 (by decide) (by decide)]
      have q4 : ro_rem (nI ((25173 * y + 13849) % 65536)) 10 = nI ((25173 * y + 13849) % 65536 % 10) := by
        show _ - _ / nI 10 * nI 10 = _
        rw [pk_rem (by omega) (by decide) (by decide)]
      show fb_X12_draw_4 rec z (nI i) m = _
      unfold fb_X12_draw_4
      rw [if_neg (show ¬ (4 : Int32) ≤ nI i from nI_ge hi (by decide)), hy, q1, q3]
      show (if ro_in (nI i) 4 then _ else none) = _
      rw [if_pos (rt_in hi (by decide)), nI_clamp (by omega)]
      simp only [ro_lt, ro_set_same, upd, if_true, q4, nI_1]
    · intro rec z m
      rfl
  obtain ⟨c1, c2, c3⟩ := rt_dr_s (n := n) (oR := 9) (by decide) hx 4
  obtain ⟨D, hD⟩ : ∃ D, D = ro_set (rt_dr 2 17 9 n μ 4) 0 7 1 := ⟨_, rfl⟩
  have d207 : D 207 0 = nI n := by rw [hD, ro_set_ne _ _ _ (by decide), c1 207 (by decide) (by decide), hm, hx]
  obtain ⟨m1, m2, m3⟩ := rt_dr_s (n := n) (oR := 214) (by decide) d207 4
  generalize hM : rt_dr 207 0 214 n D 4 = M at m1 m2 m3
  have hof : ∀ o, ¬ o = 0 → ¬ o = 2 → ¬ o = 9 → ¬ o = 207 → ¬ o = 214 → M o = μ o := fun o q0 q1 q2 q3 q4 => by
    rw [m1 o q3 q4, hD, ro_set_ne _ _ _ q0, c1 o q1 q2]
  have dD : ∀ o, ¬ o = 0 → D o = rt_dr 2 17 9 n μ 4 o := fun o h => by rw [hD, ro_set_ne _ _ _ h]
  have e2 : M 2 = upd (μ 2) 17 (nI (sp_x n 4)) := by rw [m1 2 (by decide) (by decide), dD 2 (by decide), c2]
  have e207 : M 207 = upd (μ 207) 0 (nI (sp_x n 4)) := by rw [m2, dD 207 (by decide), c1 207 (by decide) (by decide)]
  have f2 : ∀ k, ¬ k = 17 → M 2 k = μ 2 k := fun k hk => by rw [e2]; simp [upd, hk]
  have f207 : ∀ k, ¬ k = 0 → M 207 k = μ 207 k := fun k hk => by rw [e207]; simp [upd, hk]
  have e9 : ∀ a, a < 4 → M 9 a = nI (sp_x n (a + 1) % 10) := fun a ha => by
    rw [m1 9 (by decide) (by decide), dD 9 (by decide), c3]; simp [ha]
  have e214 : ∀ a, a < 4 → M 214 a = nI (sp_x n (a + 1) % 10) := fun a ha => by
    rw [m3]; simp [ha]
  refine ⟨nI (sp_xs n 4), D, M, ?_, ?_, ?_⟩
  · unfold fn_X11_draw
    rw [h1, hD]
    rfl
  · unfold fn_X12_draw
    rw [h2 D d207, hM]
    rfl
  · refine hI.house ⟨?_, ?_, ?_, ?_, ?_, ?_, ?_, ?_⟩ ?_ ?_ (fun o h => hof o (by omega) (by omega) (by omega) (by omega) (by omega)) (fun k h => f207 k (by omega))
    · rw [hof 3 (by omega) (by omega) (by omega) (by omega) (by omega), hof 208 (by omega) (by omega) (by omega) (by omega) (by omega)]; exact hU
    · rw [hof 4 (by omega) (by omega) (by omega) (by omega) (by omega), hof 209 (by omega) (by omega) (by omega) (by omega) (by omega)]; exact hB
    · rw [hof 5 (by omega) (by omega) (by omega) (by omega) (by omega), hof 210 (by omega) (by omega) (by omega) (by omega) (by omega)]; exact hMo
    · rw [hof 6 (by omega) (by omega) (by omega) (by omega) (by omega), hof 7 (by omega) (by omega) (by omega) (by omega) (by omega), hof 8 (by omega) (by omega) (by omega) (by omega) (by omega), hof 211 (by omega) (by omega) (by omega) (by omega) (by omega), hof 212 (by omega) (by omega) (by omega) (by omega) (by omega), hof 213 (by omega) (by omega) (by omega) (by omega) (by omega), f2 6 (by omega), f2 7 (by omega), f207 1 (by omega)]; exact hS
    · intro a ha
      rw [e9 a ha, e214 a ha]
      exact ⟨rfl, _, by omega, rfl⟩
    · rw [hof 10 (by omega) (by omega) (by omega) (by omega) (by omega), hof 11 (by omega) (by omega) (by omega) (by omega) (by omega), hof 215 (by omega) (by omega) (by omega) (by omega) (by omega), hof 216 (by omega) (by omega) (by omega) (by omega) (by omega), f2 11 (by omega), f207 2 (by omega)]; exact hG
    · rw [hof 12 (by omega) (by omega) (by omega) (by omega) (by omega), hof 13 (by omega) (by omega) (by omega) (by omega) (by omega), hof 14 (by omega) (by omega) (by omega) (by omega) (by omega), hof 257 (by omega) (by omega) (by omega) (by omega) (by omega), hof 258 (by omega) (by omega) (by omega) (by omega) (by omega), hof 259 (by omega) (by omega) (by omega) (by omega) (by omega), f2 12 (by omega), f2 13 (by omega), f207 70 (by omega), f207 71 (by omega)]; exact hN
    · rw [e2, e207]
      exact ⟨by simp [upd], sp_x n 4, sp_x_lt hn 4, by simp [upd]⟩
    · rw [m1 0 (by decide) (by decide), hD]; simp [ro_set, upd]
    · intro k hk
      rw [m1 0 (by decide) (by decide), hD]
      have : rt_dr 2 17 9 n μ 4 0 = μ 0 := c1 0 (by decide) (by decide)
      simp [ro_set, upd, hk, this]
