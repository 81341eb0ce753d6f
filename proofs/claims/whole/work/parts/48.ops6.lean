-- ===== calls that only look: note, soFar, count =====
theorem rt_rng (v : Int32) (a n : Nat) (h : a + n < 2 ^ 31) : (v < nI a ∨ nI (a + n) ≤ v) ∨ ∃ j, j < n ∧ v = nI (a + j) := by
  rcases rt_ix v (a + n) h with (h1 | h1) | ⟨j, hj, rfl⟩
  · refine Or.inl (Or.inl ?_)
    rw [fa_lt] at *
    rw [nI_toInt (by omega)]
    have : (0 : Int32).toInt = 0 := by decide
    omega
  · exact Or.inl (Or.inr h1)
  · by_cases hl : j < a
    · exact Or.inl (Or.inl (nI_lt hl (by omega)))
    · exact Or.inr ⟨j - a, by omega, by rw [show a + (j - a) = j by omega]⟩
theorem rt_if0 {α : Sort _} {x y : α} : (if (0 : Int32) = 0 then x else y) = x := if_pos rfl
theorem rt_if1 {α : Sort _} {x y : α} : (if (1 : Int32) = 0 then x else y) = y := if_neg (by decide)
theorem rt_sb (a j : Nat) : nI (a + j) - nI a = nI j := by rw [pk_sub (by omega), Nat.add_sub_cancel_left]
theorem rt_inO {v : Int32} (a n : Nat) (h : a + n < 2 ^ 31) (hn : 0 < n) (hv : v < nI a ∨ nI (a + n) ≤ v) : fn_X12_in v (nI a) (nI (a + n - 1)) = some 0 := by
  rw [rt_inn, if_pos]
  rcases hv with hv | hv
  · exact Or.inl hv
  · refine Or.inr ?_
    rw [fa_le, nI_toInt (by omega)] at hv
    rw [fa_lt, nI_toInt (by omega)]
    omega
theorem rt_inI {a n j : Nat} (h : a + n < 2 ^ 31) (hj : j < n) : fn_X12_in (nI (a + j)) (nI a) (nI (a + n - 1)) = some 1 := by
  rw [rt_inn, if_neg]
  rintro (h1 | h1)
  · rw [nI_ltI (by omega) (by omega)] at h1; omega
  · rw [nI_ltI (by omega) (by omega)] at h1; omega
theorem rt_else {α : Sort _} {v : Int32} {a b : Int32} {x y : α} (h : v < a ∨ b ≤ v) : (if v < a then x else if b ≤ v then x else y) = x := by
  by_cases h1 : v < a
  · rw [if_pos h1]
  · rw [if_neg h1, if_pos (h.resolve_left h1)]
theorem rt_then {α : Sort _} {a n j : Nat} {x y : α} (h : a + n < 2 ^ 31) (hj : j < n) : (if nI (a + j) < nI a then x else if nI (a + n) ≤ nI (a + j) then x else y) = y := by
  rw [if_neg (nI_nlt (by omega) (by omega)), if_neg (nI_ge (by omega) (by omega))]
theorem rt_sc5 {μ : ro_Mem} (h : iv_SW μ) : ro_sh (ro_rf μ 1 1) = (0, 5) ∧ ro_sh (ro_rf μ 1 2) = (0, 2) := by
  obtain ⟨h1, h2⟩ := cg_rf h
  refine ⟨?_, ?_⟩
  · rcases h1 with e | e <;> rw [e] <;> decide +kernel
  · rcases h2 with e | e <;> rw [e] <;> decide +kernel
theorem op_note (a b : Int32) (μ : ro_Mem) (hI : Inv μ) : ∃ r, fn_X11_note a b μ = some r ∧ fn_X12_note a b μ = some r := by
  obtain ⟨-, -, -, hSW, hC, -, -, -⟩ := hI
  obtain ⟨e1, -, -, N, B, A, hN, -, -, hn, -, -, hj, -⟩ := hC
  have hs := (rt_sc5 hSW).1
  have hsc : ∀ j, j ≤ 5 → iv_sc μ j = μ (ro_rf μ 1 1 + j) := fun j h => by unfold iv_sc; rw [if_pos h]
  have hmc : ∀ j, 1 ≤ j → j ≤ 5 → iv_mc μ j = μ (217 + j) := fun j h h' => by unfold iv_mc; rw [if_pos ⟨h, h'⟩]
  rw [hsc 0 (by decide)] at e1 hn
  have hn' : μ (ro_rf μ 1 1) 5 = nI N := hn
  have e1' : μ 207 18 = nI N := by rw [e1]; exact hn
  rcases rt_ix a N (by omega) with h | ⟨i, hi, rfl⟩
  · refine ⟨-1, ?_, ?_⟩
    · simp only [fn_X11_note, if_pos hs, hn']
      by_cases h1 : a < 0
      · rw [if_pos h1]
      · rw [if_neg h1, if_neg (Int32.not_lt.mpr (h.resolve_left h1))]
    · have : fn_X12_isNote a μ = some 0 := by
        simp only [fn_X12_isNote, e1']
        by_cases h1 : a < 0
        · rw [if_pos h1]
        · rw [if_neg h1, if_pos (h.resolve_left h1)]
      simp only [fn_X12_note, this, Option.bind_some, if_true]
  · have q0 : ¬ nI i < 0 := nI_pos (by omega)
    have q1 : nI i < nI N := nI_lt hi (by omega)
    have q2 : ro_in (nI i) 32 := rt_in (by omega) (by decide)
    have q3 : fn_X12_isNote (nI i) μ = some 1 := by
      simp only [fn_X12_isNote, e1', if_neg q0, if_neg (Int32.not_le.mpr q1)]
    have hjj : ∀ j, 1 ≤ j → j ≤ 5 → μ (217 + j) i = μ (ro_rf μ 1 1 + j) i := fun j h h' => by
      have := hj j i h h' hi
      rwa [hsc j h', hmc j h h'] at this
    have h1 : μ 218 i = μ (ro_rf μ 1 1 + 1) i := hjj 1 (by decide) (by decide)
    have h2 : μ 219 i = μ (ro_rf μ 1 1 + 2) i := hjj 2 (by decide) (by decide)
    have h3 : μ 220 i = μ (ro_rf μ 1 1 + 3) i := hjj 3 (by decide) (by decide)
    have h4 : μ 221 i = μ (ro_rf μ 1 1 + 4) i := hjj 4 (by decide) (by decide)
    have h5 : μ 222 i = μ (ro_rf μ 1 1 + 5) i := hjj 5 (by decide) (by decide)
    have hi2 : (nI i).toNatClampNeg = i := nI_clamp (by omega)
    simp only [fn_X11_note, fn_X12_note, if_pos hs, if_neg q0, hn', if_pos q1, if_pos q2, q3, Option.bind_some, if_neg rt_10, hi2, h1, h2, h3, h4, h5]
    by_cases c0 : b = 0
    · exact ⟨_, if_pos c0, if_pos c0⟩
    · rw [if_neg c0]
      by_cases c1 : b = 1
      · exact ⟨_, if_pos c1, if_pos c1⟩
      · rw [if_neg c1]
        by_cases c2 : b = 2
        · exact ⟨_, if_pos c2, if_pos c2⟩
        · rw [if_neg c2]
          by_cases c3 : b = 3
          · exact ⟨_, if_pos c3, if_pos c3⟩
          · rw [if_neg c3]
            by_cases c4 : b = 4
            · exact ⟨_, if_pos c4, if_pos c4⟩
            · exact ⟨-1, if_neg c4, if_neg c4⟩
set_option maxRecDepth 4096 in
theorem op_soFar (a : Int32) (μ : ro_Mem) (hI : Inv μ) : ∃ r, fn_X11_soFar a μ = some r ∧ fn_X12_soFar a μ = some r := by
  have hG := hI.1.2.2.2.2.2.1
  have hto : μ 207 2 = μ 2 11 := hG.1
  obtain ⟨n1, n2, n3, n4, n5⟩ := hI.1.2.2.2.2.2.2.1
  by_cases a0 : a = 0
  · exact ⟨μ 2 12, by simp only [fn_X11_soFar, if_pos a0], by simp only [fn_X12_soFar, if_pos a0, n1]⟩
  by_cases a1 : a = 1
  · exact ⟨μ 2 13, by simp only [fn_X11_soFar, if_neg a0, if_pos a1], by simp only [fn_X12_soFar, if_neg a0, if_pos a1, n2]⟩
  have c82 : ∀ v, v < (40 : Int32) → fj_X11_soFar_82 v μ = some (-1) := fun v h => by simp only [fj_X11_soFar_82, if_pos h]
  have c60 : ∀ v, v < (20 : Int32) → fj_X11_soFar_60 v μ = some (-1) := fun v h => by
    simp only [fj_X11_soFar_60, if_pos h]
    exact c82 v (fa_trans h (by decide))
  rcases rt_rng a 10 10 (by decide) with h | ⟨j, hj, rfl⟩
  · have hx : fn_X11_soFar a μ = fj_X11_soFar_60 a μ := by
      simp only [fn_X11_soFar, if_neg a0, if_neg a1]
      exact rt_else (a := 10) (b := 20) h
    have hy : fn_X12_in a 10 19 = some 0 := rt_inO 10 10 (by decide) (by decide) h
    rw [hx]
    simp only [fn_X12_soFar, if_neg a0, if_neg a1, hy, Option.bind_some, if_true]
    rcases rt_rng a 20 16 (by decide) with h | ⟨j, hj, rfl⟩
    · have hx : fj_X11_soFar_60 a μ = fj_X11_soFar_82 a μ := by unfold fj_X11_soFar_60; exact rt_else (a := 20) (b := 36) h
      have hy : fn_X12_in a 20 35 = some 0 := rt_inO 20 16 (by decide) (by decide) h
      rw [hx]
      rw [hy, Option.bind_some, rt_if0]
      rcases rt_rng a 40 32 (by decide) with h | ⟨j, hj, rfl⟩
      · have hx : fj_X11_soFar_82 a μ = some (-1) := by unfold fj_X11_soFar_82; exact rt_else (a := 40) (b := 72) h
        have hy : fn_X12_in a 40 71 = some 0 := rt_inO 40 32 (by decide) (by decide) h
        rw [hx]
        rw [hy, Option.bind_some, rt_if0]
        exact ⟨_, rfl, rfl⟩
      · have hy : fn_X12_in (nI (40 + j)) 40 71 = some 1 := rt_inI (n := 32) (by omega) hj
        have hs : nI (40 + j) - 40 = nI j := rt_sb 40 j
        have hx : fj_X11_soFar_82 (nI (40 + j)) μ = some (μ 14 j) := by
          unfold fj_X11_soFar_82
          refine (rt_then (a := 40) (n := 32) (by omega) hj).trans ?_
          rw [hs, if_pos (rt_in hj (by decide)), nI_clamp (by omega)]
        rw [hx]
        simp only [hy, Option.bind_some, if_neg rt_10, hs, if_pos (rt_in hj (by decide)), nI_clamp (show j < 2 ^ 31 by omega)]
        exact ⟨_, rfl, by rw [n5 j hj]⟩
    · have hy : fn_X12_in (nI (20 + j)) 20 35 = some 1 := rt_inI (n := 16) (by omega) hj
      have hs : nI (20 + j) - 20 = nI j := rt_sb 20 j
      have hx : fj_X11_soFar_60 (nI (20 + j)) μ = some (μ 13 j) := by
        unfold fj_X11_soFar_60
        refine (rt_then (a := 20) (n := 16) (by omega) hj).trans ?_
        rw [hs, if_pos (rt_in hj (by decide)), nI_clamp (by omega)]
      rw [hx]
      simp only [hy, Option.bind_some, if_neg rt_10, hs, if_pos (rt_in hj (by decide)), nI_clamp (show j < 2 ^ 31 by omega)]
      exact ⟨_, rfl, by rw [n4 j hj]⟩
  · have hy : fn_X12_in (nI (10 + j)) 10 19 = some 1 := rt_inI (n := 10) (by omega) hj
    have hs : nI (10 + j) - 10 = nI j := rt_sb 10 j
    have hl : nI (10 + j) < nI 20 := nI_lt (by omega) (by decide)
    have hx : fn_X11_soFar (nI (10 + j)) μ = (fn_X1_isGuest 2 (nI j) μ).bind fun q11 => if q11 = 0 then fj_X11_soFar_60 (nI (10 + j)) μ else some (μ 12 j) := by
      simp only [fn_X11_soFar, if_neg a0, if_neg a1]
      refine (rt_then (a := 10) (n := 10) (by omega) hj).trans ?_
      rw [hs]
      simp only [if_pos (rt_in hj (by decide)), nI_clamp (show j < 2 ^ 31 by omega)]
    rw [hx]
    simp only [fn_X12_soFar, if_neg a0, if_neg a1, hy, Option.bind_some, if_neg rt_10, hs, rt_guestC hj, rt_guestM hj, hto, c60 _ hl]
    cases bt (μ 2 11) j
    · exact ⟨-1, rfl, rfl⟩
    · simp only [if_true, if_neg rt_10, if_pos (rt_in hj (by decide)), nI_clamp (show j < 2 ^ 31 by omega)]
      exact ⟨_, rfl, by rw [n3 j hj]⟩
theorem rt_slateI {μ : ro_Mem} (hS : iv_S (μ 6) (μ 7) (μ 8) (μ 211) (μ 212) (μ 213) (μ 2 6) (μ 2 7) (μ 207 1)) {k : Nat} (hk : k < 16) : fn_X12_isSlate (nI k) μ = some (if bt (μ 2 6) k = true then 1 else 0) := by
  rw [rt_slateM hk]
  obtain ⟨-, -, -, h⟩ := hS
  obtain ⟨⟨n, hn, e⟩, h1, h2⟩ := h k hk
  cases hb : bt (μ 2 6) k
  · rw [h2 hb]; rfl
  · rw [(h1 hb).1, e, if_neg (rt_m1 (by omega))]; rfl
/-- the bits below n -/
def rt_low (x : Int32) (n : Nat) : Int32 := x &&& nI (2 ^ n - 1)
theorem rt_lowb {x : Int32} {n : Nat} (hn : n ≤ 31) {i : Nat} (hi : i < 32) : bt (rt_low x n) i = (bt x i && decide (i < n)) := by
  unfold rt_low
  rw [b_and]
  have : bt (nI (2 ^ n - 1)) i = decide (i < n) := by
    unfold bt nI
    show (BitVec.ofNat 32 (2 ^ n - 1)).getLsbD i = _
    rw [BitVec.getLsbD_ofNat, Nat.testBit_two_pow_sub_one]
    simp [hi]
  rw [this]
theorem rt_slateBits {μ : ro_Mem} (hS : iv_S (μ 6) (μ 7) (μ 8) (μ 211) (μ 212) (μ 213) (μ 2 6) (μ 2 7) (μ 207 1)) : fn_X12_slateBits μ = some (μ 2 6) := by
  have hl : fl_X12_slateBits_4 μ (0, 0) = some (rt_low (μ 2 6) 16) := by
    unfold fl_X12_slateBits_4
    have h0 : ((0 : Int32), (0 : Int32)) = (fun i => (rt_low (μ 2 6) i, nI i)) 0 := by
      show _ = (rt_low (μ 2 6) 0, nI 0)
      refine Prod.ext ?_ rfl
      apply b_ext
      intro i hi
      rw [rt_lowb (by decide) hi, b_0]
      simp
    rw [h0]
    refine rt_loop (fun i => (rt_low (μ 2 6) i, nI i)) 16 ?_ ?_ ro_FU (by decide)
    · intro k hk rec
      have h1 : ¬ (16 : Int32) ≤ nI k := nI_ge hk (by decide)
      show fb_X12_slateBits_4 μ rec (rt_low (μ 2 6) k) (nI k) = rec (rt_low (μ 2 6) (k + 1), nI (k + 1))
      simp only [fb_X12_slateBits_4, if_neg h1, rt_slateI hS hk, Option.bind_some, nI_1, ro_lt]
      have step : ∀ z, (∀ i, i < 32 → bt z i = bt (rt_low (μ 2 6) (k + 1)) i) → rec (z, nI (k + 1)) = rec (rt_low (μ 2 6) (k + 1), nI (k + 1)) := fun z h => by rw [b_ext h]
      cases hb : bt (μ 2 6) k
      · refine step _ (fun i hi => ?_)
        rw [rt_lowb (by omega) hi, rt_lowb (by omega) hi]
        by_cases e : i = k
        · subst e; rw [hb]; rfl
        · congr 1
          exact decide_eq_decide.mpr (by omega)
      · rw [if_neg (show ¬ (if true = true then (1 : Int32) else 0) = 0 by decide)]
        refine step _ (fun i hi => ?_)
        rw [rt_or (by omega) hi, rt_lowb (by omega) hi, rt_lowb (by omega) hi]
        by_cases e : i = k
        · subst e; rw [hb]; simp
        · rw [decide_eq_false e, Bool.or_false]
          congr 1
          exact decide_eq_decide.mpr (by omega)
    · intro rec
      show fb_X12_slateBits_4 μ rec (rt_low (μ 2 6) 16) (nI 16) = _
      simp only [fb_X12_slateBits_4, if_pos (show (16 : Int32) ≤ nI 16 from Int32.le_refl _)]
  simp only [fn_X12_slateBits, hl, Option.bind_some]
  congr 1
  apply b_ext
  intro i hi
  rw [rt_lowb (by decide) hi]
  by_cases h : i < 16
  · simp [h]
  · rw [hS.2.1 i (by omega)]; rfl
set_option maxRecDepth 4096 in
theorem op_count (a : Int32) (μ : ro_Mem) (hI : Inv μ) : ∃ r, fn_X11_count a μ = some r ∧ fn_X12_count a μ = some r := by
  obtain ⟨⟨hU, hB, hMo, hS, hR, hG, hN, hX⟩, -, hT, hSW, hC, hW, -, -⟩ := hI
  have hto : μ 207 2 = μ 2 11 := hG.1
  obtain ⟨s5, s2⟩ := rt_sc5 hSW
  have hsc : ∀ j, j ≤ 5 → iv_sc μ j = μ (ro_rf μ 1 1 + j) := fun j h => by unfold iv_sc; rw [if_pos h]
  have hlw : iv_lw μ 0 = μ (ro_rf μ 1 2) := by unfold iv_lw; rw [if_pos (by decide)]; rfl
  have c1 : μ 207 18 = μ (ro_rf μ 1 1) 5 := by rw [hC.1, hsc 0 (by decide)]; rfl
  have c2 : μ 207 19 = μ (ro_rf μ 1 1) 6 := by rw [hC.2.1, hsc 0 (by decide)]; rfl
  have c3 : μ 207 20 = μ (ro_rf μ 1 1) 7 := by rw [hC.2.2.1, hsc 0 (by decide)]; rfl
  have c4 : μ 207 38 = μ (ro_rf μ 1 2) 3 := by rw [hW.1, hlw]
  simp only [fn_X11_count, fn_X12_count, if_pos s5, if_pos s2, c1, c2, c3, c4, hT.1, hX.1, rt_slateBits hS, hS.1, hto, Option.bind_some]
  by_cases a0 : a = 0
  · exact ⟨_, if_pos a0, if_pos a0⟩
  rw [if_neg a0, if_neg a0]
  by_cases a1 : a = 1
  · exact ⟨_, if_pos a1, if_pos a1⟩
  rw [if_neg a1, if_neg a1]
  by_cases a2 : a = 2
  · exact ⟨_, if_pos a2, if_pos a2⟩
  rw [if_neg a2, if_neg a2]
  by_cases a3 : a = 3
  · exact ⟨_, if_pos a3, if_pos a3⟩
  rw [if_neg a3, if_neg a3]
  by_cases a4 : a = 4
  · exact ⟨_, if_pos a4, if_pos a4⟩
  rw [if_neg a4, if_neg a4]
  by_cases a5 : a = 5
  · exact ⟨_, if_pos a5, if_pos a5⟩
  rw [if_neg a5, if_neg a5]
  by_cases a6 : a = 6
  · exact ⟨_, if_pos a6, if_pos a6⟩
  rw [if_neg a6, if_neg a6]
  by_cases a7 : a = 7
  · exact ⟨_, if_pos a7, if_pos a7⟩
  rw [if_neg a7, if_neg a7]
  by_cases a8 : a = 8
  · exact ⟨_, if_pos a8, if_pos a8⟩
  rw [if_neg a8, if_neg a8]
  have hid : ∀ x : Option Int32, (x.bind fun q5 => some q5) = x := fun x => by cases x <;> rfl
  rw [hid]
  rcases rt_rng a 10 4 (by decide) with h | ⟨j, hj, rfl⟩
  · have hx : fn_X1_countAt 2 a μ = fj_X1_countAt_22 2 a μ := by unfold fn_X1_countAt; exact rt_else (a := 10) (b := 14) h
    have hy : fn_X12_in a 10 13 = some 0 := rt_inO 10 4 (by decide) (by decide) h
    rw [hx]
    rw [hy, Option.bind_some, rt_if0]
    rcases rt_rng a 100 96 (by decide) with h | ⟨j, hj, rfl⟩
    · have hx : fj_X1_countAt_22 2 a μ = fj_X1_countAt_45 2 a μ := by unfold fj_X1_countAt_22; exact rt_else (a := 100) (b := 196) h
      have hy : fn_X12_in a 100 195 = some 0 := rt_inO 100 96 (by decide) (by decide) h
      rw [hx]
      rw [hy, Option.bind_some, rt_if0]
      rcases rt_rng a 200 96 (by decide) with h | ⟨j, hj, rfl⟩
      · have hx : fj_X1_countAt_45 2 a μ = fj_X1_countAt_91 2 a μ := by unfold fj_X1_countAt_45; exact rt_else (a := 200) (b := 296) h
        have hy : fn_X12_in a 200 295 = some 0 := rt_inO 200 96 (by decide) (by decide) h
        rw [hx]
        rw [hy, Option.bind_some, rt_if0]
        rcases rt_rng a 300 40 (by decide) with h | ⟨j, hj, rfl⟩
        · have hx : fj_X1_countAt_91 2 a μ = some (-1) := by unfold fj_X1_countAt_91; exact rt_else (a := 300) (b := 340) h
          have hy : fn_X12_in a 300 339 = some 0 := rt_inO 300 40 (by decide) (by decide) h
          rw [hx]
          rw [hy, Option.bind_some, rt_if0]
          exact ⟨_, rfl, rfl⟩
        · have hy : fn_X12_in (nI (300 + j)) 300 339 = some 1 := rt_inI (n := 40) (by omega) hj
          have hs : nI (300 + j) - 300 = nI j := rt_sb 300 j
          have hr1 : ro_rem (nI j) 10 = nI (j % 10) := by
            show nI j - nI j / nI 10 * nI 10 = _
            rw [pk_rem (by omega) (by decide) (by decide)]
          have hr2 : ro_rem (nI (300 + j)) 10 = nI (j % 10) := by
            show nI (300 + j) - nI (300 + j) / nI 10 * nI 10 = _
            rw [pk_rem (by omega) (by decide) (by decide)]
            congr 1; omega
          have hm : j % 10 < 10 := Nat.mod_lt _ (by decide)
          have hx : fj_X1_countAt_91 2 (nI (300 + j)) μ = (fn_X1_isGuest 2 (nI (j % 10)) μ).bind fun q6 => if q6 = 0 then some (-1) else some (μ 11 j) := by
            unfold fj_X1_countAt_91
            refine (rt_then (a := 300) (n := 40) (by omega) hj).trans ?_
            simp only [hs, hr1, if_pos (rt_in hj (by decide)), nI_clamp (show j < 2 ^ 31 by omega)]
          rw [hx]
          simp only [hy, Option.bind_some, if_neg rt_10, hs, hr2, rt_guestC hm, rt_guestM hm, hto, if_pos (rt_in hj (by decide)), nI_clamp (show j < 2 ^ 31 by omega)]
          cases hb : bt (μ 2 11) (j % 10)
          · exact ⟨-1, rfl, rfl⟩
          · have := hG.2.2.2.1 (j / 10) (j % 10) (by omega) hm hb
            rw [show 10 * (j / 10) + j % 10 = j by omega] at this
            rw [this]
            exact ⟨μ 11 j, rfl, rfl⟩
      · have hy : fn_X12_in (nI (200 + j)) 200 295 = some 1 := rt_inI (n := 96) (by omega) hj
        have hs : nI (200 + j) - 200 = nI j := rt_sb 200 j
        have hx : fj_X1_countAt_45 2 (nI (200 + j)) μ = if μ 3 j = 0 then some (μ 4 j + 0) else some (μ 4 j + 1000) := by
          unfold fj_X1_countAt_45
          refine (rt_then (a := 200) (n := 96) (by omega) hj).trans ?_
          rw [hs, if_pos (rt_in hj (by decide)), nI_clamp (by omega)]
        rw [hx]
        simp only [hy, Option.bind_some, if_neg rt_10, hs, if_pos (rt_in hj (by decide)), nI_clamp (show j < 2 ^ 31 by omega), (hU j hj).1, (hB j hj).1]
        by_cases hu : μ 3 j = 0
        · exact ⟨_, if_pos hu, if_pos hu⟩
        · exact ⟨_, if_neg hu, if_neg hu⟩
    · have hy : fn_X12_in (nI (100 + j)) 100 195 = some 1 := rt_inI (n := 96) (by omega) hj
      have hs : nI (100 + j) - 100 = nI j := rt_sb 100 j
      have hx : fj_X1_countAt_22 2 (nI (100 + j)) μ = some (μ 5 j) := by
        unfold fj_X1_countAt_22
        refine (rt_then (a := 100) (n := 96) (by omega) hj).trans ?_
        rw [hs, if_pos (rt_in hj (by decide)), nI_clamp (by omega)]
      rw [hx]
      simp only [hy, Option.bind_some, if_neg rt_10, hs, if_pos (rt_in hj (by decide)), nI_clamp (show j < 2 ^ 31 by omega), (hMo j hj).1]
      exact ⟨_, rfl, rfl⟩
  · have hy : fn_X12_in (nI (10 + j)) 10 13 = some 1 := rt_inI (n := 4) (by omega) hj
    have hs : nI (10 + j) - 10 = nI j := rt_sb 10 j
    have hx : fn_X1_countAt 2 (nI (10 + j)) μ = some (μ 9 j) := by
      unfold fn_X1_countAt
      refine (rt_then (a := 10) (n := 4) (by omega) hj).trans ?_
      rw [hs, if_pos (rt_in hj (by decide)), nI_clamp (by omega)]
    rw [hx]
    simp only [hy, Option.bind_some, if_neg rt_10, hs, if_pos (rt_in hj (by decide)), nI_clamp (show j < 2 ^ 31 by omega), (hR j hj).1]
    exact ⟨_, rfl, rfl⟩
