-- ===== keep, undo =====
/-- the first n of f, then g -/
def rt_mix (f g : Nat → Int32) (n : Nat) : Nat → Int32 := fun j => if j < n then f j else g j
theorem rt_mix_lt {f g : Nat → Int32} {n j : Nat} (h : j < n) : rt_mix f g n j = f j := if_pos h
theorem rt_mix_cpy (f g : Nat → Int32) (n : Nat) : va_cpy f g 0 0 n = rt_mix f g n := by
  funext j
  unfold va_cpy rt_mix
  by_cases h : j < n
  · rw [if_pos h, if_pos (by omega)]
    congr 1; omega
  · rw [if_neg h, if_neg (by omega)]
theorem rt_cpy {b : ((Int32 × ro_Mem) → Option ro_Mem) → (Int32 × ro_Mem) → Option ro_Mem} {src dst n : Nat} (hne : ¬ src = dst) {μ : ro_Mem} (hn : n < 1000) (hs : ∀ rec i m, i < n → m src = μ src → b rec (nI i, m) = rec (nI (i + 1), ro_set m dst i (m src i))) (he : ∀ rec m, b rec (nI n, m) = some m) : ro_loop b ro_FU (0, μ) = some (ro_arr μ dst (rt_mix (μ src) (μ dst) n)) := by
  have h0 : ((0 : Int32), μ) = (fun i => (nI i, ro_arr μ dst (rt_mix (μ src) (μ dst) i))) 0 := by
    show _ = (nI 0, ro_arr μ dst (rt_mix (μ src) (μ dst) 0))
    have : rt_mix (μ src) (μ dst) 0 = μ dst := by
      funext j
      exact if_neg (by omega)
    rw [this, ro_arr_self]
    rfl
  rw [h0]
  refine rt_loop (fun i => (nI i, ro_arr μ dst (rt_mix (μ src) (μ dst) i))) n ?_ ?_ ro_FU (Nat.lt_trans hn (by decide))
  · intro i hi rec
    have e1 : ro_arr μ dst (rt_mix (μ src) (μ dst) i) src = μ src := ro_arr_ne _ _ hne
    show b rec (nI i, ro_arr μ dst (rt_mix (μ src) (μ dst) i)) = rec (nI (i + 1), ro_arr μ dst (rt_mix (μ src) (μ dst) (i + 1)))
    rw [hs rec i _ hi e1, ro_arr_set, e1]
    congr 3
    funext j
    unfold upd rt_mix
    by_cases e : j = i
    · rw [if_pos e, if_pos (by omega), e]
    · rw [if_neg e]
      try dsimp only
      by_cases h : j < i
      · rw [if_pos h, if_pos (by omega)]
      · rw [if_neg h, if_neg (by omega)]
  · intro rec
    exact he rec _
theorem rt_copies {o0 o1 n : Nat} {μ : ro_Mem} (hne : ¬ o0 = o1) (h0 : n ≤ ro_len o0) (h1 : n ≤ ro_len o1) (hn : n < 1000) : fn_X12_copies o0 o1 (nI n) μ = some (ro_arr μ o1 (rt_mix (μ o0) (μ o1) n)) := by
  have hl : fl_X12_copies_2 o0 o1 (nI n) (0, μ) = some (ro_arr μ o1 (rt_mix (μ o0) (μ o1) n)) := by
    unfold fl_X12_copies_2
    refine rt_cpy hne hn ?_ ?_
    · intro rec i m hi hm
      have q0 : ro_in (nI i) (ro_len o0) := ⟨nI_pos' (by omega), by rw [nI_clamp (by omega)]; omega⟩
      have q1 : ro_in (nI i) (ro_len o1) := ⟨nI_pos' (by omega), by rw [nI_clamp (by omega)]; omega⟩
      show fb_X12_copies_2 o0 o1 (nI n) rec (nI i) m = _
      unfold fb_X12_copies_2
      rw [if_neg (nI_ge hi (by omega)), if_pos q0, if_pos q1, nI_clamp (by omega), nI_1]
      rfl
    · intro rec m
      show fb_X12_copies_2 o0 o1 (nI n) rec (nI n) m = _
      unfold fb_X12_copies_2
      rw [if_pos (Int32.le_refl _)]
  unfold fn_X12_copies
  rw [hl]
  rfl
theorem rt_bC1 {μ : ro_Mem} (hU : ∀ i, i < 96 → μ 3 i = 0 ∨ μ 3 i = 1) : fl_X1_copyFrom_2 31 2 (0, μ) = some (ro_arr μ 32 (rt_mix (μ 3) (μ 32) 96)) := by
  unfold fl_X1_copyFrom_2
  refine rt_cpy (by decide) (by decide) ?_ ?_
  · intro rec i m hi hm
    show fb_X1_copyFrom_2 31 2 rec (nI i) m = _
    unfold fb_X1_copyFrom_2
    rw [if_neg (show ¬ (96 : Int32) ≤ nI i from nI_ge (b := 96) hi (by decide)), if_pos (rt_in hi (by decide)), nI_clamp (by omega), nI_1]
    show rec (nI (i + 1), ro_set m 32 i (vp_nar .boolean (m 3 i))) = _
    rw [rt_nar (by rw [hm]; exact hU i hi)]
  · intro rec m
    rfl
theorem rt_bC2 {μ : ro_Mem} (hU : ∀ i, i < 96 → μ 32 i = 0 ∨ μ 32 i = 1) : fl_X1_copyFrom_2 2 31 (0, μ) = some (ro_arr μ 3 (rt_mix (μ 32) (μ 3) 96)) := by
  unfold fl_X1_copyFrom_2
  refine rt_cpy (by decide) (by decide) ?_ ?_
  · intro rec i m hi hm
    show fb_X1_copyFrom_2 2 31 rec (nI i) m = _
    unfold fb_X1_copyFrom_2
    rw [if_neg (show ¬ (96 : Int32) ≤ nI i from nI_ge (b := 96) hi (by decide)), if_pos (rt_in hi (by decide)), nI_clamp (by omega), nI_1]
    show rec (nI (i + 1), ro_set m 3 i (vp_nar .boolean (m 32 i))) = _
    rw [rt_nar (by rw [hm]; exact hU i hi)]
  · intro rec m
    rfl
theorem rt_bM1 {μ : ro_Mem} (hU : ∀ i, i < 96 → μ 208 i = 0 ∨ μ 208 i = 1) : fl_X12_keep_47 (0, μ) = some (ro_arr μ 261 (rt_mix (μ 208) (μ 261) 96)) := by
  unfold fl_X12_keep_47
  refine rt_cpy (by decide) (by decide) ?_ ?_
  · intro rec i m hi hm
    show fb_X12_keep_47 rec (nI i) m = _
    unfold fb_X12_keep_47
    rw [if_neg (show ¬ (96 : Int32) ≤ nI i from nI_ge (b := 96) hi (by decide)), if_pos (rt_in hi (by decide)), nI_clamp (by omega), nI_1]
    show rec (nI (i + 1), ro_set m 261 i (vp_nar .boolean (m 208 i))) = _
    rw [rt_nar (by rw [hm]; exact hU i hi)]
  · intro rec m
    rfl
theorem rt_bM2 {μ : ro_Mem} (hU : ∀ i, i < 96 → μ 261 i = 0 ∨ μ 261 i = 1) : fl_X12_undo_51 (0, μ) = some (ro_arr μ 208 (rt_mix (μ 261) (μ 208) 96)) := by
  unfold fl_X12_undo_51
  refine rt_cpy (by decide) (by decide) ?_ ?_
  · intro rec i m hi hm
    show fb_X12_undo_51 rec (nI i) m = _
    unfold fb_X12_undo_51
    rw [if_neg (show ¬ (96 : Int32) ≤ nI i from nI_ge (b := 96) hi (by decide)), if_pos (rt_in hi (by decide)), nI_clamp (by omega), nI_1]
    show rec (nI (i + 1), ro_set m 208 i (vp_nar .boolean (m 261 i))) = _
    rw [rt_nar (by rw [hm]; exact hU i hi)]
  · intro rec m
    rfl
theorem rt_copyC1 {μ : ro_Mem} (hU : ∀ i, i < 96 → μ 3 i = 0 ∨ μ 3 i = 1) : ∃ M, fn_X1_copyFrom 31 2 μ = some M ∧ (∀ o, ¬ o = 31 → ¬ o = 32 → ¬ o = 33 → ¬ o = 34 → ¬ o = 35 → ¬ o = 36 → ¬ o = 37 → ¬ o = 38 → ¬ o = 39 → ¬ o = 40 → ¬ o = 41 → ¬ o = 42 → ¬ o = 43 → M o = μ o) ∧ (∀ i, i < 96 → M 32 i = μ 3 i) ∧ (∀ i, i < 96 → M 33 i = μ 4 i) ∧ (∀ i, i < 96 → M 34 i = μ 5 i) ∧ (∀ i, i < 16 → M 35 i = μ 6 i) ∧ (∀ i, i < 16 → M 36 i = μ 7 i) ∧ (∀ i, i < 16 → M 37 i = μ 8 i) ∧ M 31 6 = μ 2 6 ∧ M 31 7 = μ 2 7 ∧ (∀ i, i < 4 → M 38 i = μ 9 i) ∧ (∀ i, i < 10 → M 39 i = μ 10 i) ∧ (∀ i, i < 40 → M 40 i = μ 11 i) ∧ M 31 11 = μ 2 11 ∧ M 31 12 = μ 2 12 ∧ M 31 13 = μ 2 13 ∧ (∀ i, i < 10 → M 41 i = μ 12 i) ∧ (∀ i, i < 16 → M 42 i = μ 13 i) ∧ (∀ i, i < 32 → M 43 i = μ 14 i) ∧ M 31 17 = μ 2 17 ∧ (∀ k, ¬ k = 6 → ¬ k = 7 → ¬ k = 11 → ¬ k = 12 → ¬ k = 13 → ¬ k = 17 → M 31 k = μ 31 k) := by
  obtain ⟨m0, e0⟩ : ∃ m, m = ro_arr μ 32 (rt_mix (μ 3) (μ 32) 96) := ⟨_, rfl⟩
  have n0 : ∀ o, ¬ o = 32 → m0 o = μ o := fun o h => by rw [e0, ro_arr_ne _ _ h]
  have s0 : m0 32 = rt_mix (μ 3) (μ 32) 96 := by rw [e0, ro_arr_same]
  obtain ⟨m1, e1⟩ : ∃ m, m = ro_arr m0 33 (rt_mix (m0 4) (m0 33) 96) := ⟨_, rfl⟩
  have n1 : ∀ o, ¬ o = 33 → m1 o = m0 o := fun o h => by rw [e1, ro_arr_ne _ _ h]
  have s1 : m1 33 = rt_mix (m0 4) (m0 33) 96 := by rw [e1, ro_arr_same]
  obtain ⟨m2, e2⟩ : ∃ m, m = ro_arr m1 34 (rt_mix (m1 5) (m1 34) 96) := ⟨_, rfl⟩
  have n2 : ∀ o, ¬ o = 34 → m2 o = m1 o := fun o h => by rw [e2, ro_arr_ne _ _ h]
  have s2 : m2 34 = rt_mix (m1 5) (m1 34) 96 := by rw [e2, ro_arr_same]
  obtain ⟨m3, e3⟩ : ∃ m, m = ro_arr m2 35 (rt_mix (m2 6) (m2 35) 16) := ⟨_, rfl⟩
  have n3 : ∀ o, ¬ o = 35 → m3 o = m2 o := fun o h => by rw [e3, ro_arr_ne _ _ h]
  have s3 : m3 35 = rt_mix (m2 6) (m2 35) 16 := by rw [e3, ro_arr_same]
  obtain ⟨m4, e4⟩ : ∃ m, m = ro_arr m3 36 (rt_mix (m3 7) (m3 36) 16) := ⟨_, rfl⟩
  have n4 : ∀ o, ¬ o = 36 → m4 o = m3 o := fun o h => by rw [e4, ro_arr_ne _ _ h]
  have s4 : m4 36 = rt_mix (m3 7) (m3 36) 16 := by rw [e4, ro_arr_same]
  obtain ⟨m5, e5⟩ : ∃ m, m = ro_arr m4 37 (rt_mix (m4 8) (m4 37) 16) := ⟨_, rfl⟩
  have n5 : ∀ o, ¬ o = 37 → m5 o = m4 o := fun o h => by rw [e5, ro_arr_ne _ _ h]
  have s5 : m5 37 = rt_mix (m4 8) (m4 37) 16 := by rw [e5, ro_arr_same]
  obtain ⟨m6, e6⟩ : ∃ m, m = ro_set m5 31 6 (m5 2 6) := ⟨_, rfl⟩
  have n6 : ∀ o, ¬ o = 31 → m6 o = m5 o := fun o h => by rw [e6, ro_set_ne _ _ _ h]
  have s6 : m6 31 = upd (m5 31) 6 (m5 2 6) := by rw [e6, ro_set_same]
  obtain ⟨m7, e7⟩ : ∃ m, m = ro_set m6 31 7 (m6 2 7) := ⟨_, rfl⟩
  have n7 : ∀ o, ¬ o = 31 → m7 o = m6 o := fun o h => by rw [e7, ro_set_ne _ _ _ h]
  have s7 : m7 31 = upd (m6 31) 7 (m6 2 7) := by rw [e7, ro_set_same]
  obtain ⟨m8, e8⟩ : ∃ m, m = ro_arr m7 38 (rt_mix (m7 9) (m7 38) 4) := ⟨_, rfl⟩
  have n8 : ∀ o, ¬ o = 38 → m8 o = m7 o := fun o h => by rw [e8, ro_arr_ne _ _ h]
  have s8 : m8 38 = rt_mix (m7 9) (m7 38) 4 := by rw [e8, ro_arr_same]
  obtain ⟨m9, e9⟩ : ∃ m, m = ro_arr m8 39 (rt_mix (m8 10) (m8 39) 10) := ⟨_, rfl⟩
  have n9 : ∀ o, ¬ o = 39 → m9 o = m8 o := fun o h => by rw [e9, ro_arr_ne _ _ h]
  have s9 : m9 39 = rt_mix (m8 10) (m8 39) 10 := by rw [e9, ro_arr_same]
  obtain ⟨m10, e10⟩ : ∃ m, m = ro_arr m9 40 (rt_mix (m9 11) (m9 40) 40) := ⟨_, rfl⟩
  have n10 : ∀ o, ¬ o = 40 → m10 o = m9 o := fun o h => by rw [e10, ro_arr_ne _ _ h]
  have s10 : m10 40 = rt_mix (m9 11) (m9 40) 40 := by rw [e10, ro_arr_same]
  obtain ⟨m11, e11⟩ : ∃ m, m = ro_set m10 31 11 (m10 2 11) := ⟨_, rfl⟩
  have n11 : ∀ o, ¬ o = 31 → m11 o = m10 o := fun o h => by rw [e11, ro_set_ne _ _ _ h]
  have s11 : m11 31 = upd (m10 31) 11 (m10 2 11) := by rw [e11, ro_set_same]
  obtain ⟨m12, e12⟩ : ∃ m, m = ro_set m11 31 12 (m11 2 12) := ⟨_, rfl⟩
  have n12 : ∀ o, ¬ o = 31 → m12 o = m11 o := fun o h => by rw [e12, ro_set_ne _ _ _ h]
  have s12 : m12 31 = upd (m11 31) 12 (m11 2 12) := by rw [e12, ro_set_same]
  obtain ⟨m13, e13⟩ : ∃ m, m = ro_set m12 31 13 (m12 2 13) := ⟨_, rfl⟩
  have n13 : ∀ o, ¬ o = 31 → m13 o = m12 o := fun o h => by rw [e13, ro_set_ne _ _ _ h]
  have s13 : m13 31 = upd (m12 31) 13 (m12 2 13) := by rw [e13, ro_set_same]
  obtain ⟨m14, e14⟩ : ∃ m, m = ro_arr m13 41 (rt_mix (m13 12) (m13 41) 10) := ⟨_, rfl⟩
  have n14 : ∀ o, ¬ o = 41 → m14 o = m13 o := fun o h => by rw [e14, ro_arr_ne _ _ h]
  have s14 : m14 41 = rt_mix (m13 12) (m13 41) 10 := by rw [e14, ro_arr_same]
  obtain ⟨m15, e15⟩ : ∃ m, m = ro_arr m14 42 (rt_mix (m14 13) (m14 42) 16) := ⟨_, rfl⟩
  have n15 : ∀ o, ¬ o = 42 → m15 o = m14 o := fun o h => by rw [e15, ro_arr_ne _ _ h]
  have s15 : m15 42 = rt_mix (m14 13) (m14 42) 16 := by rw [e15, ro_arr_same]
  obtain ⟨m16, e16⟩ : ∃ m, m = ro_arr m15 43 (rt_mix (m15 14) (m15 43) 32) := ⟨_, rfl⟩
  have n16 : ∀ o, ¬ o = 43 → m16 o = m15 o := fun o h => by rw [e16, ro_arr_ne _ _ h]
  have s16 : m16 43 = rt_mix (m15 14) (m15 43) 32 := by rw [e16, ro_arr_same]
  obtain ⟨m17, e17⟩ : ∃ m, m = ro_set m16 31 17 (m16 2 17) := ⟨_, rfl⟩
  have n17 : ∀ o, ¬ o = 31 → m17 o = m16 o := fun o h => by rw [e17, ro_set_ne _ _ _ h]
  have s17 : m17 31 = upd (m16 31) 17 (m16 2 17) := by rw [e17, ro_set_same]
  refine ⟨m17, ?_, ?_, ?_, ?_, ?_, ?_, ?_, ?_, ?_, ?_, ?_, ?_, ?_, ?_, ?_, ?_, ?_, ?_, ?_, ?_, ?_⟩
  · unfold fn_X1_copyFrom
    rw [rt_bC1 hU, ← e0, Option.bind_some]
    rw [show ro_arr m0 (31 + 2) (va_cpy (m0 (2 + 2)) (m0 (31 + 2)) (0 : Int32).toNatClampNeg (0 : Int32).toNatClampNeg (96 : Int32).toNatClampNeg) = m1 from by rw [e1]; exact congrArg _ (rt_mix_cpy _ _ _), ro_lt]
    rw [show ro_arr m1 (31 + 3) (va_cpy (m1 (2 + 3)) (m1 (31 + 3)) (0 : Int32).toNatClampNeg (0 : Int32).toNatClampNeg (96 : Int32).toNatClampNeg) = m2 from by rw [e2]; exact congrArg _ (rt_mix_cpy _ _ _), ro_lt]
    rw [show ro_arr m2 (31 + 4) (va_cpy (m2 (2 + 4)) (m2 (31 + 4)) (0 : Int32).toNatClampNeg (0 : Int32).toNatClampNeg (16 : Int32).toNatClampNeg) = m3 from by rw [e3]; exact congrArg _ (rt_mix_cpy _ _ _), ro_lt]
    rw [show ro_arr m3 (31 + 5) (va_cpy (m3 (2 + 5)) (m3 (31 + 5)) (0 : Int32).toNatClampNeg (0 : Int32).toNatClampNeg (16 : Int32).toNatClampNeg) = m4 from by rw [e4]; exact congrArg _ (rt_mix_cpy _ _ _), ro_lt]
    rw [show ro_arr m4 (31 + 6) (va_cpy (m4 (2 + 6)) (m4 (31 + 6)) (0 : Int32).toNatClampNeg (0 : Int32).toNatClampNeg (16 : Int32).toNatClampNeg) = m5 from by rw [e5]; exact congrArg _ (rt_mix_cpy _ _ _), ro_lt]
    rw [← e6, ro_lt]
    rw [← e7, ro_lt]
    rw [show ro_arr m7 (31 + 7) (va_cpy (m7 (2 + 7)) (m7 (31 + 7)) (0 : Int32).toNatClampNeg (0 : Int32).toNatClampNeg (4 : Int32).toNatClampNeg) = m8 from by rw [e8]; exact congrArg _ (rt_mix_cpy _ _ _), ro_lt]
    rw [show ro_arr m8 (31 + 8) (va_cpy (m8 (2 + 8)) (m8 (31 + 8)) (0 : Int32).toNatClampNeg (0 : Int32).toNatClampNeg (10 : Int32).toNatClampNeg) = m9 from by rw [e9]; exact congrArg _ (rt_mix_cpy _ _ _), ro_lt]
    rw [show ro_arr m9 (31 + 9) (va_cpy (m9 (2 + 9)) (m9 (31 + 9)) (0 : Int32).toNatClampNeg (0 : Int32).toNatClampNeg (40 : Int32).toNatClampNeg) = m10 from by rw [e10]; exact congrArg _ (rt_mix_cpy _ _ _), ro_lt]
    rw [← e11, ro_lt]
    rw [← e12, ro_lt]
    rw [← e13, ro_lt]
    rw [show ro_arr m13 (31 + 10) (va_cpy (m13 (2 + 10)) (m13 (31 + 10)) (0 : Int32).toNatClampNeg (0 : Int32).toNatClampNeg (10 : Int32).toNatClampNeg) = m14 from by rw [e14]; exact congrArg _ (rt_mix_cpy _ _ _), ro_lt]
    rw [show ro_arr m14 (31 + 11) (va_cpy (m14 (2 + 11)) (m14 (31 + 11)) (0 : Int32).toNatClampNeg (0 : Int32).toNatClampNeg (16 : Int32).toNatClampNeg) = m15 from by rw [e15]; exact congrArg _ (rt_mix_cpy _ _ _), ro_lt]
    rw [show ro_arr m15 (31 + 12) (va_cpy (m15 (2 + 12)) (m15 (31 + 12)) (0 : Int32).toNatClampNeg (0 : Int32).toNatClampNeg (32 : Int32).toNatClampNeg) = m16 from by rw [e16]; exact congrArg _ (rt_mix_cpy _ _ _), ro_lt]
    rw [← e17, ro_lt]
  · intro o h31 h32 h33 h34 h35 h36 h37 h38 h39 h40 h41 h42 h43
    rw [n17 o h31, n16 o h43, n15 o h42, n14 o h41, n13 o h31, n12 o h31, n11 o h31, n10 o h40, n9 o h39, n8 o h38, n7 o h31, n6 o h31, n5 o h37, n4 o h36, n3 o h35, n2 o h34, n1 o h33, n0 o h32]
  · intro i hi
    rw [n17 32 (by decide), n16 32 (by decide), n15 32 (by decide), n14 32 (by decide), n13 32 (by decide), n12 32 (by decide), n11 32 (by decide), n10 32 (by decide), n9 32 (by decide), n8 32 (by decide), n7 32 (by decide), n6 32 (by decide), n5 32 (by decide), n4 32 (by decide), n3 32 (by decide), n2 32 (by decide), n1 32 (by decide), s0, rt_mix_lt hi]
  · intro i hi
    rw [n17 33 (by decide), n16 33 (by decide), n15 33 (by decide), n14 33 (by decide), n13 33 (by decide), n12 33 (by decide), n11 33 (by decide), n10 33 (by decide), n9 33 (by decide), n8 33 (by decide), n7 33 (by decide), n6 33 (by decide), n5 33 (by decide), n4 33 (by decide), n3 33 (by decide), n2 33 (by decide), s1, rt_mix_lt hi, n0 4 (by decide)]
  · intro i hi
    rw [n17 34 (by decide), n16 34 (by decide), n15 34 (by decide), n14 34 (by decide), n13 34 (by decide), n12 34 (by decide), n11 34 (by decide), n10 34 (by decide), n9 34 (by decide), n8 34 (by decide), n7 34 (by decide), n6 34 (by decide), n5 34 (by decide), n4 34 (by decide), n3 34 (by decide), s2, rt_mix_lt hi, n1 5 (by decide), n0 5 (by decide)]
  · intro i hi
    rw [n17 35 (by decide), n16 35 (by decide), n15 35 (by decide), n14 35 (by decide), n13 35 (by decide), n12 35 (by decide), n11 35 (by decide), n10 35 (by decide), n9 35 (by decide), n8 35 (by decide), n7 35 (by decide), n6 35 (by decide), n5 35 (by decide), n4 35 (by decide), s3, rt_mix_lt hi, n2 6 (by decide), n1 6 (by decide), n0 6 (by decide)]
  · intro i hi
    rw [n17 36 (by decide), n16 36 (by decide), n15 36 (by decide), n14 36 (by decide), n13 36 (by decide), n12 36 (by decide), n11 36 (by decide), n10 36 (by decide), n9 36 (by decide), n8 36 (by decide), n7 36 (by decide), n6 36 (by decide), n5 36 (by decide), s4, rt_mix_lt hi, n3 7 (by decide), n2 7 (by decide), n1 7 (by decide), n0 7 (by decide)]
  · intro i hi
    rw [n17 37 (by decide), n16 37 (by decide), n15 37 (by decide), n14 37 (by decide), n13 37 (by decide), n12 37 (by decide), n11 37 (by decide), n10 37 (by decide), n9 37 (by decide), n8 37 (by decide), n7 37 (by decide), n6 37 (by decide), s5, rt_mix_lt hi, n4 8 (by decide), n3 8 (by decide), n2 8 (by decide), n1 8 (by decide), n0 8 (by decide)]
  · rw [s17, pk_un (by decide), n16 31 (by decide), n15 31 (by decide), n14 31 (by decide), s13, pk_un (by decide), s12, pk_un (by decide), s11, pk_un (by decide), n10 31 (by decide), n9 31 (by decide), n8 31 (by decide), s7, pk_un (by decide), s6, pk_us, n5 2 (by decide), n4 2 (by decide), n3 2 (by decide), n2 2 (by decide), n1 2 (by decide), n0 2 (by decide)]
  · rw [s17, pk_un (by decide), n16 31 (by decide), n15 31 (by decide), n14 31 (by decide), s13, pk_un (by decide), s12, pk_un (by decide), s11, pk_un (by decide), n10 31 (by decide), n9 31 (by decide), n8 31 (by decide), s7, pk_us, n6 2 (by decide), n5 2 (by decide), n4 2 (by decide), n3 2 (by decide), n2 2 (by decide), n1 2 (by decide), n0 2 (by decide)]
  · intro i hi
    rw [n17 38 (by decide), n16 38 (by decide), n15 38 (by decide), n14 38 (by decide), n13 38 (by decide), n12 38 (by decide), n11 38 (by decide), n10 38 (by decide), n9 38 (by decide), s8, rt_mix_lt hi, n7 9 (by decide), n6 9 (by decide), n5 9 (by decide), n4 9 (by decide), n3 9 (by decide), n2 9 (by decide), n1 9 (by decide), n0 9 (by decide)]
  · intro i hi
    rw [n17 39 (by decide), n16 39 (by decide), n15 39 (by decide), n14 39 (by decide), n13 39 (by decide), n12 39 (by decide), n11 39 (by decide), n10 39 (by decide), s9, rt_mix_lt hi, n8 10 (by decide), n7 10 (by decide), n6 10 (by decide), n5 10 (by decide), n4 10 (by decide), n3 10 (by decide), n2 10 (by decide), n1 10 (by decide), n0 10 (by decide)]
  · intro i hi
    rw [n17 40 (by decide), n16 40 (by decide), n15 40 (by decide), n14 40 (by decide), n13 40 (by decide), n12 40 (by decide), n11 40 (by decide), s10, rt_mix_lt hi, n9 11 (by decide), n8 11 (by decide), n7 11 (by decide), n6 11 (by decide), n5 11 (by decide), n4 11 (by decide), n3 11 (by decide), n2 11 (by decide), n1 11 (by decide), n0 11 (by decide)]
  · rw [s17, pk_un (by decide), n16 31 (by decide), n15 31 (by decide), n14 31 (by decide), s13, pk_un (by decide), s12, pk_un (by decide), s11, pk_us, n10 2 (by decide), n9 2 (by decide), n8 2 (by decide), n7 2 (by decide), n6 2 (by decide), n5 2 (by decide), n4 2 (by decide), n3 2 (by decide), n2 2 (by decide), n1 2 (by decide), n0 2 (by decide)]
  · rw [s17, pk_un (by decide), n16 31 (by decide), n15 31 (by decide), n14 31 (by decide), s13, pk_un (by decide), s12, pk_us, n11 2 (by decide), n10 2 (by decide), n9 2 (by decide), n8 2 (by decide), n7 2 (by decide), n6 2 (by decide), n5 2 (by decide), n4 2 (by decide), n3 2 (by decide), n2 2 (by decide), n1 2 (by decide), n0 2 (by decide)]
  · rw [s17, pk_un (by decide), n16 31 (by decide), n15 31 (by decide), n14 31 (by decide), s13, pk_us, n12 2 (by decide), n11 2 (by decide), n10 2 (by decide), n9 2 (by decide), n8 2 (by decide), n7 2 (by decide), n6 2 (by decide), n5 2 (by decide), n4 2 (by decide), n3 2 (by decide), n2 2 (by decide), n1 2 (by decide), n0 2 (by decide)]
  · intro i hi
    rw [n17 41 (by decide), n16 41 (by decide), n15 41 (by decide), s14, rt_mix_lt hi, n13 12 (by decide), n12 12 (by decide), n11 12 (by decide), n10 12 (by decide), n9 12 (by decide), n8 12 (by decide), n7 12 (by decide), n6 12 (by decide), n5 12 (by decide), n4 12 (by decide), n3 12 (by decide), n2 12 (by decide), n1 12 (by decide), n0 12 (by decide)]
  · intro i hi
    rw [n17 42 (by decide), n16 42 (by decide), s15, rt_mix_lt hi, n14 13 (by decide), n13 13 (by decide), n12 13 (by decide), n11 13 (by decide), n10 13 (by decide), n9 13 (by decide), n8 13 (by decide), n7 13 (by decide), n6 13 (by decide), n5 13 (by decide), n4 13 (by decide), n3 13 (by decide), n2 13 (by decide), n1 13 (by decide), n0 13 (by decide)]
  · intro i hi
    rw [n17 43 (by decide), s16, rt_mix_lt hi, n15 14 (by decide), n14 14 (by decide), n13 14 (by decide), n12 14 (by decide), n11 14 (by decide), n10 14 (by decide), n9 14 (by decide), n8 14 (by decide), n7 14 (by decide), n6 14 (by decide), n5 14 (by decide), n4 14 (by decide), n3 14 (by decide), n2 14 (by decide), n1 14 (by decide), n0 14 (by decide)]
  · rw [s17, pk_us, n16 2 (by decide), n15 2 (by decide), n14 2 (by decide), n13 2 (by decide), n12 2 (by decide), n11 2 (by decide), n10 2 (by decide), n9 2 (by decide), n8 2 (by decide), n7 2 (by decide), n6 2 (by decide), n5 2 (by decide), n4 2 (by decide), n3 2 (by decide), n2 2 (by decide), n1 2 (by decide), n0 2 (by decide)]
  · intro k h6 h7 h11 h12 h13 h17
    rw [s17, pk_un h17, n16 31 (by decide), n15 31 (by decide), n14 31 (by decide), s13, pk_un h13, s12, pk_un h12, s11, pk_un h11, n10 31 (by decide), n9 31 (by decide), n8 31 (by decide), s7, pk_un h7, s6, pk_un h6, n5 31 (by decide), n4 31 (by decide), n3 31 (by decide), n2 31 (by decide), n1 31 (by decide), n0 31 (by decide)]
theorem rt_copyC2 {μ : ro_Mem} (hU : ∀ i, i < 96 → μ 32 i = 0 ∨ μ 32 i = 1) : ∃ M, fn_X1_copyFrom 2 31 μ = some M ∧ (∀ o, ¬ o = 2 → ¬ o = 3 → ¬ o = 4 → ¬ o = 5 → ¬ o = 6 → ¬ o = 7 → ¬ o = 8 → ¬ o = 9 → ¬ o = 10 → ¬ o = 11 → ¬ o = 12 → ¬ o = 13 → ¬ o = 14 → M o = μ o) ∧ (∀ i, i < 96 → M 3 i = μ 32 i) ∧ (∀ i, i < 96 → M 4 i = μ 33 i) ∧ (∀ i, i < 96 → M 5 i = μ 34 i) ∧ (∀ i, i < 16 → M 6 i = μ 35 i) ∧ (∀ i, i < 16 → M 7 i = μ 36 i) ∧ (∀ i, i < 16 → M 8 i = μ 37 i) ∧ M 2 6 = μ 31 6 ∧ M 2 7 = μ 31 7 ∧ (∀ i, i < 4 → M 9 i = μ 38 i) ∧ (∀ i, i < 10 → M 10 i = μ 39 i) ∧ (∀ i, i < 40 → M 11 i = μ 40 i) ∧ M 2 11 = μ 31 11 ∧ M 2 12 = μ 31 12 ∧ M 2 13 = μ 31 13 ∧ (∀ i, i < 10 → M 12 i = μ 41 i) ∧ (∀ i, i < 16 → M 13 i = μ 42 i) ∧ (∀ i, i < 32 → M 14 i = μ 43 i) ∧ M 2 17 = μ 31 17 ∧ (∀ k, ¬ k = 6 → ¬ k = 7 → ¬ k = 11 → ¬ k = 12 → ¬ k = 13 → ¬ k = 17 → M 2 k = μ 2 k) := by
  obtain ⟨m0, e0⟩ : ∃ m, m = ro_arr μ 3 (rt_mix (μ 32) (μ 3) 96) := ⟨_, rfl⟩
  have n0 : ∀ o, ¬ o = 3 → m0 o = μ o := fun o h => by rw [e0, ro_arr_ne _ _ h]
  have s0 : m0 3 = rt_mix (μ 32) (μ 3) 96 := by rw [e0, ro_arr_same]
  obtain ⟨m1, e1⟩ : ∃ m, m = ro_arr m0 4 (rt_mix (m0 33) (m0 4) 96) := ⟨_, rfl⟩
  have n1 : ∀ o, ¬ o = 4 → m1 o = m0 o := fun o h => by rw [e1, ro_arr_ne _ _ h]
  have s1 : m1 4 = rt_mix (m0 33) (m0 4) 96 := by rw [e1, ro_arr_same]
  obtain ⟨m2, e2⟩ : ∃ m, m = ro_arr m1 5 (rt_mix (m1 34) (m1 5) 96) := ⟨_, rfl⟩
  have n2 : ∀ o, ¬ o = 5 → m2 o = m1 o := fun o h => by rw [e2, ro_arr_ne _ _ h]
  have s2 : m2 5 = rt_mix (m1 34) (m1 5) 96 := by rw [e2, ro_arr_same]
  obtain ⟨m3, e3⟩ : ∃ m, m = ro_arr m2 6 (rt_mix (m2 35) (m2 6) 16) := ⟨_, rfl⟩
  have n3 : ∀ o, ¬ o = 6 → m3 o = m2 o := fun o h => by rw [e3, ro_arr_ne _ _ h]
  have s3 : m3 6 = rt_mix (m2 35) (m2 6) 16 := by rw [e3, ro_arr_same]
  obtain ⟨m4, e4⟩ : ∃ m, m = ro_arr m3 7 (rt_mix (m3 36) (m3 7) 16) := ⟨_, rfl⟩
  have n4 : ∀ o, ¬ o = 7 → m4 o = m3 o := fun o h => by rw [e4, ro_arr_ne _ _ h]
  have s4 : m4 7 = rt_mix (m3 36) (m3 7) 16 := by rw [e4, ro_arr_same]
  obtain ⟨m5, e5⟩ : ∃ m, m = ro_arr m4 8 (rt_mix (m4 37) (m4 8) 16) := ⟨_, rfl⟩
  have n5 : ∀ o, ¬ o = 8 → m5 o = m4 o := fun o h => by rw [e5, ro_arr_ne _ _ h]
  have s5 : m5 8 = rt_mix (m4 37) (m4 8) 16 := by rw [e5, ro_arr_same]
  obtain ⟨m6, e6⟩ : ∃ m, m = ro_set m5 2 6 (m5 31 6) := ⟨_, rfl⟩
  have n6 : ∀ o, ¬ o = 2 → m6 o = m5 o := fun o h => by rw [e6, ro_set_ne _ _ _ h]
  have s6 : m6 2 = upd (m5 2) 6 (m5 31 6) := by rw [e6, ro_set_same]
  obtain ⟨m7, e7⟩ : ∃ m, m = ro_set m6 2 7 (m6 31 7) := ⟨_, rfl⟩
  have n7 : ∀ o, ¬ o = 2 → m7 o = m6 o := fun o h => by rw [e7, ro_set_ne _ _ _ h]
  have s7 : m7 2 = upd (m6 2) 7 (m6 31 7) := by rw [e7, ro_set_same]
  obtain ⟨m8, e8⟩ : ∃ m, m = ro_arr m7 9 (rt_mix (m7 38) (m7 9) 4) := ⟨_, rfl⟩
  have n8 : ∀ o, ¬ o = 9 → m8 o = m7 o := fun o h => by rw [e8, ro_arr_ne _ _ h]
  have s8 : m8 9 = rt_mix (m7 38) (m7 9) 4 := by rw [e8, ro_arr_same]
  obtain ⟨m9, e9⟩ : ∃ m, m = ro_arr m8 10 (rt_mix (m8 39) (m8 10) 10) := ⟨_, rfl⟩
  have n9 : ∀ o, ¬ o = 10 → m9 o = m8 o := fun o h => by rw [e9, ro_arr_ne _ _ h]
  have s9 : m9 10 = rt_mix (m8 39) (m8 10) 10 := by rw [e9, ro_arr_same]
  obtain ⟨m10, e10⟩ : ∃ m, m = ro_arr m9 11 (rt_mix (m9 40) (m9 11) 40) := ⟨_, rfl⟩
  have n10 : ∀ o, ¬ o = 11 → m10 o = m9 o := fun o h => by rw [e10, ro_arr_ne _ _ h]
  have s10 : m10 11 = rt_mix (m9 40) (m9 11) 40 := by rw [e10, ro_arr_same]
  obtain ⟨m11, e11⟩ : ∃ m, m = ro_set m10 2 11 (m10 31 11) := ⟨_, rfl⟩
  have n11 : ∀ o, ¬ o = 2 → m11 o = m10 o := fun o h => by rw [e11, ro_set_ne _ _ _ h]
  have s11 : m11 2 = upd (m10 2) 11 (m10 31 11) := by rw [e11, ro_set_same]
  obtain ⟨m12, e12⟩ : ∃ m, m = ro_set m11 2 12 (m11 31 12) := ⟨_, rfl⟩
  have n12 : ∀ o, ¬ o = 2 → m12 o = m11 o := fun o h => by rw [e12, ro_set_ne _ _ _ h]
  have s12 : m12 2 = upd (m11 2) 12 (m11 31 12) := by rw [e12, ro_set_same]
  obtain ⟨m13, e13⟩ : ∃ m, m = ro_set m12 2 13 (m12 31 13) := ⟨_, rfl⟩
  have n13 : ∀ o, ¬ o = 2 → m13 o = m12 o := fun o h => by rw [e13, ro_set_ne _ _ _ h]
  have s13 : m13 2 = upd (m12 2) 13 (m12 31 13) := by rw [e13, ro_set_same]
  obtain ⟨m14, e14⟩ : ∃ m, m = ro_arr m13 12 (rt_mix (m13 41) (m13 12) 10) := ⟨_, rfl⟩
  have n14 : ∀ o, ¬ o = 12 → m14 o = m13 o := fun o h => by rw [e14, ro_arr_ne _ _ h]
  have s14 : m14 12 = rt_mix (m13 41) (m13 12) 10 := by rw [e14, ro_arr_same]
  obtain ⟨m15, e15⟩ : ∃ m, m = ro_arr m14 13 (rt_mix (m14 42) (m14 13) 16) := ⟨_, rfl⟩
  have n15 : ∀ o, ¬ o = 13 → m15 o = m14 o := fun o h => by rw [e15, ro_arr_ne _ _ h]
  have s15 : m15 13 = rt_mix (m14 42) (m14 13) 16 := by rw [e15, ro_arr_same]
  obtain ⟨m16, e16⟩ : ∃ m, m = ro_arr m15 14 (rt_mix (m15 43) (m15 14) 32) := ⟨_, rfl⟩
  have n16 : ∀ o, ¬ o = 14 → m16 o = m15 o := fun o h => by rw [e16, ro_arr_ne _ _ h]
  have s16 : m16 14 = rt_mix (m15 43) (m15 14) 32 := by rw [e16, ro_arr_same]
  obtain ⟨m17, e17⟩ : ∃ m, m = ro_set m16 2 17 (m16 31 17) := ⟨_, rfl⟩
  have n17 : ∀ o, ¬ o = 2 → m17 o = m16 o := fun o h => by rw [e17, ro_set_ne _ _ _ h]
  have s17 : m17 2 = upd (m16 2) 17 (m16 31 17) := by rw [e17, ro_set_same]
  refine ⟨m17, ?_, ?_, ?_, ?_, ?_, ?_, ?_, ?_, ?_, ?_, ?_, ?_, ?_, ?_, ?_, ?_, ?_, ?_, ?_, ?_, ?_⟩
  · unfold fn_X1_copyFrom
    rw [rt_bC2 hU, ← e0, Option.bind_some]
    rw [show ro_arr m0 (2 + 2) (va_cpy (m0 (31 + 2)) (m0 (2 + 2)) (0 : Int32).toNatClampNeg (0 : Int32).toNatClampNeg (96 : Int32).toNatClampNeg) = m1 from by rw [e1]; exact congrArg _ (rt_mix_cpy _ _ _), ro_lt]
    rw [show ro_arr m1 (2 + 3) (va_cpy (m1 (31 + 3)) (m1 (2 + 3)) (0 : Int32).toNatClampNeg (0 : Int32).toNatClampNeg (96 : Int32).toNatClampNeg) = m2 from by rw [e2]; exact congrArg _ (rt_mix_cpy _ _ _), ro_lt]
    rw [show ro_arr m2 (2 + 4) (va_cpy (m2 (31 + 4)) (m2 (2 + 4)) (0 : Int32).toNatClampNeg (0 : Int32).toNatClampNeg (16 : Int32).toNatClampNeg) = m3 from by rw [e3]; exact congrArg _ (rt_mix_cpy _ _ _), ro_lt]
    rw [show ro_arr m3 (2 + 5) (va_cpy (m3 (31 + 5)) (m3 (2 + 5)) (0 : Int32).toNatClampNeg (0 : Int32).toNatClampNeg (16 : Int32).toNatClampNeg) = m4 from by rw [e4]; exact congrArg _ (rt_mix_cpy _ _ _), ro_lt]
    rw [show ro_arr m4 (2 + 6) (va_cpy (m4 (31 + 6)) (m4 (2 + 6)) (0 : Int32).toNatClampNeg (0 : Int32).toNatClampNeg (16 : Int32).toNatClampNeg) = m5 from by rw [e5]; exact congrArg _ (rt_mix_cpy _ _ _), ro_lt]
    rw [← e6, ro_lt]
    rw [← e7, ro_lt]
    rw [show ro_arr m7 (2 + 7) (va_cpy (m7 (31 + 7)) (m7 (2 + 7)) (0 : Int32).toNatClampNeg (0 : Int32).toNatClampNeg (4 : Int32).toNatClampNeg) = m8 from by rw [e8]; exact congrArg _ (rt_mix_cpy _ _ _), ro_lt]
    rw [show ro_arr m8 (2 + 8) (va_cpy (m8 (31 + 8)) (m8 (2 + 8)) (0 : Int32).toNatClampNeg (0 : Int32).toNatClampNeg (10 : Int32).toNatClampNeg) = m9 from by rw [e9]; exact congrArg _ (rt_mix_cpy _ _ _), ro_lt]
    rw [show ro_arr m9 (2 + 9) (va_cpy (m9 (31 + 9)) (m9 (2 + 9)) (0 : Int32).toNatClampNeg (0 : Int32).toNatClampNeg (40 : Int32).toNatClampNeg) = m10 from by rw [e10]; exact congrArg _ (rt_mix_cpy _ _ _), ro_lt]
    rw [← e11, ro_lt]
    rw [← e12, ro_lt]
    rw [← e13, ro_lt]
    rw [show ro_arr m13 (2 + 10) (va_cpy (m13 (31 + 10)) (m13 (2 + 10)) (0 : Int32).toNatClampNeg (0 : Int32).toNatClampNeg (10 : Int32).toNatClampNeg) = m14 from by rw [e14]; exact congrArg _ (rt_mix_cpy _ _ _), ro_lt]
    rw [show ro_arr m14 (2 + 11) (va_cpy (m14 (31 + 11)) (m14 (2 + 11)) (0 : Int32).toNatClampNeg (0 : Int32).toNatClampNeg (16 : Int32).toNatClampNeg) = m15 from by rw [e15]; exact congrArg _ (rt_mix_cpy _ _ _), ro_lt]
    rw [show ro_arr m15 (2 + 12) (va_cpy (m15 (31 + 12)) (m15 (2 + 12)) (0 : Int32).toNatClampNeg (0 : Int32).toNatClampNeg (32 : Int32).toNatClampNeg) = m16 from by rw [e16]; exact congrArg _ (rt_mix_cpy _ _ _), ro_lt]
    rw [← e17, ro_lt]
  · intro o h2 h3 h4 h5 h6 h7 h8 h9 h10 h11 h12 h13 h14
    rw [n17 o h2, n16 o h14, n15 o h13, n14 o h12, n13 o h2, n12 o h2, n11 o h2, n10 o h11, n9 o h10, n8 o h9, n7 o h2, n6 o h2, n5 o h8, n4 o h7, n3 o h6, n2 o h5, n1 o h4, n0 o h3]
  · intro i hi
    rw [n17 3 (by decide), n16 3 (by decide), n15 3 (by decide), n14 3 (by decide), n13 3 (by decide), n12 3 (by decide), n11 3 (by decide), n10 3 (by decide), n9 3 (by decide), n8 3 (by decide), n7 3 (by decide), n6 3 (by decide), n5 3 (by decide), n4 3 (by decide), n3 3 (by decide), n2 3 (by decide), n1 3 (by decide), s0, rt_mix_lt hi]
  · intro i hi
    rw [n17 4 (by decide), n16 4 (by decide), n15 4 (by decide), n14 4 (by decide), n13 4 (by decide), n12 4 (by decide), n11 4 (by decide), n10 4 (by decide), n9 4 (by decide), n8 4 (by decide), n7 4 (by decide), n6 4 (by decide), n5 4 (by decide), n4 4 (by decide), n3 4 (by decide), n2 4 (by decide), s1, rt_mix_lt hi, n0 33 (by decide)]
  · intro i hi
    rw [n17 5 (by decide), n16 5 (by decide), n15 5 (by decide), n14 5 (by decide), n13 5 (by decide), n12 5 (by decide), n11 5 (by decide), n10 5 (by decide), n9 5 (by decide), n8 5 (by decide), n7 5 (by decide), n6 5 (by decide), n5 5 (by decide), n4 5 (by decide), n3 5 (by decide), s2, rt_mix_lt hi, n1 34 (by decide), n0 34 (by decide)]
  · intro i hi
    rw [n17 6 (by decide), n16 6 (by decide), n15 6 (by decide), n14 6 (by decide), n13 6 (by decide), n12 6 (by decide), n11 6 (by decide), n10 6 (by decide), n9 6 (by decide), n8 6 (by decide), n7 6 (by decide), n6 6 (by decide), n5 6 (by decide), n4 6 (by decide), s3, rt_mix_lt hi, n2 35 (by decide), n1 35 (by decide), n0 35 (by decide)]
  · intro i hi
    rw [n17 7 (by decide), n16 7 (by decide), n15 7 (by decide), n14 7 (by decide), n13 7 (by decide), n12 7 (by decide), n11 7 (by decide), n10 7 (by decide), n9 7 (by decide), n8 7 (by decide), n7 7 (by decide), n6 7 (by decide), n5 7 (by decide), s4, rt_mix_lt hi, n3 36 (by decide), n2 36 (by decide), n1 36 (by decide), n0 36 (by decide)]
  · intro i hi
    rw [n17 8 (by decide), n16 8 (by decide), n15 8 (by decide), n14 8 (by decide), n13 8 (by decide), n12 8 (by decide), n11 8 (by decide), n10 8 (by decide), n9 8 (by decide), n8 8 (by decide), n7 8 (by decide), n6 8 (by decide), s5, rt_mix_lt hi, n4 37 (by decide), n3 37 (by decide), n2 37 (by decide), n1 37 (by decide), n0 37 (by decide)]
  · rw [s17, pk_un (by decide), n16 2 (by decide), n15 2 (by decide), n14 2 (by decide), s13, pk_un (by decide), s12, pk_un (by decide), s11, pk_un (by decide), n10 2 (by decide), n9 2 (by decide), n8 2 (by decide), s7, pk_un (by decide), s6, pk_us, n5 31 (by decide), n4 31 (by decide), n3 31 (by decide), n2 31 (by decide), n1 31 (by decide), n0 31 (by decide)]
  · rw [s17, pk_un (by decide), n16 2 (by decide), n15 2 (by decide), n14 2 (by decide), s13, pk_un (by decide), s12, pk_un (by decide), s11, pk_un (by decide), n10 2 (by decide), n9 2 (by decide), n8 2 (by decide), s7, pk_us, n6 31 (by decide), n5 31 (by decide), n4 31 (by decide), n3 31 (by decide), n2 31 (by decide), n1 31 (by decide), n0 31 (by decide)]
  · intro i hi
    rw [n17 9 (by decide), n16 9 (by decide), n15 9 (by decide), n14 9 (by decide), n13 9 (by decide), n12 9 (by decide), n11 9 (by decide), n10 9 (by decide), n9 9 (by decide), s8, rt_mix_lt hi, n7 38 (by decide), n6 38 (by decide), n5 38 (by decide), n4 38 (by decide), n3 38 (by decide), n2 38 (by decide), n1 38 (by decide), n0 38 (by decide)]
  · intro i hi
    rw [n17 10 (by decide), n16 10 (by decide), n15 10 (by decide), n14 10 (by decide), n13 10 (by decide), n12 10 (by decide), n11 10 (by decide), n10 10 (by decide), s9, rt_mix_lt hi, n8 39 (by decide), n7 39 (by decide), n6 39 (by decide), n5 39 (by decide), n4 39 (by decide), n3 39 (by decide), n2 39 (by decide), n1 39 (by decide), n0 39 (by decide)]
  · intro i hi
    rw [n17 11 (by decide), n16 11 (by decide), n15 11 (by decide), n14 11 (by decide), n13 11 (by decide), n12 11 (by decide), n11 11 (by decide), s10, rt_mix_lt hi, n9 40 (by decide), n8 40 (by decide), n7 40 (by decide), n6 40 (by decide), n5 40 (by decide), n4 40 (by decide), n3 40 (by decide), n2 40 (by decide), n1 40 (by decide), n0 40 (by decide)]
  · rw [s17, pk_un (by decide), n16 2 (by decide), n15 2 (by decide), n14 2 (by decide), s13, pk_un (by decide), s12, pk_un (by decide), s11, pk_us, n10 31 (by decide), n9 31 (by decide), n8 31 (by decide), n7 31 (by decide), n6 31 (by decide), n5 31 (by decide), n4 31 (by decide), n3 31 (by decide), n2 31 (by decide), n1 31 (by decide), n0 31 (by decide)]
  · rw [s17, pk_un (by decide), n16 2 (by decide), n15 2 (by decide), n14 2 (by decide), s13, pk_un (by decide), s12, pk_us, n11 31 (by decide), n10 31 (by decide), n9 31 (by decide), n8 31 (by decide), n7 31 (by decide), n6 31 (by decide), n5 31 (by decide), n4 31 (by decide), n3 31 (by decide), n2 31 (by decide), n1 31 (by decide), n0 31 (by decide)]
  · rw [s17, pk_un (by decide), n16 2 (by decide), n15 2 (by decide), n14 2 (by decide), s13, pk_us, n12 31 (by decide), n11 31 (by decide), n10 31 (by decide), n9 31 (by decide), n8 31 (by decide), n7 31 (by decide), n6 31 (by decide), n5 31 (by decide), n4 31 (by decide), n3 31 (by decide), n2 31 (by decide), n1 31 (by decide), n0 31 (by decide)]
  · intro i hi
    rw [n17 12 (by decide), n16 12 (by decide), n15 12 (by decide), s14, rt_mix_lt hi, n13 41 (by decide), n12 41 (by decide), n11 41 (by decide), n10 41 (by decide), n9 41 (by decide), n8 41 (by decide), n7 41 (by decide), n6 41 (by decide), n5 41 (by decide), n4 41 (by decide), n3 41 (by decide), n2 41 (by decide), n1 41 (by decide), n0 41 (by decide)]
  · intro i hi
    rw [n17 13 (by decide), n16 13 (by decide), s15, rt_mix_lt hi, n14 42 (by decide), n13 42 (by decide), n12 42 (by decide), n11 42 (by decide), n10 42 (by decide), n9 42 (by decide), n8 42 (by decide), n7 42 (by decide), n6 42 (by decide), n5 42 (by decide), n4 42 (by decide), n3 42 (by decide), n2 42 (by decide), n1 42 (by decide), n0 42 (by decide)]
  · intro i hi
    rw [n17 14 (by decide), s16, rt_mix_lt hi, n15 43 (by decide), n14 43 (by decide), n13 43 (by decide), n12 43 (by decide), n11 43 (by decide), n10 43 (by decide), n9 43 (by decide), n8 43 (by decide), n7 43 (by decide), n6 43 (by decide), n5 43 (by decide), n4 43 (by decide), n3 43 (by decide), n2 43 (by decide), n1 43 (by decide), n0 43 (by decide)]
  · rw [s17, pk_us, n16 31 (by decide), n15 31 (by decide), n14 31 (by decide), n13 31 (by decide), n12 31 (by decide), n11 31 (by decide), n10 31 (by decide), n9 31 (by decide), n8 31 (by decide), n7 31 (by decide), n6 31 (by decide), n5 31 (by decide), n4 31 (by decide), n3 31 (by decide), n2 31 (by decide), n1 31 (by decide), n0 31 (by decide)]
  · intro k h6 h7 h11 h12 h13 h17
    rw [s17, pk_un h17, n16 2 (by decide), n15 2 (by decide), n14 2 (by decide), s13, pk_un h13, s12, pk_un h12, s11, pk_un h11, n10 2 (by decide), n9 2 (by decide), n8 2 (by decide), s7, pk_un h7, s6, pk_un h6, n5 2 (by decide), n4 2 (by decide), n3 2 (by decide), n2 2 (by decide), n1 2 (by decide), n0 2 (by decide)]
theorem rt_copyM1 {μ : ro_Mem} (hU : ∀ i, i < 96 → μ 208 i = 0 ∨ μ 208 i = 1) : ∃ M, fn_X12_keep μ = some (M 207 70, M) ∧ (∀ o, ¬ o = 207 → ¬ o = 261 → ¬ o = 262 → ¬ o = 263 → ¬ o = 264 → ¬ o = 265 → ¬ o = 266 → ¬ o = 267 → ¬ o = 268 → ¬ o = 269 → ¬ o = 270 → ¬ o = 271 → ¬ o = 272 → M o = μ o) ∧ M 207 76 = 1 ∧ M 207 77 = μ 207 0 ∧ M 207 78 = μ 207 1 ∧ M 207 79 = μ 207 2 ∧ M 207 80 = μ 207 70 ∧ M 207 81 = μ 207 71 ∧ (∀ i, i < 96 → M 261 i = μ 208 i) ∧ (∀ i, i < 96 → M 262 i = μ 209 i) ∧ (∀ i, i < 96 → M 263 i = μ 210 i) ∧ (∀ i, i < 16 → M 264 i = μ 211 i) ∧ (∀ i, i < 16 → M 265 i = μ 212 i) ∧ (∀ i, i < 16 → M 266 i = μ 213 i) ∧ (∀ i, i < 4 → M 267 i = μ 214 i) ∧ (∀ i, i < 10 → M 268 i = μ 215 i) ∧ (∀ i, i < 40 → M 269 i = μ 216 i) ∧ (∀ i, i < 10 → M 270 i = μ 257 i) ∧ (∀ i, i < 16 → M 271 i = μ 258 i) ∧ (∀ i, i < 32 → M 272 i = μ 259 i) ∧ (∀ k, ¬ k = 76 → ¬ k = 77 → ¬ k = 78 → ¬ k = 79 → ¬ k = 80 → ¬ k = 81 → M 207 k = μ 207 k) := by
  obtain ⟨m0, e0⟩ : ∃ m, m = ro_set μ 207 76 1 := ⟨_, rfl⟩
  have n0 : ∀ o, ¬ o = 207 → m0 o = μ o := fun o h => by rw [e0, ro_set_ne _ _ _ h]
  have s0 : m0 207 = upd (μ 207) 76 1 := by rw [e0, ro_set_same]
  obtain ⟨m1, e1⟩ : ∃ m, m = ro_set m0 207 77 (m0 207 0) := ⟨_, rfl⟩
  have n1 : ∀ o, ¬ o = 207 → m1 o = m0 o := fun o h => by rw [e1, ro_set_ne _ _ _ h]
  have s1 : m1 207 = upd (m0 207) 77 (m0 207 0) := by rw [e1, ro_set_same]
  obtain ⟨m2, e2⟩ : ∃ m, m = ro_set m1 207 78 (m1 207 1) := ⟨_, rfl⟩
  have n2 : ∀ o, ¬ o = 207 → m2 o = m1 o := fun o h => by rw [e2, ro_set_ne _ _ _ h]
  have s2 : m2 207 = upd (m1 207) 78 (m1 207 1) := by rw [e2, ro_set_same]
  obtain ⟨m3, e3⟩ : ∃ m, m = ro_set m2 207 79 (m2 207 2) := ⟨_, rfl⟩
  have n3 : ∀ o, ¬ o = 207 → m3 o = m2 o := fun o h => by rw [e3, ro_set_ne _ _ _ h]
  have s3 : m3 207 = upd (m2 207) 79 (m2 207 2) := by rw [e3, ro_set_same]
  obtain ⟨m4, e4⟩ : ∃ m, m = ro_set m3 207 80 (m3 207 70) := ⟨_, rfl⟩
  have n4 : ∀ o, ¬ o = 207 → m4 o = m3 o := fun o h => by rw [e4, ro_set_ne _ _ _ h]
  have s4 : m4 207 = upd (m3 207) 80 (m3 207 70) := by rw [e4, ro_set_same]
  obtain ⟨m5, e5⟩ : ∃ m, m = ro_set m4 207 81 (m4 207 71) := ⟨_, rfl⟩
  have n5 : ∀ o, ¬ o = 207 → m5 o = m4 o := fun o h => by rw [e5, ro_set_ne _ _ _ h]
  have s5 : m5 207 = upd (m4 207) 81 (m4 207 71) := by rw [e5, ro_set_same]
  obtain ⟨m6, e6⟩ : ∃ m, m = ro_arr m5 261 (rt_mix (m5 208) (m5 261) 96) := ⟨_, rfl⟩
  have n6 : ∀ o, ¬ o = 261 → m6 o = m5 o := fun o h => by rw [e6, ro_arr_ne _ _ h]
  have s6 : m6 261 = rt_mix (m5 208) (m5 261) 96 := by rw [e6, ro_arr_same]
  obtain ⟨m7, e7⟩ : ∃ m, m = ro_arr m6 262 (rt_mix (m6 209) (m6 262) 96) := ⟨_, rfl⟩
  have n7 : ∀ o, ¬ o = 262 → m7 o = m6 o := fun o h => by rw [e7, ro_arr_ne _ _ h]
  have s7 : m7 262 = rt_mix (m6 209) (m6 262) 96 := by rw [e7, ro_arr_same]
  obtain ⟨m8, e8⟩ : ∃ m, m = ro_arr m7 263 (rt_mix (m7 210) (m7 263) 96) := ⟨_, rfl⟩
  have n8 : ∀ o, ¬ o = 263 → m8 o = m7 o := fun o h => by rw [e8, ro_arr_ne _ _ h]
  have s8 : m8 263 = rt_mix (m7 210) (m7 263) 96 := by rw [e8, ro_arr_same]
  obtain ⟨m9, e9⟩ : ∃ m, m = ro_arr m8 264 (rt_mix (m8 211) (m8 264) 16) := ⟨_, rfl⟩
  have n9 : ∀ o, ¬ o = 264 → m9 o = m8 o := fun o h => by rw [e9, ro_arr_ne _ _ h]
  have s9 : m9 264 = rt_mix (m8 211) (m8 264) 16 := by rw [e9, ro_arr_same]
  obtain ⟨m10, e10⟩ : ∃ m, m = ro_arr m9 265 (rt_mix (m9 212) (m9 265) 16) := ⟨_, rfl⟩
  have n10 : ∀ o, ¬ o = 265 → m10 o = m9 o := fun o h => by rw [e10, ro_arr_ne _ _ h]
  have s10 : m10 265 = rt_mix (m9 212) (m9 265) 16 := by rw [e10, ro_arr_same]
  obtain ⟨m11, e11⟩ : ∃ m, m = ro_arr m10 266 (rt_mix (m10 213) (m10 266) 16) := ⟨_, rfl⟩
  have n11 : ∀ o, ¬ o = 266 → m11 o = m10 o := fun o h => by rw [e11, ro_arr_ne _ _ h]
  have s11 : m11 266 = rt_mix (m10 213) (m10 266) 16 := by rw [e11, ro_arr_same]
  obtain ⟨m12, e12⟩ : ∃ m, m = ro_arr m11 267 (rt_mix (m11 214) (m11 267) 4) := ⟨_, rfl⟩
  have n12 : ∀ o, ¬ o = 267 → m12 o = m11 o := fun o h => by rw [e12, ro_arr_ne _ _ h]
  have s12 : m12 267 = rt_mix (m11 214) (m11 267) 4 := by rw [e12, ro_arr_same]
  obtain ⟨m13, e13⟩ : ∃ m, m = ro_arr m12 268 (rt_mix (m12 215) (m12 268) 10) := ⟨_, rfl⟩
  have n13 : ∀ o, ¬ o = 268 → m13 o = m12 o := fun o h => by rw [e13, ro_arr_ne _ _ h]
  have s13 : m13 268 = rt_mix (m12 215) (m12 268) 10 := by rw [e13, ro_arr_same]
  obtain ⟨m14, e14⟩ : ∃ m, m = ro_arr m13 269 (rt_mix (m13 216) (m13 269) 40) := ⟨_, rfl⟩
  have n14 : ∀ o, ¬ o = 269 → m14 o = m13 o := fun o h => by rw [e14, ro_arr_ne _ _ h]
  have s14 : m14 269 = rt_mix (m13 216) (m13 269) 40 := by rw [e14, ro_arr_same]
  obtain ⟨m15, e15⟩ : ∃ m, m = ro_arr m14 270 (rt_mix (m14 257) (m14 270) 10) := ⟨_, rfl⟩
  have n15 : ∀ o, ¬ o = 270 → m15 o = m14 o := fun o h => by rw [e15, ro_arr_ne _ _ h]
  have s15 : m15 270 = rt_mix (m14 257) (m14 270) 10 := by rw [e15, ro_arr_same]
  obtain ⟨m16, e16⟩ : ∃ m, m = ro_arr m15 271 (rt_mix (m15 258) (m15 271) 16) := ⟨_, rfl⟩
  have n16 : ∀ o, ¬ o = 271 → m16 o = m15 o := fun o h => by rw [e16, ro_arr_ne _ _ h]
  have s16 : m16 271 = rt_mix (m15 258) (m15 271) 16 := by rw [e16, ro_arr_same]
  obtain ⟨m17, e17⟩ : ∃ m, m = ro_arr m16 272 (rt_mix (m16 259) (m16 272) 32) := ⟨_, rfl⟩
  have n17 : ∀ o, ¬ o = 272 → m17 o = m16 o := fun o h => by rw [e17, ro_arr_ne _ _ h]
  have s17 : m17 272 = rt_mix (m16 259) (m16 272) 32 := by rw [e17, ro_arr_same]
  refine ⟨m17, ?_, ?_, ?_, ?_, ?_, ?_, ?_, ?_, ?_, ?_, ?_, ?_, ?_, ?_, ?_, ?_, ?_, ?_, ?_, ?_, ?_⟩
  · unfold fn_X12_keep
    rw [← e0, ro_lt]
    rw [← e1, ro_lt]
    rw [← e2, ro_lt]
    rw [← e3, ro_lt]
    rw [← e4, ro_lt]
    rw [← e5, ro_lt]
    rw [rt_bM1 (by intro i hi; rw [n5 208 (by decide), n4 208 (by decide), n3 208 (by decide), n2 208 (by decide), n1 208 (by decide), n0 208 (by decide)]; exact hU i hi), ← e6, Option.bind_some]
    rw [show fn_X12_copies 209 262 96 m6 = some m7 from (rt_copies (n := 96) (by decide) (by decide) (by decide) (by decide)).trans (by rw [e7]), Option.bind_some]
    rw [show fn_X12_copies 210 263 96 m7 = some m8 from (rt_copies (n := 96) (by decide) (by decide) (by decide) (by decide)).trans (by rw [e8]), Option.bind_some]
    rw [show fn_X12_copies 211 264 16 m8 = some m9 from (rt_copies (n := 16) (by decide) (by decide) (by decide) (by decide)).trans (by rw [e9]), Option.bind_some]
    rw [show fn_X12_copies 212 265 16 m9 = some m10 from (rt_copies (n := 16) (by decide) (by decide) (by decide) (by decide)).trans (by rw [e10]), Option.bind_some]
    rw [show fn_X12_copies 213 266 16 m10 = some m11 from (rt_copies (n := 16) (by decide) (by decide) (by decide) (by decide)).trans (by rw [e11]), Option.bind_some]
    rw [show fn_X12_copies 214 267 4 m11 = some m12 from (rt_copies (n := 4) (by decide) (by decide) (by decide) (by decide)).trans (by rw [e12]), Option.bind_some]
    rw [show fn_X12_copies 215 268 10 m12 = some m13 from (rt_copies (n := 10) (by decide) (by decide) (by decide) (by decide)).trans (by rw [e13]), Option.bind_some]
    rw [show fn_X12_copies 216 269 40 m13 = some m14 from (rt_copies (n := 40) (by decide) (by decide) (by decide) (by decide)).trans (by rw [e14]), Option.bind_some]
    rw [show fn_X12_copies 257 270 10 m14 = some m15 from (rt_copies (n := 10) (by decide) (by decide) (by decide) (by decide)).trans (by rw [e15]), Option.bind_some]
    rw [show fn_X12_copies 258 271 16 m15 = some m16 from (rt_copies (n := 16) (by decide) (by decide) (by decide) (by decide)).trans (by rw [e16]), Option.bind_some]
    rw [show fn_X12_copies 259 272 32 m16 = some m17 from (rt_copies (n := 32) (by decide) (by decide) (by decide) (by decide)).trans (by rw [e17]), Option.bind_some]
  · intro o h207 h261 h262 h263 h264 h265 h266 h267 h268 h269 h270 h271 h272
    rw [n17 o h272, n16 o h271, n15 o h270, n14 o h269, n13 o h268, n12 o h267, n11 o h266, n10 o h265, n9 o h264, n8 o h263, n7 o h262, n6 o h261, n5 o h207, n4 o h207, n3 o h207, n2 o h207, n1 o h207, n0 o h207]
  · rw [n17 207 (by decide), n16 207 (by decide), n15 207 (by decide), n14 207 (by decide), n13 207 (by decide), n12 207 (by decide), n11 207 (by decide), n10 207 (by decide), n9 207 (by decide), n8 207 (by decide), n7 207 (by decide), n6 207 (by decide), s5, pk_un (by decide), s4, pk_un (by decide), s3, pk_un (by decide), s2, pk_un (by decide), s1, pk_un (by decide), s0, pk_us]
  · rw [n17 207 (by decide), n16 207 (by decide), n15 207 (by decide), n14 207 (by decide), n13 207 (by decide), n12 207 (by decide), n11 207 (by decide), n10 207 (by decide), n9 207 (by decide), n8 207 (by decide), n7 207 (by decide), n6 207 (by decide), s5, pk_un (by decide), s4, pk_un (by decide), s3, pk_un (by decide), s2, pk_un (by decide), s1, pk_us, s0, pk_un (by decide)]
  · rw [n17 207 (by decide), n16 207 (by decide), n15 207 (by decide), n14 207 (by decide), n13 207 (by decide), n12 207 (by decide), n11 207 (by decide), n10 207 (by decide), n9 207 (by decide), n8 207 (by decide), n7 207 (by decide), n6 207 (by decide), s5, pk_un (by decide), s4, pk_un (by decide), s3, pk_un (by decide), s2, pk_us, s1, pk_un (by decide), s0, pk_un (by decide)]
  · rw [n17 207 (by decide), n16 207 (by decide), n15 207 (by decide), n14 207 (by decide), n13 207 (by decide), n12 207 (by decide), n11 207 (by decide), n10 207 (by decide), n9 207 (by decide), n8 207 (by decide), n7 207 (by decide), n6 207 (by decide), s5, pk_un (by decide), s4, pk_un (by decide), s3, pk_us, s2, pk_un (by decide), s1, pk_un (by decide), s0, pk_un (by decide)]
  · rw [n17 207 (by decide), n16 207 (by decide), n15 207 (by decide), n14 207 (by decide), n13 207 (by decide), n12 207 (by decide), n11 207 (by decide), n10 207 (by decide), n9 207 (by decide), n8 207 (by decide), n7 207 (by decide), n6 207 (by decide), s5, pk_un (by decide), s4, pk_us, s3, pk_un (by decide), s2, pk_un (by decide), s1, pk_un (by decide), s0, pk_un (by decide)]
  · rw [n17 207 (by decide), n16 207 (by decide), n15 207 (by decide), n14 207 (by decide), n13 207 (by decide), n12 207 (by decide), n11 207 (by decide), n10 207 (by decide), n9 207 (by decide), n8 207 (by decide), n7 207 (by decide), n6 207 (by decide), s5, pk_us, s4, pk_un (by decide), s3, pk_un (by decide), s2, pk_un (by decide), s1, pk_un (by decide), s0, pk_un (by decide)]
  · intro i hi
    rw [n17 261 (by decide), n16 261 (by decide), n15 261 (by decide), n14 261 (by decide), n13 261 (by decide), n12 261 (by decide), n11 261 (by decide), n10 261 (by decide), n9 261 (by decide), n8 261 (by decide), n7 261 (by decide), s6, rt_mix_lt hi, n5 208 (by decide), n4 208 (by decide), n3 208 (by decide), n2 208 (by decide), n1 208 (by decide), n0 208 (by decide)]
  · intro i hi
    rw [n17 262 (by decide), n16 262 (by decide), n15 262 (by decide), n14 262 (by decide), n13 262 (by decide), n12 262 (by decide), n11 262 (by decide), n10 262 (by decide), n9 262 (by decide), n8 262 (by decide), s7, rt_mix_lt hi, n6 209 (by decide), n5 209 (by decide), n4 209 (by decide), n3 209 (by decide), n2 209 (by decide), n1 209 (by decide), n0 209 (by decide)]
  · intro i hi
    rw [n17 263 (by decide), n16 263 (by decide), n15 263 (by decide), n14 263 (by decide), n13 263 (by decide), n12 263 (by decide), n11 263 (by decide), n10 263 (by decide), n9 263 (by decide), s8, rt_mix_lt hi, n7 210 (by decide), n6 210 (by decide), n5 210 (by decide), n4 210 (by decide), n3 210 (by decide), n2 210 (by decide), n1 210 (by decide), n0 210 (by decide)]
  · intro i hi
    rw [n17 264 (by decide), n16 264 (by decide), n15 264 (by decide), n14 264 (by decide), n13 264 (by decide), n12 264 (by decide), n11 264 (by decide), n10 264 (by decide), s9, rt_mix_lt hi, n8 211 (by decide), n7 211 (by decide), n6 211 (by decide), n5 211 (by decide), n4 211 (by decide), n3 211 (by decide), n2 211 (by decide), n1 211 (by decide), n0 211 (by decide)]
  · intro i hi
    rw [n17 265 (by decide), n16 265 (by decide), n15 265 (by decide), n14 265 (by decide), n13 265 (by decide), n12 265 (by decide), n11 265 (by decide), s10, rt_mix_lt hi, n9 212 (by decide), n8 212 (by decide), n7 212 (by decide), n6 212 (by decide), n5 212 (by decide), n4 212 (by decide), n3 212 (by decide), n2 212 (by decide), n1 212 (by decide), n0 212 (by decide)]
  · intro i hi
    rw [n17 266 (by decide), n16 266 (by decide), n15 266 (by decide), n14 266 (by decide), n13 266 (by decide), n12 266 (by decide), s11, rt_mix_lt hi, n10 213 (by decide), n9 213 (by decide), n8 213 (by decide), n7 213 (by decide), n6 213 (by decide), n5 213 (by decide), n4 213 (by decide), n3 213 (by decide), n2 213 (by decide), n1 213 (by decide), n0 213 (by decide)]
  · intro i hi
    rw [n17 267 (by decide), n16 267 (by decide), n15 267 (by decide), n14 267 (by decide), n13 267 (by decide), s12, rt_mix_lt hi, n11 214 (by decide), n10 214 (by decide), n9 214 (by decide), n8 214 (by decide), n7 214 (by decide), n6 214 (by decide), n5 214 (by decide), n4 214 (by decide), n3 214 (by decide), n2 214 (by decide), n1 214 (by decide), n0 214 (by decide)]
  · intro i hi
    rw [n17 268 (by decide), n16 268 (by decide), n15 268 (by decide), n14 268 (by decide), s13, rt_mix_lt hi, n12 215 (by decide), n11 215 (by decide), n10 215 (by decide), n9 215 (by decide), n8 215 (by decide), n7 215 (by decide), n6 215 (by decide), n5 215 (by decide), n4 215 (by decide), n3 215 (by decide), n2 215 (by decide), n1 215 (by decide), n0 215 (by decide)]
  · intro i hi
    rw [n17 269 (by decide), n16 269 (by decide), n15 269 (by decide), s14, rt_mix_lt hi, n13 216 (by decide), n12 216 (by decide), n11 216 (by decide), n10 216 (by decide), n9 216 (by decide), n8 216 (by decide), n7 216 (by decide), n6 216 (by decide), n5 216 (by decide), n4 216 (by decide), n3 216 (by decide), n2 216 (by decide), n1 216 (by decide), n0 216 (by decide)]
  · intro i hi
    rw [n17 270 (by decide), n16 270 (by decide), s15, rt_mix_lt hi, n14 257 (by decide), n13 257 (by decide), n12 257 (by decide), n11 257 (by decide), n10 257 (by decide), n9 257 (by decide), n8 257 (by decide), n7 257 (by decide), n6 257 (by decide), n5 257 (by decide), n4 257 (by decide), n3 257 (by decide), n2 257 (by decide), n1 257 (by decide), n0 257 (by decide)]
  · intro i hi
    rw [n17 271 (by decide), s16, rt_mix_lt hi, n15 258 (by decide), n14 258 (by decide), n13 258 (by decide), n12 258 (by decide), n11 258 (by decide), n10 258 (by decide), n9 258 (by decide), n8 258 (by decide), n7 258 (by decide), n6 258 (by decide), n5 258 (by decide), n4 258 (by decide), n3 258 (by decide), n2 258 (by decide), n1 258 (by decide), n0 258 (by decide)]
  · intro i hi
    rw [s17, rt_mix_lt hi, n16 259 (by decide), n15 259 (by decide), n14 259 (by decide), n13 259 (by decide), n12 259 (by decide), n11 259 (by decide), n10 259 (by decide), n9 259 (by decide), n8 259 (by decide), n7 259 (by decide), n6 259 (by decide), n5 259 (by decide), n4 259 (by decide), n3 259 (by decide), n2 259 (by decide), n1 259 (by decide), n0 259 (by decide)]
  · intro k h76 h77 h78 h79 h80 h81
    rw [n17 207 (by decide), n16 207 (by decide), n15 207 (by decide), n14 207 (by decide), n13 207 (by decide), n12 207 (by decide), n11 207 (by decide), n10 207 (by decide), n9 207 (by decide), n8 207 (by decide), n7 207 (by decide), n6 207 (by decide), s5, pk_un h81, s4, pk_un h80, s3, pk_un h79, s2, pk_un h78, s1, pk_un h77, s0, pk_un h76]
theorem rt_copyM2 {μ : ro_Mem} (h76 : ¬ μ 207 76 = 0) (hU : ∀ i, i < 96 → μ 261 i = 0 ∨ μ 261 i = 1) : ∃ M, fn_X12_undo μ = some (1, M) ∧ (∀ o, ¬ o = 207 → ¬ o = 208 → ¬ o = 209 → ¬ o = 210 → ¬ o = 211 → ¬ o = 212 → ¬ o = 213 → ¬ o = 214 → ¬ o = 215 → ¬ o = 216 → ¬ o = 257 → ¬ o = 258 → ¬ o = 259 → M o = μ o) ∧ M 207 0 = μ 207 77 ∧ M 207 1 = μ 207 78 ∧ M 207 2 = μ 207 79 ∧ M 207 70 = μ 207 80 ∧ M 207 71 = μ 207 81 ∧ (∀ i, i < 96 → M 208 i = μ 261 i) ∧ (∀ i, i < 96 → M 209 i = μ 262 i) ∧ (∀ i, i < 96 → M 210 i = μ 263 i) ∧ (∀ i, i < 16 → M 211 i = μ 264 i) ∧ (∀ i, i < 16 → M 212 i = μ 265 i) ∧ (∀ i, i < 16 → M 213 i = μ 266 i) ∧ (∀ i, i < 4 → M 214 i = μ 267 i) ∧ (∀ i, i < 10 → M 215 i = μ 268 i) ∧ (∀ i, i < 40 → M 216 i = μ 269 i) ∧ (∀ i, i < 10 → M 257 i = μ 270 i) ∧ (∀ i, i < 16 → M 258 i = μ 271 i) ∧ (∀ i, i < 32 → M 259 i = μ 272 i) ∧ (∀ k, ¬ k = 0 → ¬ k = 1 → ¬ k = 2 → ¬ k = 70 → ¬ k = 71 → M 207 k = μ 207 k) := by
  obtain ⟨m0, e0⟩ : ∃ m, m = ro_set μ 207 0 (μ 207 77) := ⟨_, rfl⟩
  have n0 : ∀ o, ¬ o = 207 → m0 o = μ o := fun o h => by rw [e0, ro_set_ne _ _ _ h]
  have s0 : m0 207 = upd (μ 207) 0 (μ 207 77) := by rw [e0, ro_set_same]
  obtain ⟨m1, e1⟩ : ∃ m, m = ro_set m0 207 1 (m0 207 78) := ⟨_, rfl⟩
  have n1 : ∀ o, ¬ o = 207 → m1 o = m0 o := fun o h => by rw [e1, ro_set_ne _ _ _ h]
  have s1 : m1 207 = upd (m0 207) 1 (m0 207 78) := by rw [e1, ro_set_same]
  obtain ⟨m2, e2⟩ : ∃ m, m = ro_set m1 207 2 (m1 207 79) := ⟨_, rfl⟩
  have n2 : ∀ o, ¬ o = 207 → m2 o = m1 o := fun o h => by rw [e2, ro_set_ne _ _ _ h]
  have s2 : m2 207 = upd (m1 207) 2 (m1 207 79) := by rw [e2, ro_set_same]
  obtain ⟨m3, e3⟩ : ∃ m, m = ro_set m2 207 70 (m2 207 80) := ⟨_, rfl⟩
  have n3 : ∀ o, ¬ o = 207 → m3 o = m2 o := fun o h => by rw [e3, ro_set_ne _ _ _ h]
  have s3 : m3 207 = upd (m2 207) 70 (m2 207 80) := by rw [e3, ro_set_same]
  obtain ⟨m4, e4⟩ : ∃ m, m = ro_set m3 207 71 (m3 207 81) := ⟨_, rfl⟩
  have n4 : ∀ o, ¬ o = 207 → m4 o = m3 o := fun o h => by rw [e4, ro_set_ne _ _ _ h]
  have s4 : m4 207 = upd (m3 207) 71 (m3 207 81) := by rw [e4, ro_set_same]
  obtain ⟨m5, e5⟩ : ∃ m, m = ro_arr m4 208 (rt_mix (m4 261) (m4 208) 96) := ⟨_, rfl⟩
  have n5 : ∀ o, ¬ o = 208 → m5 o = m4 o := fun o h => by rw [e5, ro_arr_ne _ _ h]
  have s5 : m5 208 = rt_mix (m4 261) (m4 208) 96 := by rw [e5, ro_arr_same]
  obtain ⟨m6, e6⟩ : ∃ m, m = ro_arr m5 209 (rt_mix (m5 262) (m5 209) 96) := ⟨_, rfl⟩
  have n6 : ∀ o, ¬ o = 209 → m6 o = m5 o := fun o h => by rw [e6, ro_arr_ne _ _ h]
  have s6 : m6 209 = rt_mix (m5 262) (m5 209) 96 := by rw [e6, ro_arr_same]
  obtain ⟨m7, e7⟩ : ∃ m, m = ro_arr m6 210 (rt_mix (m6 263) (m6 210) 96) := ⟨_, rfl⟩
  have n7 : ∀ o, ¬ o = 210 → m7 o = m6 o := fun o h => by rw [e7, ro_arr_ne _ _ h]
  have s7 : m7 210 = rt_mix (m6 263) (m6 210) 96 := by rw [e7, ro_arr_same]
  obtain ⟨m8, e8⟩ : ∃ m, m = ro_arr m7 211 (rt_mix (m7 264) (m7 211) 16) := ⟨_, rfl⟩
  have n8 : ∀ o, ¬ o = 211 → m8 o = m7 o := fun o h => by rw [e8, ro_arr_ne _ _ h]
  have s8 : m8 211 = rt_mix (m7 264) (m7 211) 16 := by rw [e8, ro_arr_same]
  obtain ⟨m9, e9⟩ : ∃ m, m = ro_arr m8 212 (rt_mix (m8 265) (m8 212) 16) := ⟨_, rfl⟩
  have n9 : ∀ o, ¬ o = 212 → m9 o = m8 o := fun o h => by rw [e9, ro_arr_ne _ _ h]
  have s9 : m9 212 = rt_mix (m8 265) (m8 212) 16 := by rw [e9, ro_arr_same]
  obtain ⟨m10, e10⟩ : ∃ m, m = ro_arr m9 213 (rt_mix (m9 266) (m9 213) 16) := ⟨_, rfl⟩
  have n10 : ∀ o, ¬ o = 213 → m10 o = m9 o := fun o h => by rw [e10, ro_arr_ne _ _ h]
  have s10 : m10 213 = rt_mix (m9 266) (m9 213) 16 := by rw [e10, ro_arr_same]
  obtain ⟨m11, e11⟩ : ∃ m, m = ro_arr m10 214 (rt_mix (m10 267) (m10 214) 4) := ⟨_, rfl⟩
  have n11 : ∀ o, ¬ o = 214 → m11 o = m10 o := fun o h => by rw [e11, ro_arr_ne _ _ h]
  have s11 : m11 214 = rt_mix (m10 267) (m10 214) 4 := by rw [e11, ro_arr_same]
  obtain ⟨m12, e12⟩ : ∃ m, m = ro_arr m11 215 (rt_mix (m11 268) (m11 215) 10) := ⟨_, rfl⟩
  have n12 : ∀ o, ¬ o = 215 → m12 o = m11 o := fun o h => by rw [e12, ro_arr_ne _ _ h]
  have s12 : m12 215 = rt_mix (m11 268) (m11 215) 10 := by rw [e12, ro_arr_same]
  obtain ⟨m13, e13⟩ : ∃ m, m = ro_arr m12 216 (rt_mix (m12 269) (m12 216) 40) := ⟨_, rfl⟩
  have n13 : ∀ o, ¬ o = 216 → m13 o = m12 o := fun o h => by rw [e13, ro_arr_ne _ _ h]
  have s13 : m13 216 = rt_mix (m12 269) (m12 216) 40 := by rw [e13, ro_arr_same]
  obtain ⟨m14, e14⟩ : ∃ m, m = ro_arr m13 257 (rt_mix (m13 270) (m13 257) 10) := ⟨_, rfl⟩
  have n14 : ∀ o, ¬ o = 257 → m14 o = m13 o := fun o h => by rw [e14, ro_arr_ne _ _ h]
  have s14 : m14 257 = rt_mix (m13 270) (m13 257) 10 := by rw [e14, ro_arr_same]
  obtain ⟨m15, e15⟩ : ∃ m, m = ro_arr m14 258 (rt_mix (m14 271) (m14 258) 16) := ⟨_, rfl⟩
  have n15 : ∀ o, ¬ o = 258 → m15 o = m14 o := fun o h => by rw [e15, ro_arr_ne _ _ h]
  have s15 : m15 258 = rt_mix (m14 271) (m14 258) 16 := by rw [e15, ro_arr_same]
  obtain ⟨m16, e16⟩ : ∃ m, m = ro_arr m15 259 (rt_mix (m15 272) (m15 259) 32) := ⟨_, rfl⟩
  have n16 : ∀ o, ¬ o = 259 → m16 o = m15 o := fun o h => by rw [e16, ro_arr_ne _ _ h]
  have s16 : m16 259 = rt_mix (m15 272) (m15 259) 32 := by rw [e16, ro_arr_same]
  refine ⟨m16, ?_, ?_, ?_, ?_, ?_, ?_, ?_, ?_, ?_, ?_, ?_, ?_, ?_, ?_, ?_, ?_, ?_, ?_, ?_, ?_⟩
  · unfold fn_X12_undo
    rw [if_neg h76]
    rw [← e0, ro_lt]
    rw [← e1, ro_lt]
    rw [← e2, ro_lt]
    rw [← e3, ro_lt]
    rw [← e4, ro_lt]
    rw [rt_bM2 (by intro i hi; rw [n4 261 (by decide), n3 261 (by decide), n2 261 (by decide), n1 261 (by decide), n0 261 (by decide)]; exact hU i hi), ← e5, Option.bind_some]
    rw [show fn_X12_copies 262 209 96 m5 = some m6 from (rt_copies (n := 96) (by decide) (by decide) (by decide) (by decide)).trans (by rw [e6]), Option.bind_some]
    rw [show fn_X12_copies 263 210 96 m6 = some m7 from (rt_copies (n := 96) (by decide) (by decide) (by decide) (by decide)).trans (by rw [e7]), Option.bind_some]
    rw [show fn_X12_copies 264 211 16 m7 = some m8 from (rt_copies (n := 16) (by decide) (by decide) (by decide) (by decide)).trans (by rw [e8]), Option.bind_some]
    rw [show fn_X12_copies 265 212 16 m8 = some m9 from (rt_copies (n := 16) (by decide) (by decide) (by decide) (by decide)).trans (by rw [e9]), Option.bind_some]
    rw [show fn_X12_copies 266 213 16 m9 = some m10 from (rt_copies (n := 16) (by decide) (by decide) (by decide) (by decide)).trans (by rw [e10]), Option.bind_some]
    rw [show fn_X12_copies 267 214 4 m10 = some m11 from (rt_copies (n := 4) (by decide) (by decide) (by decide) (by decide)).trans (by rw [e11]), Option.bind_some]
    rw [show fn_X12_copies 268 215 10 m11 = some m12 from (rt_copies (n := 10) (by decide) (by decide) (by decide) (by decide)).trans (by rw [e12]), Option.bind_some]
    rw [show fn_X12_copies 269 216 40 m12 = some m13 from (rt_copies (n := 40) (by decide) (by decide) (by decide) (by decide)).trans (by rw [e13]), Option.bind_some]
    rw [show fn_X12_copies 270 257 10 m13 = some m14 from (rt_copies (n := 10) (by decide) (by decide) (by decide) (by decide)).trans (by rw [e14]), Option.bind_some]
    rw [show fn_X12_copies 271 258 16 m14 = some m15 from (rt_copies (n := 16) (by decide) (by decide) (by decide) (by decide)).trans (by rw [e15]), Option.bind_some]
    rw [show fn_X12_copies 272 259 32 m15 = some m16 from (rt_copies (n := 32) (by decide) (by decide) (by decide) (by decide)).trans (by rw [e16]), Option.bind_some]
  · intro o h207 h208 h209 h210 h211 h212 h213 h214 h215 h216 h257 h258 h259
    rw [n16 o h259, n15 o h258, n14 o h257, n13 o h216, n12 o h215, n11 o h214, n10 o h213, n9 o h212, n8 o h211, n7 o h210, n6 o h209, n5 o h208, n4 o h207, n3 o h207, n2 o h207, n1 o h207, n0 o h207]
  · rw [n16 207 (by decide), n15 207 (by decide), n14 207 (by decide), n13 207 (by decide), n12 207 (by decide), n11 207 (by decide), n10 207 (by decide), n9 207 (by decide), n8 207 (by decide), n7 207 (by decide), n6 207 (by decide), n5 207 (by decide), s4, pk_un (by decide), s3, pk_un (by decide), s2, pk_un (by decide), s1, pk_un (by decide), s0, pk_us]
  · rw [n16 207 (by decide), n15 207 (by decide), n14 207 (by decide), n13 207 (by decide), n12 207 (by decide), n11 207 (by decide), n10 207 (by decide), n9 207 (by decide), n8 207 (by decide), n7 207 (by decide), n6 207 (by decide), n5 207 (by decide), s4, pk_un (by decide), s3, pk_un (by decide), s2, pk_un (by decide), s1, pk_us, s0, pk_un (by decide)]
  · rw [n16 207 (by decide), n15 207 (by decide), n14 207 (by decide), n13 207 (by decide), n12 207 (by decide), n11 207 (by decide), n10 207 (by decide), n9 207 (by decide), n8 207 (by decide), n7 207 (by decide), n6 207 (by decide), n5 207 (by decide), s4, pk_un (by decide), s3, pk_un (by decide), s2, pk_us, s1, pk_un (by decide), s0, pk_un (by decide)]
  · rw [n16 207 (by decide), n15 207 (by decide), n14 207 (by decide), n13 207 (by decide), n12 207 (by decide), n11 207 (by decide), n10 207 (by decide), n9 207 (by decide), n8 207 (by decide), n7 207 (by decide), n6 207 (by decide), n5 207 (by decide), s4, pk_un (by decide), s3, pk_us, s2, pk_un (by decide), s1, pk_un (by decide), s0, pk_un (by decide)]
  · rw [n16 207 (by decide), n15 207 (by decide), n14 207 (by decide), n13 207 (by decide), n12 207 (by decide), n11 207 (by decide), n10 207 (by decide), n9 207 (by decide), n8 207 (by decide), n7 207 (by decide), n6 207 (by decide), n5 207 (by decide), s4, pk_us, s3, pk_un (by decide), s2, pk_un (by decide), s1, pk_un (by decide), s0, pk_un (by decide)]
  · intro i hi
    rw [n16 208 (by decide), n15 208 (by decide), n14 208 (by decide), n13 208 (by decide), n12 208 (by decide), n11 208 (by decide), n10 208 (by decide), n9 208 (by decide), n8 208 (by decide), n7 208 (by decide), n6 208 (by decide), s5, rt_mix_lt hi, n4 261 (by decide), n3 261 (by decide), n2 261 (by decide), n1 261 (by decide), n0 261 (by decide)]
  · intro i hi
    rw [n16 209 (by decide), n15 209 (by decide), n14 209 (by decide), n13 209 (by decide), n12 209 (by decide), n11 209 (by decide), n10 209 (by decide), n9 209 (by decide), n8 209 (by decide), n7 209 (by decide), s6, rt_mix_lt hi, n5 262 (by decide), n4 262 (by decide), n3 262 (by decide), n2 262 (by decide), n1 262 (by decide), n0 262 (by decide)]
  · intro i hi
    rw [n16 210 (by decide), n15 210 (by decide), n14 210 (by decide), n13 210 (by decide), n12 210 (by decide), n11 210 (by decide), n10 210 (by decide), n9 210 (by decide), n8 210 (by decide), s7, rt_mix_lt hi, n6 263 (by decide), n5 263 (by decide), n4 263 (by decide), n3 263 (by decide), n2 263 (by decide), n1 263 (by decide), n0 263 (by decide)]
  · intro i hi
    rw [n16 211 (by decide), n15 211 (by decide), n14 211 (by decide), n13 211 (by decide), n12 211 (by decide), n11 211 (by decide), n10 211 (by decide), n9 211 (by decide), s8, rt_mix_lt hi, n7 264 (by decide), n6 264 (by decide), n5 264 (by decide), n4 264 (by decide), n3 264 (by decide), n2 264 (by decide), n1 264 (by decide), n0 264 (by decide)]
  · intro i hi
    rw [n16 212 (by decide), n15 212 (by decide), n14 212 (by decide), n13 212 (by decide), n12 212 (by decide), n11 212 (by decide), n10 212 (by decide), s9, rt_mix_lt hi, n8 265 (by decide), n7 265 (by decide), n6 265 (by decide), n5 265 (by decide), n4 265 (by decide), n3 265 (by decide), n2 265 (by decide), n1 265 (by decide), n0 265 (by decide)]
  · intro i hi
    rw [n16 213 (by decide), n15 213 (by decide), n14 213 (by decide), n13 213 (by decide), n12 213 (by decide), n11 213 (by decide), s10, rt_mix_lt hi, n9 266 (by decide), n8 266 (by decide), n7 266 (by decide), n6 266 (by decide), n5 266 (by decide), n4 266 (by decide), n3 266 (by decide), n2 266 (by decide), n1 266 (by decide), n0 266 (by decide)]
  · intro i hi
    rw [n16 214 (by decide), n15 214 (by decide), n14 214 (by decide), n13 214 (by decide), n12 214 (by decide), s11, rt_mix_lt hi, n10 267 (by decide), n9 267 (by decide), n8 267 (by decide), n7 267 (by decide), n6 267 (by decide), n5 267 (by decide), n4 267 (by decide), n3 267 (by decide), n2 267 (by decide), n1 267 (by decide), n0 267 (by decide)]
  · intro i hi
    rw [n16 215 (by decide), n15 215 (by decide), n14 215 (by decide), n13 215 (by decide), s12, rt_mix_lt hi, n11 268 (by decide), n10 268 (by decide), n9 268 (by decide), n8 268 (by decide), n7 268 (by decide), n6 268 (by decide), n5 268 (by decide), n4 268 (by decide), n3 268 (by decide), n2 268 (by decide), n1 268 (by decide), n0 268 (by decide)]
  · intro i hi
    rw [n16 216 (by decide), n15 216 (by decide), n14 216 (by decide), s13, rt_mix_lt hi, n12 269 (by decide), n11 269 (by decide), n10 269 (by decide), n9 269 (by decide), n8 269 (by decide), n7 269 (by decide), n6 269 (by decide), n5 269 (by decide), n4 269 (by decide), n3 269 (by decide), n2 269 (by decide), n1 269 (by decide), n0 269 (by decide)]
  · intro i hi
    rw [n16 257 (by decide), n15 257 (by decide), s14, rt_mix_lt hi, n13 270 (by decide), n12 270 (by decide), n11 270 (by decide), n10 270 (by decide), n9 270 (by decide), n8 270 (by decide), n7 270 (by decide), n6 270 (by decide), n5 270 (by decide), n4 270 (by decide), n3 270 (by decide), n2 270 (by decide), n1 270 (by decide), n0 270 (by decide)]
  · intro i hi
    rw [n16 258 (by decide), s15, rt_mix_lt hi, n14 271 (by decide), n13 271 (by decide), n12 271 (by decide), n11 271 (by decide), n10 271 (by decide), n9 271 (by decide), n8 271 (by decide), n7 271 (by decide), n6 271 (by decide), n5 271 (by decide), n4 271 (by decide), n3 271 (by decide), n2 271 (by decide), n1 271 (by decide), n0 271 (by decide)]
  · intro i hi
    rw [s16, rt_mix_lt hi, n15 272 (by decide), n14 272 (by decide), n13 272 (by decide), n12 272 (by decide), n11 272 (by decide), n10 272 (by decide), n9 272 (by decide), n8 272 (by decide), n7 272 (by decide), n6 272 (by decide), n5 272 (by decide), n4 272 (by decide), n3 272 (by decide), n2 272 (by decide), n1 272 (by decide), n0 272 (by decide)]
  · intro k h0 h1 h2 h70 h71
    rw [n16 207 (by decide), n15 207 (by decide), n14 207 (by decide), n13 207 (by decide), n12 207 (by decide), n11 207 (by decide), n10 207 (by decide), n9 207 (by decide), n8 207 (by decide), n7 207 (by decide), n6 207 (by decide), n5 207 (by decide), s4, pk_un h71, s3, pk_un h70, s2, pk_un h2, s1, pk_un h1, s0, pk_un h0]
theorem iv_U.cg {c m c' m' : Nat → Int32} (h : iv_U c m) (hc : ∀ i, i < 96 → c' i = c i) (hm : ∀ i, i < 96 → m' i = m i) : iv_U c' m' := fun i hi => by rw [hc i hi, hm i hi]; exact h i hi
theorem iv_B.cg {c m c' m' : Nat → Int32} (h : iv_B c m) (hc : ∀ i, i < 96 → c' i = c i) (hm : ∀ i, i < 96 → m' i = m i) : iv_B c' m' := fun i hi => by rw [hc i hi, hm i hi]; exact h i hi
theorem iv_R.cg {c m c' m' : Nat → Int32} (h : iv_R c m) (hc : ∀ i, i < 4 → c' i = c i) (hm : ∀ i, i < 4 → m' i = m i) : iv_R c' m' := fun i hi => by rw [hc i hi, hm i hi]; exact h i hi
theorem iv_S.cg {ss lo hi mss mlo mhi ss' lo' hi' mss' mlo' mhi' : Nat → Int32} {t n mn : Int32} (h : iv_S ss lo hi mss mlo mhi t n mn) (h1 : ∀ i, i < 16 → ss' i = ss i) (h2 : ∀ i, i < 16 → lo' i = lo i) (h3 : ∀ i, i < 16 → hi' i = hi i) (h4 : ∀ i, i < 16 → mss' i = mss i) (h5 : ∀ i, i < 16 → mlo' i = mlo i) (h6 : ∀ i, i < 16 → mhi' i = mhi i) : iv_S ss' lo' hi' mss' mlo' mhi' t n mn := ⟨h.1, h.2.1, h.2.2.1, fun k hk => by rw [h1 k hk, h2 k hk, h3 k hk, h4 k hk, h5 k hk, h6 k hk]; exact h.2.2.2 k hk⟩
theorem iv_G.cg {rk st mrk mst rk' st' mrk' mst' : Nat → Int32} {t mt : Int32} (h : iv_G rk st mrk mst t mt) (h1 : ∀ i, i < 10 → rk' i = rk i) (h2 : ∀ i, i < 40 → st' i = st i) (h3 : ∀ i, i < 10 → mrk' i = mrk i) (h4 : ∀ i, i < 40 → mst' i = mst i) : iv_G rk' st' mrk' mst' t mt := by
  obtain ⟨a1, a2, a3, a4, a5, a6⟩ := h
  refine ⟨a1, a2, ?_, ?_, ?_, ?_⟩
  · intro g hg; rw [h1 g hg, h3 g hg]; exact a3 g hg
  · intro a g ha hg; rw [h2 _ (by omega), h4 _ (by omega)]; exact a4 a g ha hg
  · intro a g ha hg; rw [h2 _ (by omega)]; exact a5 a g ha hg
  · intro a g g' ha hg hg'; rw [h2 (10 * a + g) (by omega), h2 (10 * a + g') (by omega)]; exact a6 a g g' ha hg hg'
theorem iv_N.cg {gs sl ns mgs msl mns gs' sl' ns' mgs' msl' mns' : Nat → Int32} {e p me mp : Int32} (h : iv_N gs sl ns mgs msl mns e p me mp) (h1 : ∀ i, i < 10 → gs' i = gs i) (h2 : ∀ i, i < 16 → sl' i = sl i) (h3 : ∀ i, i < 32 → ns' i = ns i) (h4 : ∀ i, i < 10 → mgs' i = mgs i) (h5 : ∀ i, i < 16 → msl' i = msl i) (h6 : ∀ i, i < 32 → mns' i = mns i) : iv_N gs' sl' ns' mgs' msl' mns' e p me mp := by
  obtain ⟨a1, a2, a3, a4, a5⟩ := h
  refine ⟨a1, a2, ?_, ?_, ?_⟩
  · intro g hg; rw [h1 g hg, h4 g hg]; exact a3 g hg
  · intro g hg; rw [h2 g hg, h5 g hg]; exact a4 g hg
  · intro g hg; rw [h3 g hg, h6 g hg]; exact a5 g hg
theorem op_keep (μ : ro_Mem) (hI : Inv μ) : ∃ r μ1 μ2, fn_X11_keep μ = some (r, μ1) ∧ fn_X12_keep μ1 = some (r, μ2) ∧ Inv μ2 := by
  have hI' := hI
  obtain ⟨⟨hU, hB, hMo, hS, hR, hG, hN, hX⟩, hK, hT, hSW, hC, hW, hE, hQ⟩ := hI'
  obtain ⟨M, hM, hMf, ca1, ca2, ca3, ca4, ca5, ca6, cs6, cs7, ca7, ca8, ca9, cs11, cs12, cs13, ca10, ca11, ca12, cs17, crest⟩ := rt_copyC1 (μ := μ) (fun i hi => (hU i hi).2)
  obtain ⟨D, hD⟩ : ∃ D, D = ro_set M 0 2 1 := ⟨_, rfl⟩
  have dn : ∀ o, ¬ o = 0 → D o = M o := fun o h => by rw [hD, ro_set_ne _ _ _ h]
  have ds : D 0 = upd (μ 0) 2 1 := by rw [hD, ro_set_same, hMf 0 (by omega) (by omega) (by omega) (by omega) (by omega) (by omega) (by omega) (by omega) (by omega) (by omega) (by omega) (by omega) (by omega)]
  have df : ∀ o, ¬ o = 0 → ¬ (31 ≤ o ∧ o ≤ 43) → D o = μ o := fun o h h2 => by rw [dn o h, hMf o (by omega) (by omega) (by omega) (by omega) (by omega) (by omega) (by omega) (by omega) (by omega) (by omega) (by omega) (by omega) (by omega)]
  obtain ⟨P, hP, hPf, mc76, ms77, ms78, ms79, ms80, ms81, m261, m262, m263, m264, m265, m266, m267, m268, m269, m270, m271, m272, mrest⟩ := rt_copyM1 (μ := D) (fun i hi => by rw [df 208 (by decide) (by omega), (hU i hi).1]; exact (hU i hi).2)
  have pf : ∀ o, ¬ o = 207 → ¬ (261 ≤ o ∧ o ≤ 272) → P o = D o := fun o h h2 => hPf o (by omega) (by omega) (by omega) (by omega) (by omega) (by omega) (by omega) (by omega) (by omega) (by omega) (by omega) (by omega) (by omega)
  have pp : ∀ o, ¬ o = 0 → ¬ (31 ≤ o ∧ o ≤ 43) → ¬ o = 207 → ¬ (261 ≤ o ∧ o ≤ 272) → P o = μ o := fun o h1 h2 h3 h4 => by rw [pf o h3 h4, df o h1 h2]
  have p0 : P 0 = upd (μ 0) 2 1 := by rw [pf 0 (by decide) (by omega), ds]
  have d207 : D 207 = μ 207 := df 207 (by decide) (by omega)
  have p207 : ∀ k, ¬ (76 ≤ k ∧ k ≤ 81) → P 207 k = μ 207 k := fun k h => by rw [mrest k (by omega) (by omega) (by omega) (by omega) (by omega) (by omega), d207]
  have pc : ∀ o, 31 ≤ o → o ≤ 43 → P o = M o := fun o h h2 => by rw [pf o (by omega) (by omega), dn o (by omega)]
  refine ⟨M 31 12, D, P, ?_, ?_, ?_⟩
  · unfold fn_X11_keep
    rw [hM, Option.bind_some, ← hD]
    show some (D 31 12, D) = _
    rw [dn 31 (by decide)]
  · rw [hP, p207 70 (by omega), hN.1, cs12]
  · obtain ⟨hC', hW'⟩ := cg_CW (μ' := P) hSW hC hW (pp 1 (by omega) (by omega) (by omega) (by omega)) (fun o a b => pp o (by omega) (by omega) (by omega) (by omega)) (fun o a b => pp o (by omega) (by omega) (by omega) (by omega)) (fun o a b => pp o (by omega) (by omega) (by omega) (by omega)) (fun o a b => pp o (by omega) (by omega) (by omega) (by omega)) (fun k a b => p207 k (by omega))
    refine ⟨⟨?_, ?_, ?_, ?_, ?_, ?_, ?_, ?_⟩, Or.inr ⟨by rw [p0]; simp [upd], mc76, ⟨?_, ?_, ?_, ?_, ?_, ?_, ?_, ?_⟩⟩, ?_, cg_SW hSW (by rw [p0]; simp [upd]) (pp 1 (by omega) (by omega) (by omega) (by omega)) (pp 50 (by omega) (by omega) (by omega) (by omega)), hC', hW', ?_, by rw [p207 52 (by omega)]; exact hQ⟩
    · rw [pp 3 (by omega) (by omega) (by omega) (by omega), pp 208 (by omega) (by omega) (by omega) (by omega)]; exact hU
    · rw [pp 4 (by omega) (by omega) (by omega) (by omega), pp 209 (by omega) (by omega) (by omega) (by omega)]; exact hB
    · rw [pp 5 (by omega) (by omega) (by omega) (by omega), pp 210 (by omega) (by omega) (by omega) (by omega)]; exact hMo
    · rw [pp 6 (by omega) (by omega) (by omega) (by omega), pp 7 (by omega) (by omega) (by omega) (by omega), pp 8 (by omega) (by omega) (by omega) (by omega), pp 211 (by omega) (by omega) (by omega) (by omega), pp 212 (by omega) (by omega) (by omega) (by omega), pp 213 (by omega) (by omega) (by omega) (by omega), pp 2 (by omega) (by omega) (by omega) (by omega), p207 1 (by omega)]; exact hS
    · rw [pp 9 (by omega) (by omega) (by omega) (by omega), pp 214 (by omega) (by omega) (by omega) (by omega)]; exact hR
    · rw [pp 10 (by omega) (by omega) (by omega) (by omega), pp 11 (by omega) (by omega) (by omega) (by omega), pp 215 (by omega) (by omega) (by omega) (by omega), pp 216 (by omega) (by omega) (by omega) (by omega), pp 2 (by omega) (by omega) (by omega) (by omega), p207 2 (by omega)]; exact hG
    · rw [pp 12 (by omega) (by omega) (by omega) (by omega), pp 13 (by omega) (by omega) (by omega) (by omega), pp 14 (by omega) (by omega) (by omega) (by omega), pp 257 (by omega) (by omega) (by omega) (by omega), pp 258 (by omega) (by omega) (by omega) (by omega), pp 259 (by omega) (by omega) (by omega) (by omega), pp 2 (by omega) (by omega) (by omega) (by omega), p207 70 (by omega), p207 71 (by omega)]; exact hN
    · rw [pp 2 (by omega) (by omega) (by omega) (by omega), p207 0 (by omega)]; exact hX
    · rw [pc 32 (by decide) (by decide)]; exact hU.cg ca1 (fun i hi => by rw [m261 i hi, df 208 (by decide) (by omega)])
    · rw [pc 33 (by decide) (by decide)]; exact hB.cg ca2 (fun i hi => by rw [m262 i hi, df 209 (by decide) (by omega)])
    · rw [pc 34 (by decide) (by decide)]; exact hMo.cg ca3 (fun i hi => by rw [m263 i hi, df 210 (by decide) (by omega)])
    · rw [pc 35 (by decide) (by decide), pc 36 (by decide) (by decide), pc 37 (by decide) (by decide), pc 31 (by decide) (by decide), cs6, cs7, ms78, d207]; exact hS.cg ca4 ca5 ca6 (fun i hi => by rw [m264 i hi, df 211 (by decide) (by omega)]) (fun i hi => by rw [m265 i hi, df 212 (by decide) (by omega)]) (fun i hi => by rw [m266 i hi, df 213 (by decide) (by omega)])
    · rw [pc 38 (by decide) (by decide)]; exact hR.cg ca7 (fun i hi => by rw [m267 i hi, df 214 (by decide) (by omega)])
    · rw [pc 39 (by decide) (by decide), pc 40 (by decide) (by decide), pc 31 (by decide) (by decide), cs11, ms79, d207]; exact hG.cg ca8 ca9 (fun i hi => by rw [m268 i hi, df 215 (by decide) (by omega)]) (fun i hi => by rw [m269 i hi, df 216 (by decide) (by omega)])
    · rw [pc 41 (by decide) (by decide), pc 42 (by decide) (by decide), pc 43 (by decide) (by decide), pc 31 (by decide) (by decide), cs12, cs13, ms80, ms81, d207]; exact hN.cg ca10 ca11 ca12 (fun i hi => by rw [m270 i hi, df 257 (by decide) (by omega)]) (fun i hi => by rw [m271 i hi, df 258 (by decide) (by omega)]) (fun i hi => by rw [m272 i hi, df 259 (by decide) (by omega)])
    · rw [pc 31 (by decide) (by decide), cs17, ms77, d207]; exact hX
    · rw [pp 61 (by omega) (by omega) (by omega) (by omega), pp 217 (by omega) (by omega) (by omega) (by omega), pp 60 (by omega) (by omega) (by omega) (by omega), p207 13 (by omega)]; exact hT
    · rw [p0, pk_un (by decide)]
      rcases hE with h | ⟨h, he⟩
      · exact Or.inl h
      · exact Or.inr ⟨h, cg_eve hSW (pp 1 (by omega) (by omega) (by omega) (by omega)) (by rw [pp 2 (by omega) (by omega) (by omega) (by omega)]) (by rw [pp 2 (by omega) (by omega) (by omega) (by omega)]) (fun o a b => pp o (by omega) (by omega) (by omega) (by omega)) (fun o a b => pp o (by omega) (by omega) (by omega) (by omega)) (fun o a b => pp o (by omega) (by omega) (by omega) (by omega)) (fun o a b => pp o (by omega) (by omega) (by omega) (by omega)) he⟩
theorem op_undo (μ : ro_Mem) (hI : Inv μ) : ∃ r μ1 μ2, fn_X11_undo μ = some (r, μ1) ∧ fn_X12_undo μ1 = some (r, μ2) ∧ Inv μ2 := by
  rcases hI.2.1 with ⟨h1, h2⟩ | ⟨h1, h2, ⟨hU, hB, hMo, hS, hR, hG, hN, hX⟩⟩
  · exact ⟨0, μ, μ, by unfold fn_X11_undo; rw [if_pos h1], by unfold fn_X12_undo; rw [if_pos h2], hI⟩
  · obtain ⟨M, hM, hMf, ca1, ca2, ca3, ca4, ca5, ca6, cs6, cs7, ca7, ca8, ca9, cs11, cs12, cs13, ca10, ca11, ca12, cs17, crest⟩ := rt_copyC2 (μ := μ) (fun i hi => (hU i hi).2)
    obtain ⟨D, hD⟩ : ∃ D, D = ro_set M 0 7 1 := ⟨_, rfl⟩
    have dn : ∀ o, ¬ o = 0 → D o = M o := fun o h => by rw [hD, ro_set_ne _ _ _ h]
    have ds : D 0 = upd (μ 0) 7 1 := by rw [hD, ro_set_same, hMf 0 (by omega) (by omega) (by omega) (by omega) (by omega) (by omega) (by omega) (by omega) (by omega) (by omega) (by omega) (by omega) (by omega)]
    have df : ∀ o, ¬ o = 0 → ¬ (2 ≤ o ∧ o ≤ 14) → D o = μ o := fun o h h2 => by rw [dn o h, hMf o (by omega) (by omega) (by omega) (by omega) (by omega) (by omega) (by omega) (by omega) (by omega) (by omega) (by omega) (by omega) (by omega)]
    have d207 : D 207 = μ 207 := df 207 (by decide) (by omega)
    obtain ⟨P, hP, hPf, u0, u1, u2, u70, u71, m208, m209, m210, m211, m212, m213, m214, m215, m216, m257, m258, m259, mrest⟩ := rt_copyM2 (μ := D) (by rw [d207, h2]; decide) (fun i hi => by rw [df 261 (by decide) (by omega), (hU i hi).1]; exact (hU i hi).2)
    have pf : ∀ o, ¬ (207 ≤ o ∧ o ≤ 216) → ¬ (257 ≤ o ∧ o ≤ 259) → P o = D o := fun o h h2 => hPf o (by omega) (by omega) (by omega) (by omega) (by omega) (by omega) (by omega) (by omega) (by omega) (by omega) (by omega) (by omega) (by omega)
    have pp : ∀ o, ¬ o = 0 → ¬ (2 ≤ o ∧ o ≤ 14) → ¬ (207 ≤ o ∧ o ≤ 216) → ¬ (257 ≤ o ∧ o ≤ 259) → P o = μ o := fun o h1 h2 h3 h4 => by rw [pf o h3 h4, df o h1 h2]
    have p0 : P 0 = upd (μ 0) 7 1 := by rw [pf 0 (by omega) (by omega), ds]
    have pc : ∀ o, 2 ≤ o → o ≤ 14 → P o = M o := fun o h h2 => by rw [pf o (by omega) (by omega), dn o (by omega)]
    refine ⟨1, D, P, ?_, hP, ?_⟩
    · unfold fn_X11_undo
      rw [if_neg (by rw [h1]; decide), hM, Option.bind_some, ← hD]
      rfl
    · refine hI.house ⟨?_, ?_, ?_, ?_, ?_, ?_, ?_, ?_⟩ (by rw [p0, pk_us]) (fun k hk => by rw [p0, pk_un hk]) (fun o h => pp o (by omega) (by omega) (by omega) (by omega)) (fun k h => by rw [mrest k (by omega) (by omega) (by omega) (by omega) (by omega), d207])
      · rw [pc 3 (by decide) (by decide)]; exact hU.cg ca1 (fun i hi => by rw [m208 i hi, df 261 (by decide) (by omega)])
      · rw [pc 4 (by decide) (by decide)]; exact hB.cg ca2 (fun i hi => by rw [m209 i hi, df 262 (by decide) (by omega)])
      · rw [pc 5 (by decide) (by decide)]; exact hMo.cg ca3 (fun i hi => by rw [m210 i hi, df 263 (by decide) (by omega)])
      · rw [pc 6 (by decide) (by decide), pc 7 (by decide) (by decide), pc 8 (by decide) (by decide), pc 2 (by decide) (by decide), cs6, cs7, u1, d207]; exact hS.cg ca4 ca5 ca6 (fun i hi => by rw [m211 i hi, df 264 (by decide) (by omega)]) (fun i hi => by rw [m212 i hi, df 265 (by decide) (by omega)]) (fun i hi => by rw [m213 i hi, df 266 (by decide) (by omega)])
      · rw [pc 9 (by decide) (by decide)]; exact hR.cg ca7 (fun i hi => by rw [m214 i hi, df 267 (by decide) (by omega)])
      · rw [pc 10 (by decide) (by decide), pc 11 (by decide) (by decide), pc 2 (by decide) (by decide), cs11, u2, d207]; exact hG.cg ca8 ca9 (fun i hi => by rw [m215 i hi, df 268 (by decide) (by omega)]) (fun i hi => by rw [m216 i hi, df 269 (by decide) (by omega)])
      · rw [pc 12 (by decide) (by decide), pc 13 (by decide) (by decide), pc 14 (by decide) (by decide), pc 2 (by decide) (by decide), cs12, cs13, u70, u71, d207]; exact hN.cg ca10 ca11 ca12 (fun i hi => by rw [m257 i hi, df 270 (by decide) (by omega)]) (fun i hi => by rw [m258 i hi, df 271 (by decide) (by omega)]) (fun i hi => by rw [m259 i hi, df 272 (by decide) (by omega)])
      · rw [pc 2 (by decide) (by decide), cs17, u0, d207]; exact hX
