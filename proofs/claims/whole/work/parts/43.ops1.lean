-- ===== what a group of the invariant hangs on =====
theorem cg_kept {μ μ' : ro_Mem} (h : (μ 0 2 = 0 ∧ μ 207 76 = 0) ∨ (μ 0 2 = 1 ∧ μ 207 76 = 1 ∧ iv_kept μ)) (h0 : μ' 0 2 = μ 0 2) (h1 : ∀ o, 31 ≤ o → o ≤ 43 → μ' o = μ o) (h2 : ∀ o, 261 ≤ o → o ≤ 272 → μ' o = μ o) (h3 : ∀ k, 76 ≤ k → k ≤ 81 → μ' 207 k = μ 207 k) : (μ' 0 2 = 0 ∧ μ' 207 76 = 0) ∨ (μ' 0 2 = 1 ∧ μ' 207 76 = 1 ∧ iv_kept μ') := by
  unfold iv_kept at *
  rw [h0, h3 76 (by decide) (by decide), h1 31 (by decide) (by decide), h1 32 (by decide) (by decide), h1 33 (by decide) (by decide), h1 34 (by decide) (by decide), h1 35 (by decide) (by decide), h1 36 (by decide) (by decide), h1 37 (by decide) (by decide), h1 38 (by decide) (by decide), h1 39 (by decide) (by decide), h1 40 (by decide) (by decide), h1 41 (by decide) (by decide), h1 42 (by decide) (by decide), h1 43 (by decide) (by decide), h2 261 (by decide) (by decide), h2 262 (by decide) (by decide), h2 263 (by decide) (by decide), h2 264 (by decide) (by decide), h2 265 (by decide) (by decide), h2 266 (by decide) (by decide), h2 267 (by decide) (by decide), h2 268 (by decide) (by decide), h2 269 (by decide) (by decide), h2 270 (by decide) (by decide), h2 271 (by decide) (by decide), h2 272 (by decide) (by decide), h3 77 (by decide) (by decide), h3 78 (by decide) (by decide), h3 79 (by decide) (by decide), h3 80 (by decide) (by decide), h3 81 (by decide) (by decide)]
  exact h
theorem cg_SW {μ μ' : ro_Mem} (h : iv_SW μ) (h0 : μ' 0 3 = μ 0 3) (h1 : μ' 1 = μ 1) (h2 : μ' 50 = μ 50) : iv_SW μ' := by
  unfold iv_SW at *
  rw [h0, h1, h2]
  exact h
theorem cg_rf {μ : ro_Mem} (h : iv_SW μ) : (ro_rf μ 1 1 = 15 ∨ ro_rf μ 1 1 = 44) ∧ (ro_rf μ 1 2 = 21 ∨ ro_rf μ 1 2 = 51) := by
  obtain ⟨⟨s, hs, e1, -⟩, w, hw, e2, -⟩ := h
  have n1 : ro_rf μ 1 1 = s := by show (μ 1 1).toNatClampNeg = s; rw [e1, nI_clamp (by omega)]
  have n2 : ro_rf μ 1 2 = w := by show (μ 1 2).toNatClampNeg = w; rw [e2, nI_clamp (by omega)]
  rw [n1, n2]
  exact ⟨hs, hw⟩
theorem cg_sc {μ μ' : ro_Mem} (h : iv_SW μ) (h1 : μ' 1 = μ 1) (h2 : ∀ o, 15 ≤ o → o ≤ 20 → μ' o = μ o) (h3 : ∀ o, 44 ≤ o → o ≤ 49 → μ' o = μ o) : iv_sc μ' = iv_sc μ := by
  funext j
  have hr := (cg_rf h).1
  unfold iv_sc
  by_cases hj : j ≤ 5
  · rw [if_pos hj, if_pos hj]
    show μ' ((μ' 1 1).toNatClampNeg + j) = μ ((μ 1 1).toNatClampNeg + j)
    rw [h1]
    rcases hr with e | e
    · have e : (μ 1 1).toNatClampNeg = 15 := e
      rw [e]
      exact h2 _ (by omega) (by omega)
    · have e : (μ 1 1).toNatClampNeg = 44 := e
      rw [e]
      exact h3 _ (by omega) (by omega)
  · rw [if_neg hj, if_neg hj]
theorem cg_lw {μ μ' : ro_Mem} (h : iv_SW μ) (h1 : μ' 1 = μ 1) (h2 : ∀ o, 21 ≤ o → o ≤ 27 → μ' o = μ o) (h3 : ∀ o, 51 ≤ o → o ≤ 57 → μ' o = μ o) : iv_lw μ' = iv_lw μ := by
  funext j
  have hr := (cg_rf h).2
  unfold iv_lw
  by_cases hj : j ≤ 6
  · rw [if_pos hj, if_pos hj]
    show μ' ((μ' 1 2).toNatClampNeg + j) = μ ((μ 1 2).toNatClampNeg + j)
    rw [h1]
    rcases hr with e | e
    · have e : (μ 1 2).toNatClampNeg = 21 := e
      rw [e]
      exact h2 _ (by omega) (by omega)
    · have e : (μ 1 2).toNatClampNeg = 51 := e
      rw [e]
      exact h3 _ (by omega) (by omega)
  · rw [if_neg hj, if_neg hj]
theorem cg_mc {μ μ' : ro_Mem} (h2 : ∀ o, 218 ≤ o → o ≤ 222 → μ' o = μ o) : iv_mc μ' = iv_mc μ := by
  funext j
  unfold iv_mc
  by_cases hj : 1 ≤ j ∧ j ≤ 5
  · rw [if_pos hj, if_pos hj, h2 _ (by omega) (by omega)]
  · rw [if_neg hj, if_neg hj]
theorem cg_mw {μ μ' : ro_Mem} (h2 : ∀ o, 234 ≤ o → o ≤ 238 → μ' o = μ o) : iv_mw μ' = iv_mw μ := by
  funext j
  unfold iv_mw
  rw [h2 234 (by decide) (by decide), h2 235 (by decide) (by decide), h2 236 (by decide) (by decide), h2 237 (by decide) (by decide), h2 238 (by decide) (by decide)]
/-- all but the house as it is now, the kept one's flags, the tape and the evening -/
theorem cg_CW {μ μ' : ro_Mem} (hSW : iv_SW μ) (hC : iv_C (iv_sc μ) (iv_mc μ) (μ 207 18) (μ 207 19) (μ 207 20)) (hW : iv_W (iv_lw μ) (iv_mw μ) (μ 207 38)) (h1 : μ' 1 = μ 1) (h2 : ∀ o, 15 ≤ o → o ≤ 27 → μ' o = μ o) (h3 : ∀ o, 44 ≤ o → o ≤ 57 → μ' o = μ o) (h4 : ∀ o, 218 ≤ o → o ≤ 222 → μ' o = μ o) (h5 : ∀ o, 234 ≤ o → o ≤ 238 → μ' o = μ o) (h6 : ∀ k, 18 ≤ k → k ≤ 38 → μ' 207 k = μ 207 k) : iv_C (iv_sc μ') (iv_mc μ') (μ' 207 18) (μ' 207 19) (μ' 207 20) ∧ iv_W (iv_lw μ') (iv_mw μ') (μ' 207 38) := by
  rw [cg_sc hSW h1 (fun o a b => h2 o (by omega) (by omega)) (fun o a b => h3 o (by omega) (by omega)), cg_lw hSW h1 (fun o a b => h2 o (by omega) (by omega)) (fun o a b => h3 o (by omega) (by omega)), cg_mc h4, cg_mw h5, h6 18 (by decide) (by decide), h6 19 (by decide) (by decide), h6 20 (by decide) (by decide), h6 38 (by decide) (by decide)]
  exact ⟨hC, hW⟩
theorem iv_U.put {c m : Nat → Int32} (h : iv_U c m) {s : Nat} {t : Int32} (ht : t = 0 ∨ t = 1) : iv_U (upd c s t) (upd m s t) := by
  intro i hi
  by_cases e : i = s
  · simp [upd, e, ht]
  · simpa [upd, e] using h i hi
theorem iv_B.put {c m : Nat → Int32} (h : iv_B c m) {s n : Nat} (hn : n ≤ 99) : iv_B (upd c s (nI n)) (upd m s (nI n)) := by
  intro i hi
  by_cases e : i = s
  · simp only [upd, e, if_true]
    exact ⟨trivial, n, hn, rfl⟩
  · simpa [upd, e] using h i hi
theorem iv_R.put {c m : Nat → Int32} (h : iv_R c m) {s n : Nat} (hn : n ≤ 9) : iv_R (upd c s (nI n)) (upd m s (nI n)) := by
  intro i hi
  by_cases e : i = s
  · simp only [upd, e, if_true]
    exact ⟨trivial, n, hn, rfl⟩
  · simpa [upd, e] using h i hi
theorem rt_nar {t : Int32} (h : t = 0 ∨ t = 1) : vp_nar .boolean t = t := by rcases h with rfl | rfl <;> rfl
theorem rt_le99 {d : Int32} (h0 : ¬ d < 0) {m : Nat} (hm : m < 2 ^ 31) (h : d ≤ nI m) : ∃ n, n ≤ m ∧ d = nI n := by
  obtain ⟨j, hj, rfl⟩ := nI_of h0
  exact ⟨j, (nI_leI hj hm).mp h, rfl⟩
/-- a call that changes the house as it is now, and makes the evening stale -/
theorem Inv.house {μ M : ro_Mem} (hI : Inv μ) (hn : iv_now M) (h7 : M 0 7 = 1) (h0 : ∀ k, ¬ k = 7 → M 0 k = μ 0 k) (hf : ∀ o, ¬ (o = 0 ∨ (2 ≤ o ∧ o ≤ 14) ∨ (207 ≤ o ∧ o ≤ 216) ∨ (257 ≤ o ∧ o ≤ 259)) → M o = μ o) (hs : ∀ k, ¬ (k = 0 ∨ k = 1 ∨ k = 2 ∨ k = 70 ∨ k = 71) → M 207 k = μ 207 k) : Inv M := by
  obtain ⟨-, hK, hT, hSW, hC, hW, hE, hQ⟩ := hI
  obtain ⟨hC', hW'⟩ := cg_CW (μ' := M) hSW hC hW (hf 1 (by omega)) (fun o a b => hf o (by omega)) (fun o a b => hf o (by omega)) (fun o a b => hf o (by omega)) (fun o a b => hf o (by omega)) (fun k a b => hs k (by omega))
  refine ⟨hn, cg_kept hK (h0 2 (by decide)) (fun o a b => hf o (by omega)) (fun o a b => hf o (by omega)) (fun k a b => hs k (by omega)), ?_, cg_SW hSW (h0 3 (by decide)) (hf 1 (by omega)) (hf 50 (by omega)), hC', hW', Or.inl h7, by rw [hs 52 (by omega)]; exact hQ⟩
  rw [hf 61 (by omega), hf 217 (by omega), hf 60 (by omega), hs 13 (by omega)]
  exact hT
theorem op_seat (a b t d : Int32) (μ : ro_Mem) (ht : t = 0 ∨ t = 1) (hI : Inv μ) : ∃ r μ1 μ2, fn_X11_seat a b t d μ = some (r, μ1) ∧ fn_X12_seat a b t d μ1 = some (r, μ2) ∧ Inv μ2 := by
  by_cases hp : (a < 0 ∨ (8 : Int32) ≤ a) ∨ (b < 0 ∨ (12 : Int32) ≤ b)
  · refine ⟨0, μ, μ, ?_, ?_, hI⟩
    · simp [fn_X11_seat, rt_seatNumber_no hp]
    · simp [fn_X12_seat, rt_isPlace_no hp]
  · have ha : ∃ r, r < 8 ∧ a = nI r := by
      rcases rt_ix a 8 (by decide) with h | h
      · exact absurd (Or.inl h) hp
      · exact h
    have hb : ∃ p, p < 12 ∧ b = nI p := by
      rcases rt_ix b 12 (by decide) with h | h
      · exact absurd (Or.inr h) hp
      · exact h
    obtain ⟨r, hr, rfl⟩ := ha
    obtain ⟨p, hpp, rfl⟩ := hb
    have hne : ¬ nI (12 * r + p) = -1 := by
      intro e
      have := congrArg Int32.toInt e
      rw [nI_toInt (by omega)] at this
      have h1 : (-1 : Int32).toInt = -1 := by decide
      rw [h1] at this
      omega
    have hs : (12 * nI r + nI p) = nI (12 * r + p) := by rw [fa_lit, pk_mul, nI_add]
    have hlt : 12 * r + p < 96 := by omega
    obtain ⟨s, hse⟩ : ∃ s, s = 12 * r + p := ⟨_, rfl⟩
    rw [← hse] at hne hs hlt
    have hsn := rt_seatNumber hr hpp
    rw [← hse] at hsn
    have hin : ro_in (nI s) 96 := rt_in (by omega) (by decide)
    by_cases hd : d < 0
    · refine ⟨0, μ, μ, ?_, ?_, hI⟩
      · simp [fn_X11_seat, hsn, hne, hd]
      · simp [fn_X12_seat, rt_isPlace hr hpp, rt_inn, hd]
    · by_cases hd2 : d ≤ 99
      · obtain ⟨n, hn, rfl⟩ := rt_le99 hd (m := 99) (by decide) hd2
        have h99 : ¬ (99 : Int32) < nI n := Int32.not_lt.mpr hd2
        have hcl : (nI s).toNatClampNeg = s := nI_clamp (by omega)
        refine ⟨1, ro_set (ro_set (ro_set μ 3 s t) 4 s (nI n)) 0 7 1, ro_set (ro_set (ro_set (ro_set (ro_set μ 3 s t) 4 s (nI n)) 0 7 1) 208 s t) 209 s (nI n), ?_, ?_, ?_⟩
        · simp only [fn_X11_seat, hsn, Option.bind_some, if_neg hne, if_neg hd, if_pos hd2, if_pos hin, ro_lt, rt_nar ht, hcl]
        · simp only [fn_X12_seat, rt_isPlace hr hpp, rt_inn, Option.bind_some, hs, if_pos hin, ro_lt, rt_nar ht, hcl, if_neg (show ¬ (nI n < 0 ∨ (99 : Int32) < nI n) by simp [hd, h99]), if_neg (show ¬ (1 : Int32) = 0 by decide)]
        · have hof : ∀ o, (¬ o = 0 ∧ ¬ o = 3 ∧ ¬ o = 4 ∧ ¬ o = 208 ∧ ¬ o = 209) → ro_set (ro_set (ro_set (ro_set (ro_set μ 3 s t) 4 s (nI n)) 0 7 1) 208 s t) 209 s (nI n) o = μ o := fun o h => by
            rw [ro_set_ne _ _ _ h.2.2.2.2, ro_set_ne _ _ _ h.2.2.2.1, ro_set_ne _ _ _ h.1, ro_set_ne _ _ _ h.2.2.1, ro_set_ne _ _ _ h.2.1]
          generalize hM : ro_set (ro_set (ro_set (ro_set (ro_set μ 3 s t) 4 s (nI n)) 0 7 1) 208 s t) 209 s (nI n) = M at hof
          obtain ⟨hU, hB, hMo, hS, hR, hG, hN, hX⟩ := hI.1
          have e3 : M 3 = upd (μ 3) s t := by rw [← hM]; simp [ro_set]
          have e4 : M 4 = upd (μ 4) s (nI n) := by rw [← hM]; simp [ro_set]
          have e208 : M 208 = upd (μ 208) s t := by rw [← hM]; simp [ro_set]
          have e209 : M 209 = upd (μ 209) s (nI n) := by rw [← hM]; simp [ro_set]
          refine hI.house ⟨?_, ?_, ?_, ?_, ?_, ?_, ?_, ?_⟩ ?_ ?_ (fun o h => hof o (by omega)) (fun k _ => by rw [hof 207 (by omega)])
          · rw [e3, e208]; exact hU.put ht
          · rw [e4, e209]; exact hB.put hn
          · rw [hof 5 (by omega), hof 210 (by omega)]; exact hMo
          · rw [hof 6 (by omega), hof 7 (by omega), hof 8 (by omega), hof 211 (by omega), hof 212 (by omega), hof 213 (by omega), hof 2 (by omega), hof 207 (by omega)]; exact hS
          · rw [hof 9 (by omega), hof 214 (by omega)]; exact hR
          · rw [hof 10 (by omega), hof 11 (by omega), hof 215 (by omega), hof 216 (by omega), hof 2 (by omega), hof 207 (by omega)]; exact hG
          · rw [hof 12 (by omega), hof 13 (by omega), hof 14 (by omega), hof 257 (by omega), hof 258 (by omega), hof 259 (by omega), hof 2 (by omega), hof 207 (by omega)]; exact hN
          · rw [hof 2 (by omega), hof 207 (by omega)]; exact hX
          · rw [← hM]; simp [ro_set, upd]
          · intro k hk; rw [← hM]; simp [ro_set, upd, hk]
      · refine ⟨0, μ, μ, ?_, ?_, hI⟩
        · simp [fn_X11_seat, hsn, hne, hd, hd2]
        · have h99 : (99 : Int32) < d := Int32.not_le.mp hd2
          simp [fn_X12_seat, rt_isPlace hr hpp, rt_inn, hd, h99]
