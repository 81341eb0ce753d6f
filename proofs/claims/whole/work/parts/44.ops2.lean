theorem cg_eve {μ M : ro_Mem} (hSW : iv_SW μ) (h1 : M 1 = μ 1) (h26 : M 2 6 = μ 2 6) (h27 : M 2 7 = μ 2 7) (h2 : ∀ o, 3 ≤ o → o ≤ 9 → M o = μ o) (h3 : ∀ o, 15 ≤ o → o ≤ 27 → M o = μ o) (h4 : ∀ o, 44 ≤ o → o ≤ 57 → M o = μ o) (h5 : ∀ o, 63 ≤ o → o ≤ 67 → M o = μ o) (h : iv_eve μ) : iv_eve M := by
  unfold iv_eve at *
  rw [cg_sc hSW h1 (fun o a b => h3 o (by omega) (by omega)) (fun o a b => h4 o (by omega) (by omega)), cg_lw hSW h1 (fun o a b => h3 o (by omega) (by omega)) (fun o a b => h4 o (by omega) (by omega)), h26, h27, h2 3 (by decide) (by decide), h2 4 (by decide) (by decide), h2 5 (by decide) (by decide), h2 6 (by decide) (by decide), h2 7 (by decide) (by decide), h2 8 (by decide) (by decide), h2 9 (by decide) (by decide), h5 63 (by decide) (by decide), h5 64 (by decide) (by decide), h5 65 (by decide) (by decide), h5 66 (by decide) (by decide), h5 67 (by decide) (by decide)]
  exact h
/-- a call on which no evening hangs -/
theorem Inv.calm {μ M : ro_Mem} (hI : Inv μ) (hn : iv_now M) (hT : iv_T (M 61) (M 217) (M 60 1) (M 207 13)) (h0 : M 0 = μ 0) (h26 : M 2 6 = μ 2 6) (h27 : M 2 7 = μ 2 7) (hf : ∀ o, ¬ (o = 2 ∨ (10 ≤ o ∧ o ≤ 14) ∨ o = 60 ∨ o = 61 ∨ o = 207 ∨ o = 215 ∨ o = 216 ∨ o = 217 ∨ (257 ≤ o ∧ o ≤ 259)) → M o = μ o) (hs : ∀ k, ¬ (k = 0 ∨ k = 2 ∨ k = 13 ∨ k = 70 ∨ k = 71) → M 207 k = μ 207 k) : Inv M := by
  obtain ⟨-, hK, -, hSW, hC, hW, hE, hQ⟩ := hI
  obtain ⟨hC', hW'⟩ := cg_CW (μ' := M) hSW hC hW (hf 1 (by omega)) (fun o a b => hf o (by omega)) (fun o a b => hf o (by omega)) (fun o a b => hf o (by omega)) (fun o a b => hf o (by omega)) (fun k a b => hs k (by omega))
  refine ⟨hn, cg_kept hK (by rw [h0]) (fun o a b => hf o (by omega)) (fun o a b => hf o (by omega)) (fun k a b => hs k (by omega)), hT, cg_SW hSW (by rw [h0]) (hf 1 (by omega)) (hf 50 (by omega)), hC', hW', ?_, by rw [hs 52 (by omega)]; exact hQ⟩
  rw [h0]
  rcases hE with h | ⟨h, he⟩
  · exact Or.inl h
  · exact Or.inr ⟨h, cg_eve hSW (hf 1 (by omega)) h26 h27 (fun o a b => hf o (by omega)) (fun o a b => hf o (by omega)) (fun o a b => hf o (by omega)) (fun o a b => hf o (by omega)) he⟩
theorem rt_actN {v : Int32} (h : v < 0 ∨ (4 : Int32) ≤ v) : fn_X11_isAct v = some 0 ∧ fn_X12_isAct v = some 0 := by rw [rt_act.1, rt_act.2, if_pos h]; exact ⟨rfl, rfl⟩
theorem rt_actY {k : Nat} (h : k < 4) : fn_X11_isAct (nI k) = some 1 ∧ fn_X12_isAct (nI k) = some 1 := by
  have h1 : ¬ nI k < 0 := nI_pos (by omega)
  have h2 : ¬ (4 : Int32) ≤ nI k := nI_ge h (by decide)
  rw [rt_act.1, rt_act.2, if_neg (by simp [h1, h2])]
  exact ⟨rfl, rfl⟩
theorem rt_innY {v a b : Int32} (h1 : ¬ v < a) (h2 : v ≤ b) : fn_X12_in v a b = some 1 := by rw [rt_inn, if_neg (by simp [h1, Int32.not_lt.mpr h2])]
theorem rt_innN {v a b : Int32} (h : v < a ∨ ¬ v ≤ b) : fn_X12_in v a b = some 0 := by
  rw [rt_inn, if_pos]
  rcases h with h | h
  · exact Or.inl h
  · exact Or.inr (Int32.not_le.mp h)
theorem rt_10 : ¬ (1 : Int32) = 0 := by decide
theorem op_rain (a d : Int32) (μ : ro_Mem) (hI : Inv μ) : ∃ r μ1 μ2, fn_X11_rain a d μ = some (r, μ1) ∧ fn_X12_rain a d μ1 = some (r, μ2) ∧ Inv μ2 := by
  rcases rt_ix a 4 (by decide) with h | ⟨k, hk, rfl⟩
  · refine ⟨0, μ, μ, ?_, ?_, hI⟩
    · simp only [fn_X11_rain, (rt_actN h).1, Option.bind_some, if_true]
    · simp only [fn_X12_rain, (rt_actN h).2, Option.bind_some, if_true]
  · by_cases hd : d < 0
    · refine ⟨0, μ, μ, ?_, ?_, hI⟩
      · simp only [fn_X11_rain, (rt_actY hk).1, Option.bind_some, if_neg rt_10, if_pos hd]
      · simp only [fn_X12_rain, (rt_actY hk).2, rt_innN (Or.inl hd), Option.bind_some, if_neg rt_10, if_true]
    · by_cases hd2 : d ≤ 9
      · obtain ⟨n, hn, rfl⟩ := rt_le99 hd (m := 9) (by decide) hd2
        have hin : ro_in (nI k) 4 := rt_in hk (by decide)
        have hcl : (nI k).toNatClampNeg = k := nI_clamp (by omega)
        refine ⟨1, ro_set (ro_set μ 9 k (nI n)) 0 7 1, ro_set (ro_set (ro_set μ 9 k (nI n)) 0 7 1) 214 k (nI n), ?_, ?_, ?_⟩
        · simp only [fn_X11_rain, (rt_actY hk).1, Option.bind_some, if_neg rt_10, if_neg hd, if_pos hd2, if_pos hin, ro_lt, hcl]
        · simp only [fn_X12_rain, (rt_actY hk).2, rt_innY hd hd2, Option.bind_some, if_neg rt_10, if_pos hin, ro_lt, hcl]
        · have hof : ∀ o, (¬ o = 0 ∧ ¬ o = 9 ∧ ¬ o = 214) → ro_set (ro_set (ro_set μ 9 k (nI n)) 0 7 1) 214 k (nI n) o = μ o := fun o h => by
            rw [ro_set_ne _ _ _ h.2.2, ro_set_ne _ _ _ h.1, ro_set_ne _ _ _ h.2.1]
          generalize hM : ro_set (ro_set (ro_set μ 9 k (nI n)) 0 7 1) 214 k (nI n) = M at hof
          obtain ⟨hU, hB, hMo, hS, hR, hG, hN, hX⟩ := hI.1
          have e9 : M 9 = upd (μ 9) k (nI n) := by rw [← hM]; simp [ro_set]
          have e214 : M 214 = upd (μ 214) k (nI n) := by rw [← hM]; simp [ro_set]
          refine hI.house ⟨?_, ?_, ?_, ?_, ?_, ?_, ?_, ?_⟩ ?_ ?_ (fun o h => hof o (by omega)) (fun k _ => by rw [hof 207 (by omega)])
          · rw [hof 3 (by omega), hof 208 (by omega)]; exact hU
          · rw [hof 4 (by omega), hof 209 (by omega)]; exact hB
          · rw [hof 5 (by omega), hof 210 (by omega)]; exact hMo
          · rw [hof 6 (by omega), hof 7 (by omega), hof 8 (by omega), hof 211 (by omega), hof 212 (by omega), hof 213 (by omega), hof 2 (by omega), hof 207 (by omega)]; exact hS
          · rw [e9, e214]; exact hR.put hn
          · rw [hof 10 (by omega), hof 11 (by omega), hof 215 (by omega), hof 216 (by omega), hof 2 (by omega), hof 207 (by omega)]; exact hG
          · rw [hof 12 (by omega), hof 13 (by omega), hof 14 (by omega), hof 257 (by omega), hof 258 (by omega), hof 259 (by omega), hof 2 (by omega), hof 207 (by omega)]; exact hN
          · rw [hof 2 (by omega), hof 207 (by omega)]; exact hX
          · rw [← hM]; simp [ro_set, upd]
          · intro k hk; rw [← hM]; simp [ro_set, upd, hk]
      · refine ⟨0, μ, μ, ?_, ?_, hI⟩
        · simp only [fn_X11_rain, (rt_actY hk).1, Option.bind_some, if_neg rt_10, if_neg hd, if_neg hd2]
        · simp only [fn_X12_rain, (rt_actY hk).2, rt_innN (Or.inr hd2), Option.bind_some, if_neg rt_10, if_true]
theorem op_seed (a : Int32) (μ : ro_Mem) (hI : Inv μ) : ∃ r μ1 μ2, fn_X11_seed a μ = some (r, μ1) ∧ fn_X12_seed a μ1 = some (r, μ2) ∧ Inv μ2 := by
  by_cases hd : a < 0
  · refine ⟨0, μ, μ, ?_, ?_, hI⟩
    · simp only [fn_X11_seed, if_pos hd]
    · simp only [fn_X12_seed, rt_innN (Or.inl hd), Option.bind_some, if_true]
  · by_cases hd2 : a ≤ 65535
    · obtain ⟨n, hn, rfl⟩ := rt_le99 hd (m := 65535) (by decide) hd2
      refine ⟨1, ro_set μ 2 17 (nI n), ro_set (ro_set μ 2 17 (nI n)) 207 0 (nI n), ?_, ?_, ?_⟩
      · simp only [fn_X11_seed, if_neg hd, if_pos hd2, ro_lt]
      · simp only [fn_X12_seed, rt_innY hd hd2, Option.bind_some, if_neg rt_10, ro_lt]
      · have hof : ∀ o, (¬ o = 2 ∧ ¬ o = 207) → ro_set (ro_set μ 2 17 (nI n)) 207 0 (nI n) o = μ o := fun o h => by
          rw [ro_set_ne _ _ _ h.2, ro_set_ne _ _ _ h.1]
        generalize hM : ro_set (ro_set μ 2 17 (nI n)) 207 0 (nI n) = M at hof
        obtain ⟨hU, hB, hMo, hS, hR, hG, hN, hX⟩ := hI.1
        have e2 : ∀ k, ¬ k = 17 → M 2 k = μ 2 k := fun k hk => by rw [← hM]; simp [ro_set, upd, hk]
        have e207 : ∀ k, ¬ k = 0 → M 207 k = μ 207 k := fun k hk => by rw [← hM]; simp [ro_set, upd, hk]
        have f2 : M 2 17 = nI n := by rw [← hM]; simp [ro_set, upd]
        have f207 : M 207 0 = nI n := by rw [← hM]; simp [ro_set, upd]
        refine hI.calm ⟨?_, ?_, ?_, ?_, ?_, ?_, ?_, ?_⟩ ?_ (hof 0 (by omega)) (e2 6 (by decide)) (e2 7 (by decide)) (fun o h => hof o (by omega)) (fun k h => e207 k (by omega))
        · rw [hof 3 (by omega), hof 208 (by omega)]; exact hU
        · rw [hof 4 (by omega), hof 209 (by omega)]; exact hB
        · rw [hof 5 (by omega), hof 210 (by omega)]; exact hMo
        · rw [hof 6 (by omega), hof 7 (by omega), hof 8 (by omega), hof 211 (by omega), hof 212 (by omega), hof 213 (by omega), e2 6 (by decide), e2 7 (by decide), e207 1 (by decide)]; exact hS
        · rw [hof 9 (by omega), hof 214 (by omega)]; exact hR
        · rw [hof 10 (by omega), hof 11 (by omega), hof 215 (by omega), hof 216 (by omega), e2 11 (by decide), e207 2 (by decide)]; exact hG
        · rw [hof 12 (by omega), hof 13 (by omega), hof 14 (by omega), hof 257 (by omega), hof 258 (by omega), hof 259 (by omega), e2 12 (by decide), e2 13 (by decide), e207 70 (by decide), e207 71 (by decide)]; exact hN
        · rw [f2, f207]; exact ⟨rfl, n, by omega, rfl⟩
        · rw [hof 61 (by omega), hof 217 (by omega), hof 60 (by omega), e207 13 (by decide)]; exact hI.2.2.1
    · refine ⟨0, μ, μ, ?_, ?_, hI⟩
      · simp only [fn_X11_seed, if_neg hd, if_neg hd2]
      · simp only [fn_X12_seed, rt_innN (Or.inr hd2), Option.bind_some, if_true]
