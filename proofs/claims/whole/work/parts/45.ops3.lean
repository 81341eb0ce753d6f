theorem rt_m1 {n : Nat} (h : n < 2 ^ 31) : ¬ nI n = -1 := by
  intro e
  have := congrArg Int32.toInt e
  rw [nI_toInt h] at this
  have h1 : (-1 : Int32).toInt = -1 := by decide
  rw [h1] at this
  omega
theorem iv_S.put {ss lo hi mss mlo mhi : Nat → Int32} {told nailed mnailed : Int32} (h : iv_S ss lo hi mss mlo mhi told nailed mnailed) {k n : Nat} (hk : k < 16) (hn : n < 96) (x y : Int32) : iv_S (upd ss k (nI n)) (upd lo k x) (upd hi k y) (upd mss k (nI n)) (upd mlo k x) (upd mhi k y) (told ||| ((1 : Int32) <<< (nI k &&& 31))) (nailed &&& (((1 : Int32) <<< (nI k &&& 31)) ^^^ (-1))) (mnailed &&& (((1 : Int32) <<< (nI k &&& 31)) ^^^ (-1))) := by
  obtain ⟨h1, h2, h3, h4⟩ := h
  refine ⟨by rw [h1], ?_, ?_, ?_⟩
  · intro j hj
    by_cases h32 : j < 32
    · rw [rt_or (by omega) h32, h2 j hj, decide_eq_false (by omega)]
      rfl
    · exact b_big (by omega)
  · intro j hj
    by_cases h32 : j < 32
    · rw [rt_clr (by omega) h32] at hj
      rw [rt_or (by omega) h32]
      have : bt nailed j = true := by
        cases hb : bt nailed j
        · rw [hb] at hj; simp at hj
        · rfl
      rw [h3 j this]
      rfl
    · rw [b_big (by omega)] at hj; cases hj
  · intro j hj
    obtain ⟨g1, g2, g3⟩ := h4 j hj
    rw [rt_or (by omega) (by omega)]
    by_cases e : j = k
    · subst e
      simp only [upd, if_true]
      exact ⟨⟨n, hn, rfl⟩, fun _ => ⟨trivial, trivial, trivial⟩, fun q => by simp at q⟩
    · simp only [upd, e, if_false, decide_false, Bool.or_false]
      exact ⟨g1, g2, g3⟩
theorem iv_S.nail {ss lo hi mss mlo mhi : Nat → Int32} {told nailed mnailed : Int32} (h : iv_S ss lo hi mss mlo mhi told nailed mnailed) {k : Nat} (hk : k < 16) (ht : bt told k = true) : iv_S ss lo hi mss mlo mhi told (nailed ^^^ ((1 : Int32) <<< (nI k &&& 31))) (mnailed ^^^ ((1 : Int32) <<< (nI k &&& 31))) := by
  obtain ⟨h1, h2, h3, h4⟩ := h
  refine ⟨by rw [h1], h2, ?_, h4⟩
  intro j hj
  by_cases h32 : j < 32
  · by_cases e : j = k
    · subst e; exact ht
    · rw [rt_xor (by omega) h32, decide_eq_false e] at hj
      exact h3 j (by simpa using hj)
  · rw [b_big (by omega)] at hj; cases hj
theorem rt_slateC {μ : ro_Mem} {k : Nat} (hk : k < 16) : fn_X1_isSlate 2 (nI k) μ = some (if bt (μ 2 6) k = true then 1 else 0) := by
  have h1 : ¬ nI k < 0 := nI_pos (by omega)
  have h2 : ¬ (16 : Int32) ≤ nI k := nI_ge hk (by decide)
  simp only [fn_X1_isSlate, if_neg h1, if_neg h2]
  by_cases hb : bt (μ 2 6) k = true
  · rw [if_pos ((rt_bit (by omega)).mpr hb), if_pos hb]
  · rw [if_neg (fun q => hb ((rt_bit (by omega)).mp q)), if_neg hb]
theorem rt_slateM {μ : ro_Mem} {k : Nat} (hk : k < 16) : fn_X12_isSlate (nI k) μ = some (if μ 211 k = -1 then 0 else 1) := by
  have h1 : ¬ nI k < 0 := nI_pos (by omega)
  have h2 : ¬ (16 : Int32) ≤ nI k := nI_ge hk (by decide)
  simp only [fn_X12_isSlate, if_neg h1, if_neg h2, if_pos (show ro_in (nI k) 16 from rt_in hk (by decide)), nI_clamp (show k < 2 ^ 31 by omega)]
  by_cases h : μ 211 k = -1
  · rw [if_pos h, if_pos h]
  · rw [if_neg h, if_neg h]
theorem rt_slateN {μ : ro_Mem} {v : Int32} (h : v < 0 ∨ (16 : Int32) ≤ v) : fn_X1_isSlate 2 v μ = some 0 ∧ fn_X12_isSlate v μ = some 0 := by
  simp only [fn_X1_isSlate, fn_X12_isSlate]
  by_cases h1 : v < 0
  · simp only [if_pos h1]; exact ⟨trivial, trivial⟩
  · have h2 : (16 : Int32) ≤ v := h.resolve_left h1
    simp only [if_neg h1, if_pos h2]; exact ⟨trivial, trivial⟩
theorem iv_S.told {ss lo hi mss mlo mhi : Nat → Int32} {told nailed mnailed : Int32} (h : iv_S ss lo hi mss mlo mhi told nailed mnailed) {k : Nat} (hk : k < 16) : (if bt told k = true then (1 : Int32) else 0) = (if mss k = -1 then 0 else 1) := by
  obtain ⟨⟨n, hn, e⟩, g2, g3⟩ := h.2.2.2 k hk
  cases hb : bt told k
  · rw [if_neg (by simp), if_pos (g3 hb)]
  · rw [if_pos rfl, if_neg]
    rw [(g2 hb).1, e]
    exact rt_m1 (by omega)
theorem op_nail (a t : Int32) (μ : ro_Mem) (ht : t = 0 ∨ t = 1) (hI : Inv μ) : ∃ r μ1 μ2, fn_X11_nail a t μ = some (r, μ1) ∧ fn_X12_nail a t μ1 = some (r, μ2) ∧ Inv μ2 := by
  obtain ⟨hU, hB, hMo, hS, hR, hG, hN, hX⟩ := hI.1
  rcases rt_ix a 16 (by decide) with h | ⟨k, hk, rfl⟩
  · refine ⟨0, μ, μ, ?_, ?_, hI⟩
    · simp only [fn_X11_nail, (rt_slateN h).1, Option.bind_some, if_true]
    · simp only [fn_X12_nail, (rt_slateN h).2, Option.bind_some, if_true]
  · have hto := hS.told hk
    cases hb : bt (μ 2 6) k
    · rw [hb] at hto
      refine ⟨0, μ, μ, ?_, ?_, hI⟩
      · simp only [fn_X11_nail, rt_slateC hk, hb, Option.bind_some]; rfl
      · simp only [fn_X12_nail, rt_slateM hk, ← hto, Option.bind_some]; rfl
    · rw [hb, if_pos rfl] at hto
      have hna : μ 207 1 = μ 2 7 := hS.1
      obtain ⟨q, hq⟩ : ∃ q, q = (if ((μ 2 7 >>> (nI k &&& 31)) &&& 1) = 1 then (1 : Int32) else 0) := ⟨_, rfl⟩
      have hq1 : fn_X1_isNailed 2 (nI k) μ = some q := by
        rw [hq]; simp only [fn_X1_isNailed]
        by_cases c : ((μ 2 7 >>> (nI k &&& 31)) &&& 1) = 1
        · rw [if_pos c, if_pos c]
        · rw [if_neg c, if_neg c]
      have hq2 : fn_X12_has (μ 2 7) (nI k) = some q := by
        rw [hq]; simp only [fn_X12_has]
        by_cases c : ((μ 2 7 >>> (nI k &&& 31)) &&& 1) = 1
        · rw [if_pos c, if_pos c]
        · rw [if_neg c, if_neg c]
      by_cases c : q = t
      · refine ⟨0, μ, μ, ?_, ?_, hI⟩
        · simp only [fn_X11_nail, rt_slateC hk, hb, if_true, Option.bind_some, if_neg rt_10, hq1, if_pos c]
        · simp only [fn_X12_nail, rt_slateM hk, ← hto, Option.bind_some, if_neg rt_10, hna, hq2, if_pos c]
      · obtain ⟨x, hx⟩ : ∃ x, x = (μ 2 7) ^^^ ((1 : Int32) <<< (nI k &&& 31)) := ⟨_, rfl⟩
        refine ⟨1, ro_set (ro_set μ 2 7 x) 0 7 1, ro_set (ro_set (ro_set μ 2 7 x) 0 7 1) 207 1 x, ?_, ?_, ?_⟩
        · simp only [fn_X11_nail, rt_slateC hk, hb, if_true, Option.bind_some, if_neg rt_10, hq1, if_neg c, ro_lt, hx]
        · have e211 : ro_set (ro_set μ 2 7 x) 0 7 1 211 = μ 211 := by simp [ro_set]
          have e207 : ro_set (ro_set μ 2 7 x) 0 7 1 207 = μ 207 := by simp [ro_set]
          simp only [fn_X12_nail, rt_slateM hk, e211, e207, ← hto, Option.bind_some, if_neg rt_10, hna, hq2, if_neg c, ro_lt, ← hx]
        · have hof : ∀ o, (¬ o = 0 ∧ ¬ o = 2 ∧ ¬ o = 207) → ro_set (ro_set (ro_set μ 2 7 x) 0 7 1) 207 1 x o = μ o := fun o h => by
            rw [ro_set_ne _ _ _ h.2.2, ro_set_ne _ _ _ h.1, ro_set_ne _ _ _ h.2.1]
          generalize hM : ro_set (ro_set (ro_set μ 2 7 x) 0 7 1) 207 1 x = M at hof
          have e2 : ∀ k, ¬ k = 7 → M 2 k = μ 2 k := fun k hk => by rw [← hM]; simp [ro_set, upd, hk]
          have e207 : ∀ k, ¬ k = 1 → M 207 k = μ 207 k := fun k hk => by rw [← hM]; simp [ro_set, upd, hk]
          have f2 : M 2 7 = x := by rw [← hM]; simp [ro_set, upd]
          have f207 : M 207 1 = x := by rw [← hM]; simp [ro_set, upd]
          refine hI.house ⟨?_, ?_, ?_, ?_, ?_, ?_, ?_, ?_⟩ ?_ ?_ (fun o h => hof o (by omega)) (fun k h => e207 k (by omega))
          · rw [hof 3 (by omega), hof 208 (by omega)]; exact hU
          · rw [hof 4 (by omega), hof 209 (by omega)]; exact hB
          · rw [hof 5 (by omega), hof 210 (by omega)]; exact hMo
          · rw [hof 6 (by omega), hof 7 (by omega), hof 8 (by omega), hof 211 (by omega), hof 212 (by omega), hof 213 (by omega), e2 6 (by decide), f2, f207, hx]
            have := hS.nail hk hb
            rw [hna] at this
            exact this
          · rw [hof 9 (by omega), hof 214 (by omega)]; exact hR
          · rw [hof 10 (by omega), hof 11 (by omega), hof 215 (by omega), hof 216 (by omega), e2 11 (by decide), e207 2 (by decide)]; exact hG
          · rw [hof 12 (by omega), hof 13 (by omega), hof 14 (by omega), hof 257 (by omega), hof 258 (by omega), hof 259 (by omega), e2 12 (by decide), e2 13 (by decide), e207 70 (by decide), e207 71 (by decide)]; exact hN
          · rw [e2 17 (by decide), e207 0 (by decide)]; exact hX
          · rw [← hM]; simp [ro_set, upd]
          · intro k hk; rw [← hM]; simp [ro_set, upd, hk]
theorem op_slate (a b d l u : Int32) (μ : ro_Mem) (hI : Inv μ) : ∃ r μ1 μ2, fn_X11_slate a b d l u μ = some (r, μ1) ∧ fn_X12_slate a b d l u μ1 = some (r, μ2) ∧ Inv μ2 := by
  obtain ⟨hU, hB, hMo, hS, hR, hG, hN, hX⟩ := hI.1
  have hsn : ∃ q, fn_X11_seatNumber b d = some q := by
    by_cases hp : (b < 0 ∨ (8 : Int32) ≤ b) ∨ (d < 0 ∨ (12 : Int32) ≤ d)
    · exact ⟨_, rt_seatNumber_no hp⟩
    · rcases rt_ix b 8 (by decide) with h | ⟨r, hr, rfl⟩
      · exact absurd (Or.inl h) hp
      · rcases rt_ix d 12 (by decide) with h | ⟨p, hpp, rfl⟩
        · exact absurd (Or.inr h) hp
        · exact ⟨_, rt_seatNumber hr hpp⟩
  rcases rt_ix a 16 (by decide) with h | ⟨k, hk, rfl⟩
  · obtain ⟨q, hq⟩ := hsn
    refine ⟨0, μ, μ, ?_, ?_, hI⟩
    · by_cases h1 : a < 0
      · simp only [fn_X11_slate, hq, Option.bind_some, if_pos h1]
      · simp only [fn_X11_slate, hq, Option.bind_some, if_neg h1, if_pos (show (16 : Int32) ≤ a from h.resolve_left h1)]
    · have : a < 0 ∨ ¬ a ≤ 15 := by
        rcases h with h | h
        · exact Or.inl h
        · right
          intro q
          rw [fa_le] at q
          have h : (16 : Int32) ≤ a := h
          rw [fa_le] at h
          have e1 : (16 : Int32).toInt = 16 := by decide
          have e2 : (15 : Int32).toInt = 15 := by decide
          omega
      simp only [fn_X12_slate, rt_innN this, Option.bind_some, if_true]
  · have k1 : ¬ nI k < 0 := nI_pos (by omega)
    have k2 : ¬ (16 : Int32) ≤ nI k := nI_ge hk (by decide)
    have k3 : nI k ≤ 15 := nI_le (b := 15) (by omega) (by decide)
    by_cases hp : (b < 0 ∨ (8 : Int32) ≤ b) ∨ (d < 0 ∨ (12 : Int32) ≤ d)
    · refine ⟨0, μ, μ, ?_, ?_, hI⟩
      · simp only [fn_X11_slate, rt_seatNumber_no hp, Option.bind_some, if_neg k1, if_neg k2, if_true]
      · simp only [fn_X12_slate, rt_innY k1 k3, rt_isPlace_no hp, Option.bind_some, if_neg rt_10, if_true]
    · obtain ⟨r, hr, rfl⟩ : ∃ r, r < 8 ∧ b = nI r := by
        rcases rt_ix b 8 (by decide) with h | h
        · exact absurd (Or.inl h) hp
        · exact h
      obtain ⟨p, hpp, rfl⟩ : ∃ p, p < 12 ∧ d = nI p := by
        rcases rt_ix d 12 (by decide) with h | h
        · exact absurd (Or.inr h) hp
        · exact h
      have hs : (12 * nI r + nI p) = nI (12 * r + p) := by rw [fa_lit, pk_mul, nI_add]
      have hsq := rt_seatNumber hr hpp
      have hlt : 12 * r + p < 96 := by omega
      obtain ⟨s, hse⟩ : ∃ s, s = 12 * r + p := ⟨_, rfl⟩
      rw [← hse] at hs hsq hlt
      have hne : ¬ nI s = -1 := rt_m1 (by omega)
      by_cases hl : l < 0
      · refine ⟨0, μ, μ, ?_, ?_, hI⟩
        · simp only [fn_X11_slate, hsq, Option.bind_some, if_neg k1, if_neg k2, if_neg hne, if_pos hl]
        · simp only [fn_X12_slate, rt_innY k1 k3, rt_isPlace hr hpp, rt_innN (Or.inl hl), Option.bind_some, if_neg rt_10, if_true]
      · by_cases hu : (48 : Int32) ≤ u
        · refine ⟨0, μ, μ, ?_, ?_, hI⟩
          · simp only [fn_X11_slate, hsq, Option.bind_some, if_neg k1, if_neg k2, if_neg hne, if_neg hl, if_pos hu]
          · have hu2 : ¬ u ≤ 47 := by
              intro q
              rw [fa_le] at q hu
              have e1 : (48 : Int32).toInt = 48 := by decide
              have e2 : (47 : Int32).toInt = 47 := by decide
              omega
            by_cases hl2 : l ≤ 47
            · simp only [fn_X12_slate, rt_innY k1 k3, rt_isPlace hr hpp, rt_innY hl hl2, rt_innN (Or.inr hu2), Option.bind_some, if_neg rt_10, if_true]
            · simp only [fn_X12_slate, rt_innY k1 k3, rt_isPlace hr hpp, rt_innN (Or.inr hl2), Option.bind_some, if_neg rt_10, if_true]
        · have hu2 : u ≤ 47 := by
            rw [fa_le] at hu ⊢
            have e1 : (48 : Int32).toInt = 48 := by decide
            have e2 : (47 : Int32).toInt = 47 := by decide
            omega
          by_cases hlu : l ≤ u
          · have hl2 : l ≤ 47 := Int32.le_trans hlu hu2
            have hnl : ¬ u < l := Int32.not_lt.mpr hlu
            have hin : ro_in (nI k) 16 := rt_in hk (by decide)
            have hcl : (nI k).toNatClampNeg = k := nI_clamp (by omega)
            obtain ⟨x, hx⟩ : ∃ x, x = (μ 2 6) ||| ((1 : Int32) <<< (nI k &&& 31)) := ⟨_, rfl⟩
            obtain ⟨y, hy⟩ : ∃ y, y = (μ 2 7) &&& (((1 : Int32) <<< (nI k &&& 31)) ^^^ (-1)) := ⟨_, rfl⟩
            have hna : μ 207 1 = μ 2 7 := hS.1
            refine ⟨1, ro_set (ro_set (ro_set (ro_set (ro_set (ro_set μ 6 k (nI s)) 7 k l) 8 k u) 2 6 x) 2 7 y) 0 7 1, ro_set (ro_set (ro_set (ro_set (ro_set (ro_set (ro_set (ro_set (ro_set (ro_set μ 6 k (nI s)) 7 k l) 8 k u) 2 6 x) 2 7 y) 0 7 1) 211 k (nI s)) 212 k l) 213 k u) 207 1 y, ?_, ?_, ?_⟩
            · have e1 : ro_set (ro_set (ro_set μ 6 k (nI s)) 7 k l) 8 k u 2 6 = μ 2 6 := by simp [ro_set]
              have e2 : ro_set (ro_set (ro_set (ro_set μ 6 k (nI s)) 7 k l) 8 k u) 2 6 x 2 7 = μ 2 7 := by simp [ro_set, upd]
              simp only [fn_X11_slate, fn_X1_putSlate, hsq, Option.bind_some, if_neg k1, if_neg k2, if_neg hne, if_neg hl, if_neg hu, if_pos hlu, if_pos hin, ro_lt, hcl, e1, ← hx, e2, ← hy]
            · have e1 : ro_set (ro_set (ro_set (ro_set (ro_set (ro_set (ro_set (ro_set (ro_set μ 6 k (nI s)) 7 k l) 8 k u) 2 6 x) 2 7 y) 0 7 1) 211 k (nI s)) 212 k l) 213 k u 207 1 = μ 2 7 := by rw [← hna]; simp [ro_set]
              simp only [fn_X12_slate, rt_innY k1 k3, rt_isPlace hr hpp, rt_innY hl hl2, rt_innY hnl hu2, Option.bind_some, if_neg rt_10, if_pos hin, ro_lt, hcl, hs, e1, ← hy]
            · have hof : ∀ o, (¬ o = 0 ∧ ¬ o = 2 ∧ ¬ o = 6 ∧ ¬ o = 7 ∧ ¬ o = 8 ∧ ¬ o = 207 ∧ ¬ o = 211 ∧ ¬ o = 212 ∧ ¬ o = 213) → ro_set (ro_set (ro_set (ro_set (ro_set (ro_set (ro_set (ro_set (ro_set (ro_set μ 6 k (nI s)) 7 k l) 8 k u) 2 6 x) 2 7 y) 0 7 1) 211 k (nI s)) 212 k l) 213 k u) 207 1 y o = μ o := fun o h => by
                rw [ro_set_ne _ _ _ h.2.2.2.2.2.1, ro_set_ne _ _ _ h.2.2.2.2.2.2.2.2, ro_set_ne _ _ _ h.2.2.2.2.2.2.2.1, ro_set_ne _ _ _ h.2.2.2.2.2.2.1, ro_set_ne _ _ _ h.1, ro_set_ne _ _ _ h.2.1, ro_set_ne _ _ _ h.2.1, ro_set_ne _ _ _ h.2.2.2.2.1, ro_set_ne _ _ _ h.2.2.2.1, ro_set_ne _ _ _ h.2.2.1]
              generalize hM : ro_set (ro_set (ro_set (ro_set (ro_set (ro_set (ro_set (ro_set (ro_set (ro_set μ 6 k (nI s)) 7 k l) 8 k u) 2 6 x) 2 7 y) 0 7 1) 211 k (nI s)) 212 k l) 213 k u) 207 1 y = M at hof
              have e2 : ∀ j, (¬ j = 6 ∧ ¬ j = 7) → M 2 j = μ 2 j := fun j hj => by rw [← hM]; simp [ro_set, upd, hj.1, hj.2]
              have e207 : ∀ j, ¬ j = 1 → M 207 j = μ 207 j := fun j hj => by rw [← hM]; simp [ro_set, upd, hj]
              have f6 : M 2 6 = x := by rw [← hM]; simp [ro_set, upd]
              have f7 : M 2 7 = y := by rw [← hM]; simp [ro_set, upd]
              have f207 : M 207 1 = y := by rw [← hM]; simp [ro_set, upd]
              have g6 : M 6 = upd (μ 6) k (nI s) := by rw [← hM]; simp [ro_set]
              have g7 : M 7 = upd (μ 7) k l := by rw [← hM]; simp [ro_set]
              have g8 : M 8 = upd (μ 8) k u := by rw [← hM]; simp [ro_set]
              have g211 : M 211 = upd (μ 211) k (nI s) := by rw [← hM]; simp [ro_set]
              have g212 : M 212 = upd (μ 212) k l := by rw [← hM]; simp [ro_set]
              have g213 : M 213 = upd (μ 213) k u := by rw [← hM]; simp [ro_set]
              refine hI.house ⟨?_, ?_, ?_, ?_, ?_, ?_, ?_, ?_⟩ ?_ ?_ (fun o h => hof o (by omega)) (fun k h => e207 k (by omega))
              · rw [hof 3 (by omega), hof 208 (by omega)]; exact hU
              · rw [hof 4 (by omega), hof 209 (by omega)]; exact hB
              · rw [hof 5 (by omega), hof 210 (by omega)]; exact hMo
              · rw [g6, g7, g8, g211, g212, g213, f6, f7, f207, hx, hy]
                have := hS.put hk hlt l u
                rw [hna] at this
                exact this
              · rw [hof 9 (by omega), hof 214 (by omega)]; exact hR
              · rw [hof 10 (by omega), hof 11 (by omega), hof 215 (by omega), hof 216 (by omega), e2 11 (by decide), e207 2 (by decide)]; exact hG
              · rw [hof 12 (by omega), hof 13 (by omega), hof 14 (by omega), hof 257 (by omega), hof 258 (by omega), hof 259 (by omega), e2 12 (by decide), e2 13 (by decide), e207 70 (by decide), e207 71 (by decide)]; exact hN
              · rw [e2 17 (by decide), e207 0 (by decide)]; exact hX
              · rw [← hM]; simp [ro_set, upd]
              · intro k hk; rw [← hM]; simp [ro_set, upd, hk]
          · refine ⟨0, μ, μ, ?_, ?_, hI⟩
            · simp only [fn_X11_slate, hsq, Option.bind_some, if_neg k1, if_neg k2, if_neg hne, if_neg hl, if_neg hu, if_neg hlu]
            · by_cases hl2 : l ≤ 47
              · simp only [fn_X12_slate, rt_innY k1 k3, rt_isPlace hr hpp, rt_innY hl hl2, rt_innN (Or.inl (Int32.not_le.mp hlu)), Option.bind_some, if_neg rt_10, if_true]
              · simp only [fn_X12_slate, rt_innY k1 k3, rt_isPlace hr hpp, rt_innN (Or.inr hl2), Option.bind_some, if_neg rt_10, if_true]
