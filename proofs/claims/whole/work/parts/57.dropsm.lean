-- ===== the world in which a call runs =====
def Wd (μ : ro_Mem) (N : Nat) : Prop := iv_now μ ∧ iv_SW μ ∧ iv_C (iv_sc μ) (iv_mc μ) (μ 207 18) (μ 207 19) (μ 207 20) ∧ iv_W (iv_lw μ) (iv_mw μ) (μ 207 38) ∧ μ (ro_rf μ 1 1) 5 = nI N ∧ N ≤ 32
theorem Inv.wd {μ : ro_Mem} (hI : Inv μ) : ∃ N, Wd μ N := by
  obtain ⟨h1, -, -, h4, h5, h6, -, -⟩ := hI
  have hC := h5
  obtain ⟨-, -, -, N, B, A, hN, -, -, hn, -⟩ := h5
  refine ⟨N, h1, h4, hC, h6, ?_, hN⟩
  unfold iv_sc at hn
  exact hn
theorem Wd.fr {μ M : ro_Mem} {N : Nat} (h : Wd μ N) (hf : Fr μ M) : Wd M N := by
  obtain ⟨⟨hU, hB, hMo, hS, hR, hG, hN, hX⟩, hSW, hC, hW, hn, hn2⟩ := h
  obtain ⟨e1, e2, e3, e4⟩ := hf.eve hSW
  obtain ⟨r1, r2⟩ := hf.rf
  have hs := (cg_rf hSW).1
  have hSW' := hf.sw hSW
  obtain ⟨f, f2, f3⟩ := hf
  refine ⟨⟨?_, ?_, ?_, ?_, ?_, ?_, ?_, ?_⟩, hSW', ?_, ?_, ?_, hn2⟩
  · rw [f 3 (by unfold fr_id; omega), f 208 (by unfold fr_id; omega)]; exact hU
  · rw [f 4 (by unfold fr_id; omega), f 209 (by unfold fr_id; omega)]; exact hB
  · rw [f 5 (by unfold fr_id; omega), f 210 (by unfold fr_id; omega)]; exact hMo
  · rw [f 6 (by unfold fr_id; omega), f 7 (by unfold fr_id; omega), f 8 (by unfold fr_id; omega), f 211 (by unfold fr_id; omega), f 212 (by unfold fr_id; omega), f 213 (by unfold fr_id; omega), f 2 (by unfold fr_id; omega), f3 1 (by unfold fr_k; omega)]; exact hS
  · rw [f 9 (by unfold fr_id; omega), f 214 (by unfold fr_id; omega)]; exact hR
  · rw [f 10 (by unfold fr_id; omega), f 11 (by unfold fr_id; omega), f 215 (by unfold fr_id; omega), f 216 (by unfold fr_id; omega), f 2 (by unfold fr_id; omega), f3 2 (by unfold fr_k; omega)]; exact hG
  · rw [f 12 (by unfold fr_id; omega), f 13 (by unfold fr_id; omega), f 14 (by unfold fr_id; omega), f 257 (by unfold fr_id; omega), f 258 (by unfold fr_id; omega), f 259 (by unfold fr_id; omega), f 2 (by unfold fr_id; omega), f3 70 (by unfold fr_k; omega), f3 71 (by unfold fr_k; omega)]; exact hN
  · rw [f 2 (by unfold fr_id; omega), f3 0 (by unfold fr_k; omega)]; exact hX
  · rw [e1, e3, f3 18 (by unfold fr_k; omega), f3 19 (by unfold fr_k; omega), f3 20 (by unfold fr_k; omega)]; exact hC
  · rw [e2, e4, f3 38 (by unfold fr_k; omega)]; exact hW
  · rw [r1, f _ (by unfold fr_id; omega)]; exact hn
/-- the notes of the score, in numbers -/
theorem Wd.notes {μ : ro_Mem} {N : Nat} (h : Wd μ N) : μ 207 18 = nI N ∧ ∃ V Pt Ln Br Ac : Nat → Nat, ∃ B A : Nat, B ≤ 12 ∧ A ≤ 4 ∧ μ 207 20 = nI A ∧ μ (ro_rf μ 1 1) 7 = nI A ∧ (∀ i, i < N → (μ (ro_rf μ 1 1 + 1) i = nI (V i) ∧ μ (ro_rf μ 1 1 + 2) i = nI (Pt i) ∧ μ (ro_rf μ 1 1 + 3) i = nI (Ln i) ∧ μ (ro_rf μ 1 1 + 4) i = nI (Br i) ∧ μ (ro_rf μ 1 1 + 5) i = nI (Ac i)) ∧ (μ 218 i = nI (V i) ∧ μ 219 i = nI (Pt i) ∧ μ 220 i = nI (Ln i) ∧ μ 221 i = nI (Br i) ∧ μ 222 i = nI (Ac i)) ∧ (iv_sc μ 1 i = nI (V i) ∧ iv_sc μ 2 i = nI (Pt i) ∧ iv_sc μ 3 i = nI (Ln i) ∧ iv_sc μ 4 i = nI (Br i) ∧ iv_sc μ 5 i = nI (Ac i)) ∧ V i < 4 ∧ Pt i < 48 ∧ 1 ≤ Ln i ∧ Ln i ≤ 9 ∧ Br i < B ∧ Ac i < A) ∧ (∀ i, i + 1 < N → Ac i ≤ Ac (i + 1) ∧ Br i ≤ Br (i + 1)) ∧ (∀ x, x < A → ∃ i, i < N ∧ Ac i = x) := by
  obtain ⟨-, -, hC, -, hn, hn2⟩ := h
  have hsc : ∀ j, j ≤ 5 → iv_sc μ j = μ (ro_rf μ 1 1 + j) := fun j h => by unfold iv_sc; rw [if_pos h]
  have hmc : ∀ j, 1 ≤ j → j ≤ 5 → iv_mc μ j = μ (217 + j) := fun j h h' => by unfold iv_mc; rw [if_pos ⟨h, h'⟩]
  obtain ⟨e1, e2, e3, N', B, A, hN', hB', hA', f1, f2, f3, hj, V, Pt, Ln, Br, Ac, hv, hmono, hall⟩ := hC
  have h0 : iv_sc μ 0 = μ (ro_rf μ 1 1) := hsc 0 (by decide)
  have : N = N' := by
    rw [h0] at f1
    have : nI N = nI N' := by rw [← hn]; exact f1
    exact (nI_eq (by omega) (by omega)).mp this
  subst this
  refine ⟨by rw [e1, f1], V, Pt, Ln, Br, Ac, B, A, hB', hA', by rw [e3, f3], by rw [← f3, h0], fun i hi => ?_, hmono, hall⟩
  obtain ⟨v1, v2, v3, v4, v5, v6, v7, v8, v9, v10, v11⟩ := hv i hi
  have j1 := hj 1 i (by decide) (by decide) hi
  have j2 := hj 2 i (by decide) (by decide) hi
  have j3 := hj 3 i (by decide) (by decide) hi
  have j4 := hj 4 i (by decide) (by decide) hi
  have j5 := hj 5 i (by decide) (by decide) hi
  rw [hmc 1 (by decide) (by decide)] at j1
  rw [hmc 2 (by decide) (by decide)] at j2
  rw [hmc 3 (by decide) (by decide)] at j3
  rw [hmc 4 (by decide) (by decide)] at j4
  rw [hmc 5 (by decide) (by decide)] at j5
  refine ⟨⟨by rw [← hsc 1 (by decide)]; exact v1, by rw [← hsc 2 (by decide)]; exact v3, by rw [← hsc 3 (by decide)]; exact v5, by rw [← hsc 4 (by decide)]; exact v8, by rw [← hsc 5 (by decide)]; exact v10⟩, ⟨j1.trans v1, j2.trans v3, j3.trans v5, j4.trans v8, j5.trans v10⟩, ⟨v1, v3, v5, v8, v10⟩, v2, v4, v6, v7, v9, v11⟩
theorem rt_feels {μ : ro_Mem} {q : Nat} (hq : q < 96) : fn_X12_feels (nI q) μ = some (ro_arr μ 240 (upd (upd (upd (rt_mix (fun _ => 0) (μ 240) 12) 8 (nI q / 12)) 9 (ro_rem (nI q) 12)) 10 (μ 210 q))) := by
  have hl : fl_X12_feels_2 (nI q) (0, μ) = some (ro_arr μ 240 (rt_mix (fun _ => 0) (μ 240) 12)) := by
    unfold fl_X12_feels_2
    have h0 : ((0 : Int32), μ) = (fun i => (nI i, ro_arr μ 240 (rt_mix (fun _ => 0) (μ 240) i))) 0 := by
      show _ = (nI 0, ro_arr μ 240 (rt_mix (fun _ => 0) (μ 240) 0))
      have : rt_mix (fun _ => 0) (μ 240) 0 = μ 240 := by
        funext j
        exact if_neg (by omega)
      rw [this, ro_arr_self]
      rfl
    rw [h0]
    refine rt_loop (fun i => (nI i, ro_arr μ 240 (rt_mix (fun _ => 0) (μ 240) i))) 12 ?_ ?_ ro_FU (by decide)
    · intro i hi rec
      show fb_X12_feels_2 (nI q) rec (nI i) (ro_arr μ 240 (rt_mix (fun _ => 0) (μ 240) i)) = rec (nI (i + 1), ro_arr μ 240 (rt_mix (fun _ => 0) (μ 240) (i + 1)))
      unfold fb_X12_feels_2
      rw [if_neg (show ¬ (12 : Int32) ≤ nI i from nI_ge (b := 12) hi (by decide)), if_pos (rt_in hi (by decide)), nI_clamp (by omega), nI_1, ro_lt, ro_arr_set]
      congr 3
      funext j
      unfold upd rt_mix
      by_cases e : j = i
      · rw [if_pos e, if_pos (by omega)]
      · rw [if_neg e]
        by_cases h : j < i
        · rw [if_pos h, if_pos (by omega)]
        · rw [if_neg h, if_neg (by omega)]
    · intro rec
      rfl
  unfold fn_X12_feels
  rw [hl, Option.bind_some, ro_arr_set, ro_lt, ro_arr_set, ro_lt, if_pos (rt_in hq (by decide)), nI_clamp (by omega), ro_arr_ne μ _ (show 210 ≠ 240 by decide), ro_arr_set, ro_lt]
  rfl
theorem rt_feelsNote {μ : ro_Mem} {sh : Int32} {i k N : Nat} (hw : Wd μ N) (hsh : μ 207 52 = sh) (hi : i < N) (hk : k < 16) (ht : bt (μ 2 6) k = true) : ∃ g, fn_X12_feelsNote (nI i) (nI k) μ = some (ro_arr μ 240 g) ∧ ∀ j, j < 12 → g j = ev_L μ sh i k j := by
  obtain ⟨-, V, Pt, Ln, Br, Ac, B, A, hB, hA, -, -, hv, -⟩ := hw.notes
  obtain ⟨⟨hU, hBu, hMo, hS, hR, hG, hN, hX⟩, hSW, hC, hW, hn, hn2⟩ := hw
  obtain ⟨-, ⟨m1, m2, m3, m4, m5⟩, ⟨s1, s2, s3, s4, s5⟩, -, -, -, -, -, hac⟩ := hv i hi
  obtain ⟨⟨q, hq, eq⟩, h1, -⟩ := hS.2.2.2 k hk
  have e211 : μ 211 k = nI q := by rw [(h1 ht).1, eq]
  unfold fn_X12_feelsNote
  rw [if_pos (rt_in hk (by decide)), nI_clamp (show k < 2 ^ 31 by omega), e211, rt_feels hq, Option.bind_some, if_pos (rt_in (by omega) (by decide)), nI_clamp (show i < 2 ^ 31 by omega)]
  have ne : ∀ f o, ¬ o = 240 → ro_arr μ 240 f o = μ o := fun f o h => ro_arr_ne _ _ h
  rw [ne _ 218 (by decide), m1, ro_arr_set, ro_lt, ne _ 219 (by decide), ne _ 207 (by decide), m2, hsh, ro_arr_set, ro_lt, ne _ 220 (by decide), m3, ro_arr_set, ro_lt, ro_arr_set, ro_lt, ne _ 221 (by decide), m4, ro_arr_set, ro_lt, ro_arr_set, ro_lt, ne _ 222 (by decide), m5, ro_arr_set, ro_lt, ne _ 222 (by decide), m5, if_pos (rt_in (show Ac i < 4 by omega) (by decide)), nI_clamp (show Ac i < 2 ^ 31 by omega), ne _ 214 (by decide), (hR (Ac i) (by omega)).1, ro_arr_set, ro_lt]
  refine ⟨_, rfl, ?_⟩
  intro j hj
  unfold ev_L sp_lt
  rw [s1, s2, s3, s4, s5, eq, nI_clamp (show Ac i < 2 ^ 31 by omega), nI_clamp (show q < 2 ^ 31 by omega)]
  have e210 : μ 210 q = μ 5 q := (hMo q hq).1
  rw [e210]
  have : j = 0 ∨ j = 1 ∨ j = 2 ∨ j = 3 ∨ j = 4 ∨ j = 5 ∨ j = 6 ∨ j = 7 ∨ j = 8 ∨ j = 9 ∨ j = 10 ∨ j = 11 := by omega
  rcases this with rfl | rfl | rfl | rfl | rfl | rfl | rfl | rfl | rfl | rfl | rfl | rfl <;> rfl
theorem rt_dropsM {μ : ro_Mem} {sh : Int32} {i k N : Nat} (hw : Wd μ N) (hsh : μ 207 52 = sh) (hi : i < N) (hk : k < 16) : ∃ m', fn_X12_dropsOf (nI i) (nI k) μ = some (nI (ev_D μ sh i k), m') ∧ (∀ o, ¬ o = 239 → ¬ o = 240 → m' o = μ o) ∧ ev_D μ sh i k ≤ 99 ∧ (0 < ev_D μ sh i k → bt (μ 2 6) k = true) := by
  obtain ⟨-, V, Pt, Ln, Br, Ac, B, A, hB, hA, -, -, hv, -⟩ := hw.notes
  have hw' := hw
  obtain ⟨⟨hU, hBu, hMo, hS, hR, hG, hN, hX⟩, hSW, hC, hW, hn, hn2⟩ := hw
  obtain ⟨-, ⟨m1, m2, m3, m4, m5⟩, ⟨s1, s2, s3, s4, s5⟩, -, -, -, -, -, hac⟩ := hv i hi
  obtain ⟨-, h1, -⟩ := hS.2.2.2 k hk
  unfold ev_D sp_D
  unfold fn_X12_dropsOf
  rw [if_pos (rt_in (by omega) (by decide)), nI_clamp (show i < 2 ^ 31 by omega), m2, hsh, ← s2, ro_lt, rt_slateI hS hk, Option.bind_some]
  by_cases c1 : bt (μ 2 6) k = true
  · obtain ⟨-, e212, e213⟩ := h1 c1
    rw [if_pos c1, if_neg rt_10, rt_nailM (by omega), Option.bind_some, hS.1]
    by_cases c2 : bt (μ 2 7) k = true
    · rw [if_pos c2, if_neg rt_10, if_neg (by rw [c2]; simp)]
      exact ⟨μ, rfl, fun _ _ _ => rfl, by omega, fun h => absurd h (by omega)⟩
    · have c2' : bt (μ 2 7) k = false := by simpa using c2
      rw [if_neg c2, if_pos rfl, if_pos (rt_in hk (by decide)), nI_clamp (show k < 2 ^ 31 by omega), e212, e213]
      by_cases c3 : iv_sc μ 2 i + sh < μ 7 k
      · rw [if_pos c3, if_neg (fun h => h.2.2.1 c3)]
        exact ⟨μ, rfl, fun _ _ _ => rfl, by omega, fun h => absurd h (by omega)⟩
      · rw [if_neg c3]
        by_cases c4 : iv_sc μ 2 i + sh ≤ μ 8 k
        · have hc : bt (μ 2 6) k = true ∧ bt (μ 2 7) k = false ∧ ¬ iv_sc μ 2 i + sh < μ 7 k ∧ iv_sc μ 2 i + sh ≤ μ 8 k := ⟨c1, c2', c3, c4⟩
          rw [if_pos c4, if_pos hc]
          obtain ⟨g, hg, hgl⟩ := rt_feelsNote hw' hsh hi hk c1
          rw [hg, Option.bind_some]
          obtain ⟨m', r1, r2⟩ := rt_byLaw (μ := ro_arr μ 240 g) (W := iv_lw μ) (lt := g) (kind := 0) (most := 99) (by decide) (by decide) (by decide) hW (ro_arr_same _ _ _)
          have r1 : fn_X12_byLaw 100 99 (ro_arr μ 240 g) = some (sp_amt (iv_lw μ) g (nI 0) (nI 99), m') := r1
          rw [sp_amt_cg hgl] at r1
          rw [r1, Option.bind_some]
          obtain ⟨n, hn, en⟩ := sp_amt_nn (W := iv_lw μ) (lt := ev_L μ sh i k) (kind := 0) (most := 99) (by decide)
          have en' : sp_amt (iv_lw μ) (sp_lt (iv_sc μ) (μ 5) (μ 6) (μ 9) sh i k) 0 99 = nI n := en
          rw [en', nI_clamp (by omega)]
          exact ⟨m', by rw [show sp_amt (iv_lw μ) (ev_L μ sh i k) (nI 0) (nI 99) = nI n from en], fun o ho ho2 => by rw [r2 o ho, ro_arr_ne _ _ ho2], hn, fun _ => c1⟩
        · rw [if_neg c4, if_neg (fun h => c4 h.2.2.2)]
          exact ⟨μ, rfl, fun _ _ _ => rfl, by omega, fun h => absurd h (by omega)⟩
  · rw [if_neg c1, if_pos rfl, if_neg (fun h => c1 h.1)]
    exact ⟨μ, rfl, fun _ _ _ => rfl, by omega, fun h => absurd h (by omega)⟩
def ev_S (μ : ro_Mem) (sh : Int32) (i k : Nat) : Bool := sp_any (iv_lw μ) (ev_L μ sh i k) 1
theorem rt_isSnowM {μ : ro_Mem} {sh : Int32} {i k N : Nat} (hw : Wd μ N) (hsh : μ 207 52 = sh) (hi : i < N) (hk : k < 16) (ht : bt (μ 2 6) k = true) : ∃ m', fn_X12_isSnow (nI i) (nI k) μ = some (if ev_S μ sh i k = true then 1 else 0, m') ∧ (∀ o, ¬ o = 239 → ¬ o = 240 → m' o = μ o) := by
  obtain ⟨g, hg, hgl⟩ := rt_feelsNote hw hsh hi hk ht
  obtain ⟨-, -, -, hW, -, -⟩ := hw
  unfold fn_X12_isSnow
  rw [hg, Option.bind_some]
  obtain ⟨m', r1, r2⟩ := rt_anySnow (μ := ro_arr μ 240 g) (W := iv_lw μ) (lt := g) hW (ro_arr_same _ _ _)
  rw [sp_any_cg hgl] at r1
  rw [r1, Option.bind_some]
  refine ⟨m', ?_, fun o ho ho2 => by rw [r2 o ho, ro_arr_ne _ _ ho2]⟩
  unfold ev_S
  cases sp_any (iv_lw μ) (ev_L μ sh i k) 1
  · exact if_pos (Or.inl rfl)
  · exact if_pos (Or.inr rfl)
theorem rt_isSnowC {μ m : ro_Mem} {sh : Int32} {i k N : Nat} (hw : Wd μ N) (hf : Fr μ m) (hl : ∀ j, j < 12 → m (ro_rf μ 1 2 + 7) j = ev_L μ sh i k j) : ∃ m', fn_X9_isSnow m = some (if ev_S μ sh i k = true then 1 else 0, m') ∧ (∀ o, ¬ o = ro_rf μ 1 2 + 8 → m' o = m o) := by
  have hr := hf.rf.2
  obtain ⟨-, hSW, -, hW, -, -⟩ := hw.fr hf
  have hSW0 := hw.2.1
  have hL := (cg_rf hSW0).2
  obtain ⟨-, e2, -, -⟩ := hf.eve hSW0
  unfold fn_X9_isSnow
  rw [hr, if_pos (rt_law_id hL)]
  obtain ⟨m', r1, r2⟩ := rt_any (o0 := ro_rf μ 1 2) (μ := m) hW (fun j hj => by unfold iv_lw; rw [if_pos hj, hr])
  rw [sp_any_cg hl, e2] at r1
  rw [r1, Option.bind_some]
  refine ⟨m', ?_, r2⟩
  unfold ev_S
  cases sp_any (iv_lw μ) (ev_L μ sh i k) 1
  · exact if_pos (Or.inl rfl)
  · exact if_pos (Or.inr rfl)
