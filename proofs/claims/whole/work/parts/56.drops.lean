-- ===== what a call may leave behind: scratch =====
def fr_id (o : Nat) : Prop := (1 ≤ o ∧ o ≤ 27) ∨ (31 ≤ o ∧ o ≤ 57) ∨ o = 61 ∨ (208 ≤ o ∧ o ≤ 222) ∨ (234 ≤ o ∧ o ≤ 238) ∨ (257 ≤ o ∧ o ≤ 259) ∨ (261 ≤ o ∧ o ≤ 272)
def fr_k (k : Nat) : Prop := k ≤ 2 ∨ (18 ≤ k ∧ k ≤ 20) ∨ k = 38 ∨ (70 ≤ k ∧ k ≤ 81)
def Fr (μ m : ro_Mem) : Prop := (∀ o, fr_id o → m o = μ o) ∧ (∀ k, ¬ k = 7 → m 0 k = μ 0 k) ∧ ∀ k, fr_k k → m 207 k = μ 207 k
theorem Fr.rfl' {μ : ro_Mem} : Fr μ μ := ⟨fun _ _ => rfl, fun _ _ => rfl, fun _ _ => rfl⟩
theorem Fr.trans {a b c : ro_Mem} (h : Fr a b) (g : Fr b c) : Fr a c := ⟨fun o ho => (g.1 o ho).trans (h.1 o ho), fun k hk => (g.2.1 k hk).trans (h.2.1 k hk), fun k hk => (g.2.2 k hk).trans (h.2.2 k hk)⟩
/-- only these ids differ, and none that counts is among them -/
theorem Fr.of {μ m : ro_Mem} (p : Nat → Prop) (h : ∀ o, ¬ p o → m o = μ o) (hp : ∀ o, p o → ¬ fr_id o ∧ ¬ o = 0 ∧ ¬ o = 207) : Fr μ m := by
  have h' : ∀ o, (fr_id o ∨ o = 0 ∨ o = 207) → m o = μ o := fun o ho => h o (fun hq => by
    obtain ⟨a, b, c⟩ := hp o hq
    rcases ho with ho | ho | ho
    · exact a ho
    · exact b ho
    · exact c ho)
  exact ⟨fun o ho => h' o (Or.inl ho), fun k _ => by rw [h' 0 (Or.inr (Or.inl rfl))], fun k _ => by rw [h' 207 (Or.inr (Or.inr rfl))]⟩
theorem Fr.eve {μ M : ro_Mem} (hSW : iv_SW μ) (h : Fr μ M) : iv_sc M = iv_sc μ ∧ iv_lw M = iv_lw μ ∧ iv_mc M = iv_mc μ ∧ iv_mw M = iv_mw μ := by
  obtain ⟨f, f2, f3⟩ := h
  exact ⟨cg_sc hSW (f 1 (by unfold fr_id; omega)) (fun o a b => f o (by unfold fr_id; omega)) (fun o a b => f o (by unfold fr_id; omega)), cg_lw hSW (f 1 (by unfold fr_id; omega)) (fun o a b => f o (by unfold fr_id; omega)) (fun o a b => f o (by unfold fr_id; omega)), cg_mc (fun o a b => f o (by unfold fr_id; omega)), cg_mw (fun o a b => f o (by unfold fr_id; omega))⟩
theorem Inv.fr {μ M : ro_Mem} (hI : Inv μ) (h : Fr μ M) (hT : iv_T (M 61) (M 217) (M 60 1) (M 207 13)) (hE : M 0 7 = 1 ∨ (M 0 7 = 0 ∧ iv_eve M)) (hQ : M 207 52 = 0) : Inv M := by
  obtain ⟨⟨hU, hB, hMo, hS, hR, hG, hN, hX⟩, hK, -, hSW, hC, hW, -, -⟩ := hI
  obtain ⟨e1, e2, e3, e4⟩ := h.eve hSW
  obtain ⟨f, f2, f3⟩ := h
  refine ⟨⟨?_, ?_, ?_, ?_, ?_, ?_, ?_, ?_⟩, cg_kept hK (f2 2 (by decide)) (fun o a b => f o (by unfold fr_id; omega)) (fun o a b => f o (by unfold fr_id; omega)) (fun k a b => f3 k (by unfold fr_k; omega)), hT, cg_SW hSW (f2 3 (by decide)) (f 1 (by unfold fr_id; omega)) (f 50 (by unfold fr_id; omega)), ?_, ?_, hE, hQ⟩
  · rw [f 3 (by unfold fr_id; omega), f 208 (by unfold fr_id; omega)]; exact hU
  · rw [f 4 (by unfold fr_id; omega), f 209 (by unfold fr_id; omega)]; exact hB
  · rw [f 5 (by unfold fr_id; omega), f 210 (by unfold fr_id; omega)]; exact hMo
  · rw [f 6 (by unfold fr_id; omega), f 7 (by unfold fr_id; omega), f 8 (by unfold fr_id; omega), f 211 (by unfold fr_id; omega), f 212 (by unfold fr_id; omega), f 213 (by unfold fr_id; omega), f 2 (by unfold fr_id; omega), f3 1 (by unfold fr_k; omega)]; exact hS
  · rw [f 9 (by unfold fr_id; omega), f 214 (by unfold fr_id; omega)]; exact hR
  · rw [f 10 (by unfold fr_id; omega), f 11 (by unfold fr_id; omega), f 215 (by unfold fr_id; omega), f 216 (by unfold fr_id; omega), f 2 (by unfold fr_id; omega), f3 2 (by unfold fr_k; omega)]; exact hG
  · rw [f 12 (by unfold fr_id; omega), f 13 (by unfold fr_id; omega), f 14 (by unfold fr_id; omega), f 257 (by unfold fr_id; omega), f 258 (by unfold fr_id; omega), f 259 (by unfold fr_id; omega), f 2 (by unfold fr_id; omega), f3 70 (by unfold fr_k; omega), f3 71 (by unfold fr_k; omega)]; exact hN
  · rw [f 2 (by unfold fr_id; omega), f3 0 (by unfold fr_k; omega)]; exact hX
  · rw [e1, e3, f3 18 (by unfold fr_k; omega), f3 19 (by unfold fr_k; omega), f3 20 (by unfold fr_k; omega)]; exact hC
  · rw [e2, e4, f3 38 (by unfold fr_k; omega)]; exact hW
-- ===== drops of a note through a slate, as they are now =====
def ev_D (μ : ro_Mem) (sh : Int32) (i k : Nat) : Nat := sp_D (iv_sc μ) (iv_lw μ) (μ 2 6) (μ 2 7) (μ 5) (μ 6) (μ 7) (μ 8) (μ 9) sh i k
def ev_F (μ : ro_Mem) (sh : Int32) (i k : Nat) : Nat := sp_F (iv_sc μ) (iv_lw μ) (μ 5) (μ 6) (μ 9) sh i k
def ev_L (μ : ro_Mem) (sh : Int32) (i k : Nat) : Nat → Int32 := sp_lt (iv_sc μ) (μ 5) (μ 6) (μ 9) sh i k
theorem Fr.ev {μ M : ro_Mem} (hSW : iv_SW μ) (h : Fr μ M) : ev_D M = ev_D μ ∧ ev_F M = ev_F μ ∧ ev_L M = ev_L μ := by
  obtain ⟨e1, e2, e3, e4⟩ := h.eve hSW
  obtain ⟨f, f2, f3⟩ := h
  unfold ev_D ev_F ev_L
  rw [e1, e2, f 2 (by unfold fr_id; omega), f 5 (by unfold fr_id; omega), f 6 (by unfold fr_id; omega), f 7 (by unfold fr_id; omega), f 8 (by unfold fr_id; omega), f 9 (by unfold fr_id; omega)]
  exact ⟨rfl, rfl, rfl⟩
theorem Fr.sw {μ M : ro_Mem} (hSW : iv_SW μ) (h : Fr μ M) : iv_SW M := cg_SW hSW (h.2.1 3 (by decide)) (h.1 1 (by unfold fr_id; omega)) (h.1 50 (by unfold fr_id; omega))
theorem Fr.rf {μ M : ro_Mem} (h : Fr μ M) : ro_rf M 1 1 = ro_rf μ 1 1 ∧ ro_rf M 1 2 = ro_rf μ 1 2 := by
  have : M 1 = μ 1 := h.1 1 (by unfold fr_id; omega)
  unfold ro_rf
  rw [this]
  exact ⟨rfl, rfl⟩
theorem sp_amt_nn {W : Nat → Nat → Int32} {lt : Nat → Int32} {kind : Int32} {most : Nat} (h : most < 2 ^ 30) : ∃ n, n ≤ most ∧ sp_amt W lt kind (nI most) = nI n := by
  unfold sp_amt
  cases sp_which W lt kind with
  | none => exact ⟨0, by omega, rfl⟩
  | some c =>
    show ∃ n, n ≤ most ∧ ro_mx 0 (ro_mn (nI most) _) = nI n
    generalize sp_ev _ _ _ _ _ _ _ = x
    unfold ro_mx ro_mn
    by_cases c1 : x < nI most
    · rw [if_pos c1]
      by_cases c2 : (0 : Int32) < x
      · rw [if_pos c2]
        obtain ⟨j, hj, rfl⟩ := nI_of (x := x) (fun q => by rw [fa_lt] at q c2; omega)
        exact ⟨j, by have := (nI_ltI hj (by omega)).mp c1; omega, rfl⟩
      · rw [if_neg c2]; exact ⟨0, by omega, rfl⟩
    · rw [if_neg c1]
      by_cases c2 : (0 : Int32) < nI most
      · rw [if_pos c2]; exact ⟨most, Nat.le_refl _, rfl⟩
      · rw [if_neg c2]; exact ⟨0, by omega, rfl⟩
theorem rt_nailC {μ : ro_Mem} {k : Nat} (hk : k < 16) : fn_X1_isNailed 2 (nI k) μ = some (if bt (μ 2 7) k = true then 1 else 0) := by
  unfold fn_X1_isNailed
  by_cases hb : bt (μ 2 7) k = true
  · rw [if_pos ((rt_bit (by omega)).mpr hb), if_pos hb]
  · rw [if_neg (fun q => hb ((rt_bit (by omega)).mp q)), if_neg hb]
theorem rt_nailM {x : Int32} {k : Nat} (hk : k < 31) : fn_X12_has x (nI k) = some (if bt x k = true then 1 else 0) := by
  unfold fn_X12_has
  by_cases hb : bt x k = true
  · rw [if_pos ((rt_bit (by omega)).mpr hb), if_pos hb]
  · rw [if_neg (fun q => hb ((rt_bit (by omega)).mp q)), if_neg hb]
theorem rt_law_id {L : Nat} (h : L = 21 ∨ L = 51) : ro_sh L = (0, 2) := by
  rcases h with rfl | rfl <;> decide +kernel
theorem rt_score_id {s : Nat} (h : s = 15 ∨ s = 44) : ro_sh s = (0, 5) := by
  rcases h with rfl | rfl <;> decide +kernel
theorem rt_tellAct {m : ro_Mem} {L a : Nat} (hL : L = 21 ∨ L = 51) (hr : ro_rf m 1 2 = L) (ha : a < 4) : fn_X9_tellAct (nI a) m = some (ro_arr m (L + 7) (upd (upd (m (L + 7)) 6 (nI a)) 7 (m 9 a))) := by
  unfold fn_X9_tellAct
  rw [hr, if_pos (rt_law_id hL)]
  show (if ro_sh ((ro_set m (L + 7) 6 (nI a)) 1 2).toNatClampNeg = (0, 2) then _ else none) = _
  have h1 : ro_set m (L + 7) 6 (nI a) 1 = m 1 := ro_set_ne _ _ _ (by omega)
  have h9 : ro_set m (L + 7) 6 (nI a) 9 = m 9 := ro_set_ne _ _ _ (by omega)
  have hr' : ((ro_set m (L + 7) 6 (nI a)) 1 2).toNatClampNeg = L := by rw [h1]; exact hr
  rw [hr', if_pos (rt_law_id hL), if_pos (rt_in ha (by decide)), nI_clamp (by omega)]
  show some (ro_set (ro_set m (L + 7) 6 (nI a)) ((ro_set m (L + 7) 6 (nI a) 1 2).toNatClampNeg + 7) 7 (ro_set m (L + 7) 6 (nI a) 9 a)) = _
  rw [hr', h9, ro_set_arr m, ro_arr_set]
theorem rt_tellSeat {m : ro_Mem} {L a : Nat} (hL : L = 21 ∨ L = 51) (hr : ro_rf m 1 2 = L) (ha : a < 96) : fn_X9_tellSeat (nI a) m = some (ro_arr m (L + 7) (upd (upd (upd (m (L + 7)) 8 (nI a / 12)) 9 (ro_rem (nI a) 12)) 10 (m 5 a))) := by
  unfold fn_X9_tellSeat
  have h1 : ∀ f, ro_arr m (L + 7) f 1 = m 1 := fun f => ro_arr_ne _ _ (by omega)
  have h5 : ∀ f, ro_arr m (L + 7) f 5 = m 5 := fun f => ro_arr_ne _ _ (by omega)
  have hr' : ∀ f, ((ro_arr m (L + 7) f) 1 2).toNatClampNeg = L := fun f => by rw [h1]; exact hr
  rw [hr, if_pos (rt_law_id hL)]
  show (if ro_sh ((ro_arr m (L + 7) (upd (m (L + 7)) 8 (nI a / 12))) 1 2).toNatClampNeg = (0, 2) then _ else none) = _
  rw [hr', if_pos (rt_law_id hL)]
  show (if ro_sh ((ro_set (ro_arr m (L + 7) (upd (m (L + 7)) 8 (nI a / 12))) (((ro_arr m (L + 7) (upd (m (L + 7)) 8 (nI a / 12))) 1 2).toNatClampNeg + 7) 9 (ro_rem (nI a) 12)) 1 2).toNatClampNeg = (0, 2) then (if ro_in (nI a) 96 then some (ro_set (ro_set (ro_arr m (L + 7) (upd (m (L + 7)) 8 (nI a / 12))) (((ro_arr m (L + 7) (upd (m (L + 7)) 8 (nI a / 12))) 1 2).toNatClampNeg + 7) 9 (ro_rem (nI a) 12)) (((ro_set (ro_arr m (L + 7) (upd (m (L + 7)) 8 (nI a / 12))) (((ro_arr m (L + 7) (upd (m (L + 7)) 8 (nI a / 12))) 1 2).toNatClampNeg + 7) 9 (ro_rem (nI a) 12)) 1 2).toNatClampNeg + 7) 10 (ro_set (ro_arr m (L + 7) (upd (m (L + 7)) 8 (nI a / 12))) (((ro_arr m (L + 7) (upd (m (L + 7)) 8 (nI a / 12))) 1 2).toNatClampNeg + 7) 9 (ro_rem (nI a) 12) 5 (nI a).toNatClampNeg)) else none) else none) = _
  rw [hr', ro_arr_set, hr', if_pos (rt_law_id hL), if_pos (rt_in ha (by decide)), ro_arr_set, h5, nI_clamp (by omega)]
/-- the world of a drop: law L, score s -/
theorem rt_dropsC {μ : ro_Mem} {sh : Int32} {i k N : Nat} (hI : iv_now μ) (hSW : iv_SW μ) (hC : iv_C (iv_sc μ) (iv_mc μ) (μ 207 18) (μ 207 19) (μ 207 20)) (hW : iv_W (iv_lw μ) (iv_mw μ) (μ 207 38)) (hN : μ (ro_rf μ 1 1) 5 = nI N) (hN2 : N ≤ 32) (hi : i < N) (hk : k < 16) : ∃ m', fn_X9_dropsThrough (nI i) (nI k) sh μ = some (nI (ev_D μ sh i k), m') ∧ (∀ o, ¬ o = ro_rf μ 1 2 + 7 → ¬ o = ro_rf μ 1 2 + 8 → m' o = μ o) ∧ ev_D μ sh i k ≤ 99 ∧ (0 < ev_D μ sh i k → ∀ j, j < 12 → m' (ro_rf μ 1 2 + 7) j = ev_L μ sh i k j) := by
  obtain ⟨hU, hB, hMo, hS, hR, hG, hNn, hX⟩ := hI
  obtain ⟨hs, hL⟩ := cg_rf hSW
  have hsc : ∀ j, j ≤ 5 → iv_sc μ j = μ (ro_rf μ 1 1 + j) := fun j h => by unfold iv_sc; rw [if_pos h]
  have hlw : ∀ j, j ≤ 6 → iv_lw μ j = μ (ro_rf μ 1 2 + j) := fun j h => by unfold iv_lw; rw [if_pos h]
  generalize hse : ro_rf μ 1 1 = s at *
  generalize hLe : ro_rf μ 1 2 = L at *
  obtain ⟨e1, e2, e3, N', B, A, hN', hB', hA', f1, f2, f3, hj, V, Pt, Ln, Br, Ac, hv, -⟩ := hC
  have : N = N' := by
    rw [hsc 0 (by decide)] at f1
    have : nI N = nI N' := by rw [← hN]; exact f1
    exact (nI_eq (by omega) (by omega)).mp this
  subst this
  obtain ⟨v1, v2, v3, v4, v5, v6, v7, v8, v9, v10, v11⟩ := hv i hi
  have hac4 : Ac i < 4 := by omega
  obtain ⟨-, -, -, hSk⟩ := hS
  obtain ⟨⟨q, hq, eq⟩, -, -⟩ := hSk k hk
  have p1 : μ (s + 1) i = iv_sc μ 1 i := by rw [hsc 1 (by decide)]
  have p2 : μ (s + 2) i = iv_sc μ 2 i := by rw [hsc 2 (by decide)]
  have p3 : μ (s + 3) i = iv_sc μ 3 i := by rw [hsc 3 (by decide)]
  have p4 : μ (s + 4) i = iv_sc μ 4 i := by rw [hsc 4 (by decide)]
  have p5 : μ (s + 5) i = iv_sc μ 5 i := by rw [hsc 5 (by decide)]
  unfold ev_D sp_D
  unfold fn_X9_dropsThrough
  rw [hse, if_pos (rt_score_id hs), if_pos (rt_in (by omega) (by decide)), nI_clamp (show i < 2 ^ 31 by omega), p2, ro_lt]
  rw [rt_slateC hk, Option.bind_some]
  by_cases c1 : bt (μ 2 6) k = true
  · rw [if_pos c1, if_neg rt_10, rt_nailC hk, Option.bind_some]
    by_cases c2 : bt (μ 2 7) k = true
    · rw [if_pos c2, if_neg rt_10, if_neg (by rw [c2]; simp)]
      exact ⟨μ, rfl, fun _ _ _ => rfl, by omega, fun h => absurd h (by omega)⟩
    · have c2' : bt (μ 2 7) k = false := by simpa using c2
      rw [if_neg c2, if_pos rfl, if_pos (rt_in hk (by decide)), nI_clamp (show k < 2 ^ 31 by omega)]
      by_cases c3 : iv_sc μ 2 i + sh < μ 7 k
      · rw [if_pos c3, if_neg (fun h => h.2.2.1 c3)]
        exact ⟨μ, rfl, fun _ _ _ => rfl, by omega, fun h => absurd h (by omega)⟩
      · rw [if_neg c3]
        by_cases c4 : iv_sc μ 2 i + sh ≤ μ 8 k
        · have hc : bt (μ 2 6) k = true ∧ bt (μ 2 7) k = false ∧ ¬ iv_sc μ 2 i + sh < μ 7 k ∧ iv_sc μ 2 i + sh ≤ μ 8 k := ⟨c1, c2', c3, c4⟩
          rw [if_pos c4, if_pos hc]
          have h1 : ∀ f, ro_arr μ (L + 7) f 1 = μ 1 := fun f => ro_arr_ne _ _ (by omega)
          have hrS : ∀ f, ro_rf (ro_arr μ (L + 7) f) 1 1 = s := fun f => by unfold ro_rf; rw [h1]; exact hse
          have hrL : ∀ f, ro_rf (ro_arr μ (L + 7) f) 1 2 = L := fun f => by unfold ro_rf; rw [h1]; exact hLe
          have hsr : ∀ f j, j ≤ 5 → ro_arr μ (L + 7) f (s + j) = μ (s + j) := fun f j hj => ro_arr_ne _ _ (by omega)
          have aa : ∀ f g, ro_arr (ro_arr μ (L + 7) f) (L + 7) g = ro_arr μ (L + 7) g := fun f g => by
            funext o
            by_cases e : o = L + 7
            · rw [e, ro_arr_same, ro_arr_same]
            · rw [ro_arr_ne _ _ e, ro_arr_ne _ _ e, ro_arr_ne _ _ e]
          rw [hLe, if_pos (rt_law_id hL), p1]
          rw [show ro_set μ (L + 7) (0 : Int32).toNatClampNeg (iv_sc μ 1 i) = ro_arr μ (L + 7) (upd (μ (L + 7)) 0 (iv_sc μ 1 i)) from rfl, ro_lt, ro_arr_set, ro_lt, hrS, if_pos (rt_score_id hs), hsr _ 3 (by decide), p3, ro_arr_set, ro_lt, ro_arr_set, ro_lt, hrS, if_pos (rt_score_id hs), hsr _ 4 (by decide), p4, ro_arr_set, ro_lt, ro_arr_set, ro_lt, ro_arr_set, ro_lt, hrS, if_pos (rt_score_id hs), hsr _ 5 (by decide), p5, v10, rt_tellAct hL (hrL _) hac4, Option.bind_some, aa, ro_arr_same, ro_arr_ne μ _ (show 6 ≠ L + 7 by omega), ro_arr_ne μ _ (show 9 ≠ L + 7 by omega), eq, rt_tellSeat hL (hrL _) hq, Option.bind_some, aa, ro_arr_same, ro_arr_ne μ _ (show 5 ≠ L + 7 by omega)]
          obtain ⟨g, eg⟩ : ∃ g, g = upd (upd (upd (upd (upd (upd (upd (upd (upd (upd (upd (upd (μ (L + 7)) 0 (iv_sc μ 1 i)) (1 : Int32).toNatClampNeg (iv_sc μ 2 i + sh)) (2 : Int32).toNatClampNeg (iv_sc μ 3 i)) (3 : Int32).toNatClampNeg (nI i)) (4 : Int32).toNatClampNeg (iv_sc μ 4 i)) (5 : Int32).toNatClampNeg (nI k)) (11 : Int32).toNatClampNeg 0) 6 (nI (Ac i))) 7 (μ 9 (Ac i))) 8 (nI q / 12)) 9 (ro_rem (nI q) 12)) 10 (μ 5 q) := ⟨_, rfl⟩
          rw [← eg, hrL, if_pos (rt_law_id hL)]
          have hg : ∀ j, j < 12 → g j = sp_lt (iv_sc μ) (μ 5) (μ 6) (μ 9) sh i k j := by
            intro j hj
            rw [eg]
            unfold sp_lt
            rw [v10, eq, nI_clamp (show Ac i < 2 ^ 31 by omega), nI_clamp (show q < 2 ^ 31 by omega)]
            have : j = 0 ∨ j = 1 ∨ j = 2 ∨ j = 3 ∨ j = 4 ∨ j = 5 ∨ j = 6 ∨ j = 7 ∨ j = 8 ∨ j = 9 ∨ j = 10 ∨ j = 11 := by omega
            rcases this with rfl | rfl | rfl | rfl | rfl | rfl | rfl | rfl | rfl | rfl | rfl | rfl <;> rfl
          obtain ⟨m', r1, r2⟩ := rt_amount (o0 := L) (μ := ro_arr μ (L + 7) g) (kind := 0) (most := 99) (by decide) (by decide) hW (fun j hj => by rw [hlw j hj]; exact (ro_arr_ne _ _ (by omega)).symm)
          have r1 : fn_X2_amount L 0 99 (ro_arr μ (L + 7) g) = _ := r1
          rw [ro_arr_same, sp_amt_cg hg] at r1
          rw [r1, Option.bind_some]
          obtain ⟨n, hn, en⟩ := sp_amt_nn (W := iv_lw μ) (lt := sp_lt (iv_sc μ) (μ 5) (μ 6) (μ 9) sh i k) (kind := 0) (most := 99) (by decide)
          have en' : sp_amt (iv_lw μ) (sp_lt (iv_sc μ) (μ 5) (μ 6) (μ 9) sh i k) 0 99 = nI n := en
          rw [en', nI_clamp (by omega)]
          refine ⟨m', by rw [show sp_amt (iv_lw μ) (sp_lt (iv_sc μ) (μ 5) (μ 6) (μ 9) sh i k) (nI 0) 99 = nI n from en], fun o ho ho2 => by rw [r2 o ho2, ro_arr_ne _ _ ho], hn, fun _ j hj => ?_⟩
          rw [r2 _ (by omega), ro_arr_same]
          exact hg j hj
        · rw [if_neg c4, if_neg (fun h => c4 h.2.2.2)]
          exact ⟨μ, rfl, fun _ _ _ => rfl, by omega, fun h => absurd h (by omega)⟩
  · rw [if_neg c1, if_pos rfl, if_neg (fun h => c1 h.1)]
    exact ⟨μ, rfl, fun _ _ _ => rfl, by omega, fun h => absurd h (by omega)⟩
