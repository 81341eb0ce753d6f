-- ===== the first clause that holds =====
theorem rt_findM {E : Type} {b : ((Int32 × ro_Mem) → Option E) → (Int32 × ro_Mem) → Option E} (p : Nat → Bool) (N : Nat) (R : ro_Mem → Prop) (e1 : Nat → ro_Mem → E) (e0 : ro_Mem → E) (hs : ∀ i, i < N → ∀ rec m, R m → ∃ m', R m' ∧ b rec (nI i, m) = if p i = true then some (e1 i m') else rec (nI (i + 1), m')) (he : ∀ rec m, R m → b rec (nI N, m) = some (e0 m)) (fuel : Nat) (hf : N < fuel) (m : ro_Mem) (hR : R m) : ∃ m', R m' ∧ ro_loop b fuel (nI 0, m) = some (match sp_first p N 0 with
  | none => e0 m'
  | some i => e1 i m') := by
  have key : ∀ k i fuel m, i + k = N → k < fuel → R m → ∃ m', R m' ∧ ro_loop b fuel (nI i, m) = some (match sp_first p k i with
    | none => e0 m'
    | some i => e1 i m') := by
    intro k
    induction k with
    | zero =>
      intro i fuel m hi hf hm
      cases fuel with
      | zero => omega
      | succ f =>
        have : i = N := by omega
        subst this
        exact ⟨m, hm, he _ m hm⟩
    | succ k ih =>
      intro i fuel m hi hf hm
      cases fuel with
      | zero => omega
      | succ f =>
        obtain ⟨m', hm', e⟩ := hs i (by omega) (ro_loop b f) m hm
        have e : ro_loop b (f + 1) (nI i, m) = _ := e
        rw [e]
        unfold sp_first
        by_cases hp : p i = true
        · rw [if_pos hp, if_pos hp]
          exact ⟨m', hm', rfl⟩
        · rw [if_neg hp, if_neg hp]
          exact ih (i + 1) f m' (by omega) (by omega) hm'
  exact key N 0 fuel m (by omega) hf hR
theorem sp_ev_cg {op ar lt lt' : Nat → Int32} {to : Nat} (h : ∀ j, j < 12 → lt' j = lt j) : ∀ n k st, sp_ev op ar lt' to n k st = sp_ev op ar lt to n k st := by
  intro n
  induction n with
  | zero => intro k st; rfl
  | succ n ih =>
    intro k st
    rw [sp_ev_s, sp_ev_s]
    by_cases c1 : k < to ∧ k < 200
    · rw [if_pos c1, if_pos c1]
      by_cases c2 : op k = 8 ∨ op k = 9
      · rw [if_pos c2, if_pos c2]
        by_cases c3 : 32 ≤ st.length ∨ (op k = 9 ∧ ¬ ro_in (ar k) 12)
        · rw [if_pos c3, if_pos c3]
        · rw [if_neg c3, if_neg c3, ih]
          by_cases c4 : op k = 8
          · rw [if_pos c4, if_pos c4]
          · rw [if_neg c4, if_neg c4]
            have c5 : op k = 9 := c2.resolve_left c4
            have c6 : ro_in (ar k) 12 := Decidable.byContradiction (fun q => c3 (Or.inr ⟨c5, q⟩))
            rw [h _ c6.2]
      · rw [if_neg c2, if_neg c2]
        by_cases c3 : op k < 10
        · rw [if_pos c3, if_pos c3]
          match st with
          | [] => rfl
          | [_] => rfl
          | b :: a :: r => simp only [ih]
        · rw [if_neg c3, if_neg c3]
          match st with
          | [] => rfl
          | y :: r => simp only [ih]
    · rw [if_neg c1, if_neg c1]
theorem sp_which_cg {W : Nat → Nat → Int32} {lt lt' : Nat → Int32} {kind : Int32} (h : ∀ j, j < 12 → lt' j = lt j) : sp_which W lt' kind = sp_which W lt kind := by
  unfold sp_which
  refine sp_first_congr (fun c _ _ => ?_)
  unfold sp_hold
  rw [sp_ev_cg h]
theorem sp_amt_cg {W : Nat → Nat → Int32} {lt lt' : Nat → Int32} {kind most : Int32} (h : ∀ j, j < 12 → lt' j = lt j) : sp_amt W lt' kind most = sp_amt W lt kind most := by
  unfold sp_amt
  rw [sp_which_cg h]
  cases sp_which W lt kind with
  | none => rfl
  | some c =>
    show ro_mx 0 (ro_mn most (sp_ev _ _ lt' _ _ _ _)) = ro_mx 0 (ro_mn most (sp_ev _ _ lt _ _ _ _))
    rw [sp_ev_cg h]
theorem sp_any_cg {W : Nat → Nat → Int32} {lt lt' : Nat → Int32} {kind : Int32} (h : ∀ j, j < 12 → lt' j = lt j) : sp_any W lt' kind = sp_any W lt kind := by
  unfold sp_any
  rw [sp_which_cg h]
/-- a clause of a law that is in order, as class and reference hold it -/
theorem iv_W.clause {W M : Nat → Nat → Int32} {cl : Int32} (h : iv_W W M cl) : ∃ C, C ≤ 14 ∧ W 0 3 = nI C ∧ cl = nI C ∧ ∀ c, c < C → ∃ kd a h e, kd < 4 ∧ a ≤ h ∧ h < e ∧ e ≤ 200 ∧ W 3 c = nI kd ∧ W 4 c = nI a ∧ W 5 c = nI h ∧ W 6 c = nI e ∧ M 0 c = nI (iv_let kd) ∧ M 1 c = nI a ∧ M 2 c = nI h ∧ M 3 c = nI e ∧
    (∀ k w v, a ≤ k → k < e → W 1 k = nI w → W 2 k = nI v → w ≤ 12 → v < 1048576 → M 4 k = nI (1048576 * iv_mop w + v)) ∧ cd_ok (W 1) (W 2) h e ∧ (∃ n, sg_C (W 1) (W 2) n h e) ∧ (¬ kd = 1 → cd_ok (W 1) (W 2) a h ∧ ∃ n, sg_E (W 1) (W 2) n 32 a h) := by
  obtain ⟨hcl, C, hC, hWC, hc⟩ := h
  refine ⟨C, hC, hWC, by rw [hcl, hWC], fun c hcC => ?_⟩
  obtain ⟨kd, a, h, e, h1, h2, h3, h4, w3, w4, w5, w6, m0, m1, m2, m3, hcode, hE, n, hCc⟩ := hc c hcC
  refine ⟨kd, a, h, e, h1, h2, h3, h4, w3, w4, w5, w6, m0, m1, m2, m3, ?_, ?_, ⟨n, hCc⟩, ?_⟩
  · intro k w v hk hk2 ew ev hw hv
    obtain ⟨w', v', hw', hv', ew', ev', em⟩ := hcode k hk hk2
    rw [ew] at ew'
    rw [ev] at ev'
    have := (nI_eq (by omega) (by omega)).mp ew'
    have := (nI_eq (by omega) (by omega)).mp ev'
    subst_vars
    exact em
  · intro k hk hk2
    obtain ⟨w, v, hw, hv, ew, ev, em⟩ := hcode k (by omega) hk2
    refine ⟨w, v, hw, hv, ew, ev, fun h11 => ?_⟩
    have ho : W 1 k = 11 ∨ W 1 k = 12 := by
      rw [ew]
      have : w = 11 ∨ w = 12 := by omega
      rcases this with rfl | rfl
      · exact Or.inl rfl
      · exact Or.inr rfl
    obtain ⟨v', e1, e2, e3⟩ := sg_C_j hCc k hk hk2 ho
    rw [ev] at e1
    have := (nI_eq (by omega) (by omega)).mp e1
    omega
  · intro hk1
    obtain ⟨n, hEE⟩ := hE hk1
    refine ⟨fun k hk hk2 => ?_, n, hEE⟩
    obtain ⟨w, v, hw, hv, ew, ev, em⟩ := hcode k hk (by omega)
    refine ⟨w, v, hw, hv, ew, ev, fun h11 => ?_⟩
    have ho := sg_E_no hEE k hk hk2
    have : w = 11 ∨ w = 12 := by omega
    rcases this with rfl | rfl
    · exact absurd ew ho.1
    · exact absurd ew ho.2
theorem rt_whichC {o0 : Nat} {μ : ro_Mem} {W M : Nat → Nat → Int32} {cl kind : Int32} (hW : iv_W W M cl) (hj : ∀ j, j ≤ 6 → W j = μ (o0 + j)) {m : ro_Mem} (hm : ∀ o, ¬ o = o0 + 8 → m o = μ o) {c C : Nat} (hC : W 0 3 = nI C) (hc : c < C) (hC14 : C ≤ 14) : ∃ m', (∀ o, ¬ o = o0 + 8 → m' o = μ o) ∧ fn_X2_run o0 (m (o0 + 5) c) (m (o0 + 6) c) m = some (sp_ev (W 1) (W 2) (μ (o0 + 7)) (W 6 c).toNatClampNeg 200 (W 5 c).toNatClampNeg [], m') := by
  obtain ⟨C', hC', e1, -, hcl⟩ := hW.clause
  have : C = C' := by rw [hC] at e1; exact (nI_eq (by omega) (by omega)).mp e1
  subst this
  obtain ⟨kd, a, h, e, h1, h2, h3, h4, w3, w4, w5, w6, -, -, -, -, -, hcd, -, -⟩ := hcl c hc
  have q5 : m (o0 + 5) c = nI h := by rw [hm _ (by omega), ← hj 5 (by decide), w5]
  have q6 : m (o0 + 6) c = nI e := by rw [hm _ (by omega), ← hj 6 (by decide), w6]
  have q1 : m (o0 + 1) = W 1 := by rw [hm _ (by omega), ← hj 1 (by decide)]
  have q2 : m (o0 + 2) = W 2 := by rw [hm _ (by omega), ← hj 2 (by decide)]
  have q7 : m (o0 + 7) = μ (o0 + 7) := hm _ (by omega)
  obtain ⟨m', r1, r2⟩ := rt_run (o0 := o0) (lo := h) (to := e) (μ := m) h4 (by rw [q1, q2]; exact hcd) (by omega)
  refine ⟨m', fun o ho => by rw [r2 o ho, hm o ho], ?_⟩
  rw [q5, q6, r1, q1, q2, q7, w5, w6, nI_clamp (by omega), nI_clamp (by omega)]
theorem rt_amount {o0 : Nat} {μ : ro_Mem} {W M : Nat → Nat → Int32} {cl most : Int32} {kind : Nat} (hk : ¬ kind = 1) (hk4 : kind < 4) (hW : iv_W W M cl) (hj : ∀ j, j ≤ 6 → W j = μ (o0 + j)) : ∃ m', fn_X2_amount o0 (nI kind) most μ = some (sp_amt W (μ (o0 + 7)) (nI kind) most, m') ∧ ∀ o, ¬ o = o0 + 8 → m' o = μ o := by
  obtain ⟨C, hC, hWC, -, hcl⟩ := hW.clause
  have hC3 : μ o0 3 = nI C := by rw [← hWC, hj 0 (by decide)]; rfl
  have hloop : ∃ m', (∀ o, ¬ o = o0 + 8 → m' o = μ o) ∧ fl_X2_amount_2 o0 (nI kind) most (0, μ) = some (match sp_which W (μ (o0 + 7)) (nI kind) with
    | none => .inr m'
    | some c => .inl (nI c, m')) := by
    unfold fl_X2_amount_2
    have hN : (W 0 3).toNatClampNeg = C := by rw [hWC, nI_clamp (by omega)]
    unfold sp_which
    rw [hN]
    refine rt_findM (fun c => decide (W 3 c = nI kind) && sp_hold W (μ (o0 + 7)) c) C (fun m => ∀ o, ¬ o = o0 + 8 → m o = μ o) (fun c m => (Sum.inl (nI c, m) : (Int32 × ro_Mem) ⊕ ro_Mem)) (fun m => Sum.inr m) ?_ ?_ ro_FU (Nat.lt_of_le_of_lt hC (by decide)) μ (fun _ _ => rfl)
    · intro c hc rec m hm
      show ∃ m', _ ∧ fb_X2_amount_2 o0 (nI kind) most rec (nI c) m = _
      have a1 : m o0 3 = nI C := by rw [hm _ (by omega), hC3]
      have a2 : m (o0 + 3) c = W 3 c := by rw [hm _ (by omega), ← hj 3 (by decide)]
      obtain ⟨m', g1, g2⟩ := rt_whichC hW hj hm hWC hc hC (kind := nI kind)
      unfold fb_X2_amount_2
      rw [a1, if_neg (nI_ge hc (by omega)), if_pos (rt_in (n := 14) (by omega) (by decide)), nI_clamp (by omega), a2]
      by_cases hkd : W 3 c = nI kind
      · rw [if_pos hkd, decide_eq_true hkd, Bool.true_and]
        refine ⟨m', g1, ?_⟩
        rw [g2, Option.bind_some]
        unfold sp_hold
        by_cases hz : sp_ev (W 1) (W 2) (μ (o0 + 7)) (W 6 c).toNatClampNeg 200 (W 5 c).toNatClampNeg [] = 0
        · rw [if_pos hz, if_neg (by simp [hz]), nI_1]
        · rw [if_neg hz, if_pos (by simp [hz])]
      · refine ⟨m, hm, ?_⟩
        rw [if_neg hkd, decide_eq_false hkd, Bool.false_and, if_neg (by decide), nI_1]
    · intro rec m hm
      show fb_X2_amount_2 o0 (nI kind) most rec (nI C) m = _
      unfold fb_X2_amount_2
      have a1 : m o0 3 = nI C := by rw [hm _ (by omega), hC3]
      rw [a1, if_pos (Int32.le_refl _)]
  obtain ⟨m1, hm1, hl⟩ := hloop
  unfold fn_X2_amount
  rw [hl, Option.bind_some]
  unfold sp_amt
  cases hw : sp_which W (μ (o0 + 7)) (nI kind) with
  | none => exact ⟨m1, rfl, hm1⟩
  | some c =>
    unfold sp_which at hw
    obtain ⟨-, hc2, hp, -⟩ := sp_first_some hw
    rw [hWC, nI_clamp (by omega)] at hc2
    obtain ⟨kd, a, h, e, h1, h2, h3, h4, w3, w4, w5, w6, -, -, -, -, -, -, -, hE⟩ := hcl c (by omega)
    have hkd : kd = kind := by
      have := (Bool.and_eq_true_iff.mp hp).1
      have := of_decide_eq_true this
      rw [w3] at this
      exact (nI_eq (by omega) (by omega)).mp this
    subst hkd
    obtain ⟨hcd, n, hEE⟩ := hE hk
    show ∃ m', (if ro_in (nI c) 14 then _ else none) = _ ∧ _
    have q4 : m1 (o0 + 4) c = nI a := by rw [hm1 _ (by omega), ← hj 4 (by decide), w4]
    have q5 : m1 (o0 + 5) c = nI h := by rw [hm1 _ (by omega), ← hj 5 (by decide), w5]
    have q1 : m1 (o0 + 1) = W 1 := by rw [hm1 _ (by omega), ← hj 1 (by decide)]
    have q2 : m1 (o0 + 2) = W 2 := by rw [hm1 _ (by omega), ← hj 2 (by decide)]
    have q7 : m1 (o0 + 7) = μ (o0 + 7) := hm1 _ (by omega)
    obtain ⟨m', r1, r2⟩ := rt_run (o0 := o0) (lo := a) (to := h) (μ := m1) (by omega) (by rw [q1, q2]; exact hcd) (by omega)
    refine ⟨m', ?_, fun o ho => by rw [r2 o ho, hm1 o ho]⟩
    rw [if_pos (rt_in (n := 14) (by omega) (by decide))]
    simp only []
    rw [nI_clamp (show c < 2 ^ 31 by omega), q4, q5, r1, Option.bind_some, q1, q2, q7, w5, w4, nI_clamp (show h < 2 ^ 31 by omega), nI_clamp (show a < 2 ^ 31 by omega)]
theorem rt_any {o0 : Nat} {μ : ro_Mem} {W M : Nat → Nat → Int32} {cl : Int32} (hW : iv_W W M cl) (hj : ∀ j, j ≤ 6 → W j = μ (o0 + j)) : ∃ m', fn_X2_isAnyHolding o0 1 μ = some (if sp_any W (μ (o0 + 7)) 1 = true then 1 else 0, m') ∧ ∀ o, ¬ o = o0 + 8 → m' o = μ o := by
  obtain ⟨C, hC, hWC, -, hcl⟩ := hW.clause
  have hC3 : μ o0 3 = nI C := by rw [← hWC, hj 0 (by decide)]; rfl
  have hloop : ∃ m', (∀ o, ¬ o = o0 + 8 → m' o = μ o) ∧ fl_X2_isAnyHolding_2 o0 1 (0, μ) = some (match sp_which W (μ (o0 + 7)) 1 with
    | none => .inr m'
    | some c => .inl m') := by
    unfold fl_X2_isAnyHolding_2
    have hN : (W 0 3).toNatClampNeg = C := by rw [hWC, nI_clamp (by omega)]
    unfold sp_which
    rw [hN]
    refine rt_findM (fun c => decide (W 3 c = 1) && sp_hold W (μ (o0 + 7)) c) C (fun m => ∀ o, ¬ o = o0 + 8 → m o = μ o) (fun c m => (Sum.inl m : ro_Mem ⊕ ro_Mem)) (fun m => Sum.inr m) ?_ ?_ ro_FU (Nat.lt_of_le_of_lt hC (by decide)) μ (fun _ _ => rfl)
    · intro c hc rec m hm
      show ∃ m', _ ∧ fb_X2_isAnyHolding_2 o0 1 rec (nI c) m = _
      have a1 : m o0 3 = nI C := by rw [hm _ (by omega), hC3]
      have a2 : m (o0 + 3) c = W 3 c := by rw [hm _ (by omega), ← hj 3 (by decide)]
      obtain ⟨m', g1, g2⟩ := rt_whichC hW hj hm hWC hc hC (kind := 1)
      unfold fb_X2_isAnyHolding_2
      rw [a1, if_neg (nI_ge hc (by omega)), if_pos (rt_in (n := 14) (by omega) (by decide)), nI_clamp (by omega), a2]
      by_cases hkd : W 3 c = 1
      · rw [if_pos hkd, decide_eq_true hkd, Bool.true_and]
        refine ⟨m', g1, ?_⟩
        rw [g2, Option.bind_some]
        unfold sp_hold
        by_cases hz : sp_ev (W 1) (W 2) (μ (o0 + 7)) (W 6 c).toNatClampNeg 200 (W 5 c).toNatClampNeg [] = 0
        · rw [if_pos hz, if_neg (by simp [hz]), nI_1]
        · rw [if_neg hz, if_pos (by simp [hz])]
      · refine ⟨m, hm, ?_⟩
        rw [if_neg hkd, decide_eq_false hkd, Bool.false_and, if_neg (by decide), nI_1]
    · intro rec m hm
      show fb_X2_isAnyHolding_2 o0 1 rec (nI C) m = _
      unfold fb_X2_isAnyHolding_2
      have a1 : m o0 3 = nI C := by rw [hm _ (by omega), hC3]
      rw [a1, if_pos (Int32.le_refl _)]
  obtain ⟨m1, hm1, hl⟩ := hloop
  unfold fn_X2_isAnyHolding
  rw [hl, Option.bind_some]
  unfold sp_any
  cases sp_which W (μ (o0 + 7)) 1 with
  | none => exact ⟨m1, rfl, hm1⟩
  | some c => exact ⟨m1, rfl, hm1⟩
-- ===== the same, by the reference =====
theorem iv_let_eq {a b : Nat} (ha : a < 4) (hb : b < 4) : (nI (iv_let a) = nI (iv_let b)) = (nI a = nI b) := by
  have h : ∀ a, a < 4 → ∀ b, b < 4 → ((nI (iv_let a) = nI (iv_let b)) ↔ (nI a = nI b)) := by decide
  exact propext (h a ha b hb)
theorem rt_mw {μ : ro_Mem} : iv_mw μ 0 = μ 235 ∧ iv_mw μ 1 = μ 236 ∧ iv_mw μ 2 = μ 237 ∧ iv_mw μ 3 = μ 238 ∧ iv_mw μ 4 = μ 234 := ⟨rfl, rfl, rfl, rfl, rfl⟩
theorem rt_whichM {μ : ro_Mem} {W : Nat → Nat → Int32} {lt : Nat → Int32} (hW : iv_W W (iv_mw μ) (μ 207 38)) (hlt : μ 240 = lt) {m : ro_Mem} (hm : ∀ o, ¬ o = 239 → m o = μ o) {c C : Nat} (hC : W 0 3 = nI C) (hc : c < C) (hC14 : C ≤ 14) : (∃ m', (∀ o, ¬ o = 239 → m' o = μ o) ∧ fn_X12_comesTo (m 237 c) (m 238 c) m = some (sp_ev (W 1) (W 2) lt (W 6 c).toNatClampNeg 200 (W 5 c).toNatClampNeg [], m')) ∧ (sp_ev (W 1) (W 2) lt (W 6 c).toNatClampNeg 200 (W 5 c).toNatClampNeg [] = 0 ∨ sp_ev (W 1) (W 2) lt (W 6 c).toNatClampNeg 200 (W 5 c).toNatClampNeg [] = 1) := by
  obtain ⟨C', hC', e1, -, hcl⟩ := hW.clause
  have : C = C' := by rw [hC] at e1; exact (nI_eq (by omega) (by omega)).mp e1
  subst this
  obtain ⟨kd, a, h, e, h1, h2, h3, h4, w3, w4, w5, w6, -, -, m2, m3, hcm, hcd, ⟨n, hCc⟩, -⟩ := hcl c hc
  obtain ⟨r0, r1, r2, r3, r4⟩ := rt_mw (μ := μ)
  have q5 : m 237 c = nI h := by rw [hm _ (by omega), ← r2, m2]
  have q6 : m 238 c = nI e := by rw [hm _ (by omega), ← r3, m3]
  obtain ⟨f1, f2⟩ := sg_C_fin (lt := lt) hCc h4
  rw [w5, w6, nI_clamp (show h < 2 ^ 31 by omega), nI_clamp (show e < 2 ^ 31 by omega)]
  refine ⟨?_, f2⟩
  obtain ⟨m', g1, g2⟩ := rt_comesTo (μ := m) (lo := h) (to := e) (op := W 1) (ar := W 2) (lt := lt) (fun k w v a1 a2 a3 a4 a5 a6 => by rw [hm _ (by omega), ← r4]; exact hcm k w v (by omega) a2 a3 a4 a5 a6) (by rw [hm _ (by omega), hlt]) h4 (by omega) hcd f1
  exact ⟨m', fun o ho => by rw [g2 o ho, hm o ho], by rw [q5, q6, g1]⟩
theorem rt_byLaw {μ : ro_Mem} {W : Nat → Nat → Int32} {lt : Nat → Int32} {kind most : Nat} (hk : ¬ kind = 1) (hk4 : kind < 4) (hmost : most < 2 ^ 30) (hW : iv_W W (iv_mw μ) (μ 207 38)) (hlt : μ 240 = lt) : ∃ m', fn_X12_byLaw (nI (iv_let kind)) (nI most) μ = some (sp_amt W lt (nI kind) (nI most), m') ∧ ∀ o, ¬ o = 239 → m' o = μ o := by
  obtain ⟨C, hC, hWC, hclC, hcl⟩ := hW.clause
  obtain ⟨r0, r1, r2, r3, r4⟩ := rt_mw (μ := μ)
  have hloop : ∃ m', (∀ o, ¬ o = 239 → m' o = μ o) ∧ fl_X12_byLaw_2 (nI (iv_let kind)) (nI most) (0, μ) = some (match sp_which W lt (nI kind) with
    | none => .inr m'
    | some c => .inl (nI c, m')) := by
    unfold fl_X12_byLaw_2
    have hN : (W 0 3).toNatClampNeg = C := by rw [hWC, nI_clamp (by omega)]
    unfold sp_which
    rw [hN]
    refine rt_findM (fun c => decide (W 3 c = nI kind) && sp_hold W lt c) C (fun m => ∀ o, ¬ o = 239 → m o = μ o) (fun c m => (Sum.inl (nI c, m) : (Int32 × ro_Mem) ⊕ ro_Mem)) (fun m => Sum.inr m) ?_ ?_ ro_FU (Nat.lt_of_le_of_lt hC (by decide)) μ (fun _ _ => rfl)
    · intro c hc rec m hm
      show ∃ m', _ ∧ fb_X12_byLaw_2 (nI (iv_let kind)) (nI most) rec (nI c) m = _
      obtain ⟨kd, a, h, e, h1, h2, h3, h4, w3, w4, w5, w6, m0, -⟩ := hcl c hc
      have a1 : m 207 38 = nI C := by rw [hm _ (by omega), hclC]
      have a2 : m 235 c = nI (iv_let kd) := by rw [hm _ (by omega), ← r0, m0]
      obtain ⟨⟨m', g1, g2⟩, g3⟩ := rt_whichM hW hlt hm hWC hc hC
      unfold fb_X12_byLaw_2
      rw [a1, if_neg (nI_ge hc (by omega)), if_pos (rt_in (n := 14) (by omega) (by decide)), nI_clamp (by omega), a2]
      have elet := iv_let_eq h1 hk4
      by_cases hkd : nI kd = nI kind
      · have hkd' : W 3 c = nI kind := by rw [w3, hkd]
        rw [if_pos (elet ▸ hkd), decide_eq_true hkd', Bool.true_and]
        refine ⟨m', g1, ?_⟩
        rw [g2, Option.bind_some]
        unfold sp_hold
        rcases g3 with g3 | g3
        · rw [g3, if_neg (show ¬ (0 : Int32) = 1 by decide), if_neg (by simp), nI_1]
        · rw [g3, if_pos rfl, if_pos (by decide)]
      · have hkd' : ¬ W 3 c = nI kind := by rw [w3]; exact hkd
        refine ⟨m, hm, ?_⟩
        rw [if_neg (elet ▸ hkd), decide_eq_false hkd', Bool.false_and, if_neg (by decide), nI_1]
    · intro rec m hm
      show fb_X12_byLaw_2 (nI (iv_let kind)) (nI most) rec (nI C) m = _
      unfold fb_X12_byLaw_2
      have a1 : m 207 38 = nI C := by rw [hm _ (by omega), hclC]
      rw [a1, if_pos (Int32.le_refl _)]
  obtain ⟨m1, hm1, hl⟩ := hloop
  unfold fn_X12_byLaw
  rw [hl, Option.bind_some]
  unfold sp_amt
  cases hw : sp_which W lt (nI kind) with
  | none => exact ⟨m1, rfl, hm1⟩
  | some c =>
    unfold sp_which at hw
    obtain ⟨-, hc2, hp, -⟩ := sp_first_some hw
    rw [hWC, nI_clamp (by omega)] at hc2
    obtain ⟨kd, a, h, e, h1, h2, h3, h4, w3, w4, w5, w6, -, m1', m2', -, hcm, -, -, hE⟩ := hcl c (by omega)
    have hkd : kd = kind := by
      have := (Bool.and_eq_true_iff.mp hp).1
      have := of_decide_eq_true this
      rw [w3] at this
      exact (nI_eq (by omega) (by omega)).mp this
    subst hkd
    obtain ⟨hcd, n, hEE⟩ := hE hk
    show ∃ m', (if ro_in (nI c) 14 then _ else none) = _ ∧ _
    have q4 : m1 236 c = nI a := by rw [hm1 _ (by omega), ← r1, m1']
    have q5 : m1 237 c = nI h := by rw [hm1 _ (by omega), ← r2, m2']
    have f1 := sg_E_fin (lt := lt) hEE (by omega)
    obtain ⟨m', g1, g2⟩ := rt_comesTo (μ := m1) (lo := a) (to := h) (op := W 1) (ar := W 2) (lt := lt) (fun k w v a1 a2 a3 a4 a5 a6 => by rw [hm1 _ (by omega), ← r4]; exact hcm k w v (by omega) (by omega) a3 a4 a5 a6) (by rw [hm1 _ (by omega), hlt]) (by omega) (by omega) hcd f1
    refine ⟨m', ?_, fun o ho => by rw [g2 o ho, hm1 o ho]⟩
    rw [if_pos (rt_in (n := 14) (by omega) (by decide))]
    simp only []
    rw [nI_clamp (show c < 2 ^ 31 by omega), q4, q5, g1, Option.bind_some, w5, w4, nI_clamp (show h < 2 ^ 31 by omega), nI_clamp (show a < 2 ^ 31 by omega)]
    generalize sp_ev (W 1) (W 2) lt h 200 a [] = x
    simp only []
    have hm0 : ¬ nI most < 0 := nI_pos (by omega)
    by_cases c1 : (0 : Int32) ≤ x
    · rw [if_pos c1]
      by_cases c2 : x ≤ nI most
      · rw [if_pos c2]
        congr 2
        unfold ro_mn ro_mx
        by_cases c3 : x < nI most
        · rw [if_pos c3]
          by_cases c4 : (0 : Int32) < x
          · rw [if_pos c4]
          · rw [if_neg c4]
            exact (Int32.le_antisymm c1 (Int32.not_lt.mp c4)).symm
        · rw [if_neg c3]
          have e : x = nI most := Int32.le_antisymm c2 (Int32.not_lt.mp c3)
          rw [e]
          by_cases c4 : (0 : Int32) < nI most
          · rw [if_pos c4]
          · rw [if_neg c4]
            exact Int32.le_antisymm (Int32.not_lt.mp c4) (Int32.not_lt.mp hm0)
      · rw [if_neg c2]
        congr 2
        unfold ro_mn ro_mx
        rw [if_neg (fun q => c2 (Int32.le_of_lt q))]
        by_cases c4 : (0 : Int32) < nI most
        · rw [if_pos c4]
        · rw [if_neg c4]
          exact Int32.le_antisymm (Int32.not_lt.mp c4) (Int32.not_lt.mp hm0)
    · rw [if_neg c1]
      congr 2
      unfold ro_mn ro_mx
      have c1' : x < 0 := Int32.not_le.mp c1
      have : x < nI most := by rw [fa_lt] at *; rw [nI_toInt (by omega)]; have : (0 : Int32).toInt = 0 := by decide
                               omega
      rw [if_pos this, if_neg (fun q => c1 (Int32.le_of_lt q))]
theorem rt_anySnow {μ : ro_Mem} {W : Nat → Nat → Int32} {lt : Nat → Int32} (hW : iv_W W (iv_mw μ) (μ 207 38)) (hlt : μ 240 = lt) : ∃ m', fn_X12_anySnow μ = some (if sp_any W lt 1 = true then 1 else 0, m') ∧ ∀ o, ¬ o = 239 → m' o = μ o := by
  obtain ⟨C, hC, hWC, hclC, hcl⟩ := hW.clause
  obtain ⟨r0, r1, r2, r3, r4⟩ := rt_mw (μ := μ)
  have hloop : ∃ m', (∀ o, ¬ o = 239 → m' o = μ o) ∧ fl_X12_anySnow_2 (0, μ) = some (match sp_which W lt 1 with
    | none => .inr m'
    | some c => .inl m') := by
    unfold fl_X12_anySnow_2
    have hN : (W 0 3).toNatClampNeg = C := by rw [hWC, nI_clamp (by omega)]
    unfold sp_which
    rw [hN]
    refine rt_findM (fun c => decide (W 3 c = 1) && sp_hold W lt c) C (fun m => ∀ o, ¬ o = 239 → m o = μ o) (fun c m => (Sum.inl m : ro_Mem ⊕ ro_Mem)) (fun m => Sum.inr m) ?_ ?_ ro_FU (Nat.lt_of_le_of_lt hC (by decide)) μ (fun _ _ => rfl)
    · intro c hc rec m hm
      show ∃ m', _ ∧ fb_X12_anySnow_2 rec (nI c) m = _
      obtain ⟨kd, a, h, e, h1, h2, h3, h4, w3, w4, w5, w6, m0, -⟩ := hcl c hc
      have a1 : m 207 38 = nI C := by rw [hm _ (by omega), hclC]
      have a2 : m 235 c = nI (iv_let kd) := by rw [hm _ (by omega), ← r0, m0]
      obtain ⟨⟨m', g1, g2⟩, g3⟩ := rt_whichM hW hlt hm hWC hc hC
      have e115 : (nI (iv_let kd) = 115) = (nI kd = 1) := iv_let_eq (b := 1) h1 (by decide)
      unfold fb_X12_anySnow_2
      rw [a1, if_neg (nI_ge hc (by omega)), if_pos (rt_in (n := 14) (by omega) (by decide)), nI_clamp (by omega), a2]
      by_cases hkd : nI kd = 1
      · have hkd' : W 3 c = 1 := by rw [w3, hkd]
        rw [if_pos (e115 ▸ hkd), decide_eq_true hkd', Bool.true_and]
        refine ⟨m', g1, ?_⟩
        rw [g2, Option.bind_some]
        unfold sp_hold
        rcases g3 with g3 | g3
        · rw [g3, if_neg (show ¬ (0 : Int32) = 1 by decide), if_neg (by simp), nI_1]
        · rw [g3, if_pos rfl, if_pos (by decide)]
      · have hkd' : ¬ W 3 c = 1 := by rw [w3]; exact hkd
        refine ⟨m, hm, ?_⟩
        rw [if_neg (e115 ▸ hkd), decide_eq_false hkd', Bool.false_and, if_neg (by decide), nI_1]
    · intro rec m hm
      show fb_X12_anySnow_2 rec (nI C) m = _
      unfold fb_X12_anySnow_2
      have a1 : m 207 38 = nI C := by rw [hm _ (by omega), hclC]
      rw [a1, if_pos (Int32.le_refl _)]
  obtain ⟨m1, hm1, hl⟩ := hloop
  unfold fn_X12_anySnow
  rw [hl, Option.bind_some]
  unfold sp_any
  cases sp_which W lt 1 with
  | none => exact ⟨m1, rfl, hm1⟩
  | some c => exact ⟨m1, rfl, hm1⟩
