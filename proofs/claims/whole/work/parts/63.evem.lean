-- ===== the evening as it would be now (class) =====
def ev_W (μ : ro_Mem) (N a s : Nat) : Nat := sp_wet (ev_D μ 0) (ev_F μ 0) (μ 3) (μ 6) (μ 4) N a s
def ev_N (μ : ro_Mem) (N i : Nat) : Nat := if i < N then sp_bn (ev_D μ 0) (ev_F μ 0) (μ 3) (μ 6) (μ 4) i else 0
def ev_K (μ : ro_Mem) (N k : Nat) : Nat := sp_bs (ev_D μ 0) (ev_F μ 0) (μ 3) (μ 6) (μ 4) N k
/-- m: the class's memory behind refresh -/
def EVC (μ : ro_Mem) (N : Nat) (m : ro_Mem) : Prop :=
  (∀ o, ¬ o = 0 → ¬ o = ro_rf μ 1 2 + 7 → ¬ o = ro_rf μ 1 2 + 8 → ¬ (63 ≤ o ∧ o ≤ 68) → m o = μ o) ∧ (∀ k, ¬ k = 7 → m 0 k = μ 0 k) ∧ m 0 7 = 0 ∧
  (∀ i k, i < N → k < 16 → m 63 (16 * i + k) = nI (ev_D μ 0 i k) ∧ (0 < ev_D μ 0 i k → m 64 (16 * i + k) = nI (ev_F μ 0 i k))) ∧
  (∀ a s, a < 4 → s < 96 → m 65 (96 * a + s) = nI (ev_W μ N a s)) ∧ Nt (ev_N μ N) 32 (m 66) ∧ Nt (ev_K μ N) 16 (m 67)
theorem EVC.fr {μ m : ro_Mem} {N : Nat} (hw : Wd μ N) (h : EVC μ N m) : Fr μ m := by
  obtain ⟨hs, hL⟩ := cg_rf hw.2.1
  refine ⟨fun o ho => ?_, h.2.1, fun k _ => by rw [h.1 207 (by omega) (by omega) (by omega) (by omega)]⟩
  unfold fr_id at ho
  exact h.1 o (by omega) (by omega) (by omega) (by omega)
theorem EVC.eve {μ m : ro_Mem} {N : Nat} (hw : Wd μ N) (h : EVC μ N m) : iv_eve m := by
  have hf := h.fr hw
  obtain ⟨e1, e2, e3, e4⟩ := hf.eve hw.2.1
  obtain ⟨f, f2, f3⟩ := hf
  obtain ⟨-, -, -, h4, h5, h6, h7⟩ := h
  unfold iv_eve
  rw [e1, e2, f 2 (by unfold fr_id; omega), f 3 (by unfold fr_id; omega), f 4 (by unfold fr_id; omega), f 5 (by unfold fr_id; omega), f 6 (by unfold fr_id; omega), f 7 (by unfold fr_id; omega), f 8 (by unfold fr_id; omega), f 9 (by unfold fr_id; omega)]
  refine ⟨N, ?_, hw.2.2.2.2.2, h4, h5, h6, h7⟩
  have := hw.2.2.2.2.1
  unfold iv_sc
  exact this
theorem rt_refresh {μ : ro_Mem} {N : Nat} (hI : Inv μ) (hw : Wd μ N) : ∃ m, fn_X11_refresh μ = some m ∧ EVC μ N m := by
  unfold fn_X11_refresh
  obtain ⟨hs, hL⟩ := cg_rf hw.2.1
  rcases hI.2.2.2.2.2.2.1 with h7 | ⟨h7, he⟩
  · rw [h7, if_neg rt_10]
    obtain ⟨m1, p1, p2⟩ := rt_pour hw
    rw [p1, Option.bind_some]
    have hC : CP μ N m1 := ⟨fun o h1 h2 h3 => p2.1 o h1 h2 (by omega) (by omega), p2.2⟩
    obtain ⟨m2, q1, q2, q3⟩ := rt_play hw hC
    rw [q1, Option.bind_some, ro_lt]
    refine ⟨_, rfl, fun o h0 h1 h2 h3 => by rw [ro_set_ne _ _ _ h0]; exact q2.1 o h1 h2 h3, fun k hk => ?_, ?_, fun i k hi hk => ?_, fun a s ha hs => ?_, ?_, ?_⟩
    · rw [ro_set_same, pk_un hk, q2.1 0 (by omega) (by omega) (by omega)]
    · rw [ro_set_same, pk_us]
    · rw [ro_set_ne _ _ _ (show ¬ 63 = 0 by decide), ro_set_ne _ _ _ (show ¬ 64 = 0 by decide)]
      have := q2.2 (16 * i + k) (by omega)
      rwa [show (16 * i + k) / 16 = i by omega, show (16 * i + k) % 16 = k by omega] at this
    · rw [ro_set_ne _ _ _ (show ¬ 65 = 0 by decide), q3.1 a s ha hs, if_pos ha]
      rfl
    · rw [ro_set_ne _ _ _ (show ¬ 66 = 0 by decide)]
      exact q3.2.1.cg (fun i _ => ev_BN_4.symm)
    · rw [ro_set_ne _ _ _ (show ¬ 67 = 0 by decide)]
      exact q3.2.2.cg (fun k hk => (ev_BS_4 hk hw.2.2.2.2.2).symm)
  · rw [h7, if_pos rfl]
    obtain ⟨N', e1, e2, e3, e4, e5, e6⟩ := he
    have : N = N' := by
      have h5 := hw.2.2.2.2.1
      have h0 : iv_sc μ 0 = μ (ro_rf μ 1 1) := by unfold iv_sc; rw [if_pos (by decide)]; rfl
      rw [h0, h5] at e1
      exact (nI_eq (by have := hw.2.2.2.2.2; omega) (by omega)).mp e1
    subst this
    exact ⟨μ, rfl, fun _ _ _ _ _ => rfl, fun _ _ => rfl, h7, e3, e4, e5, e6⟩
-- ===== the evening, by the reference =====
def MP (μ : ro_Mem) (N : Nat) (m : ro_Mem) : Prop := (∀ o, ¬ (239 ≤ o ∧ o ≤ 246) → m o = μ o) ∧ ∀ t, t < 16 * N → m 241 t = nI (ev_D μ 0 (t / 16) (t % 16)) ∧ m 242 t = if 0 < ev_D μ 0 (t / 16) (t % 16) ∧ ev_S μ 0 (t / 16) (t % 16) = true then 1 else 0
theorem MP.put {μ m m' : ro_Mem} {N : Nat} (h : MP μ N m) (h' : ∀ o, ¬ o = 243 → ¬ o = 244 → ¬ o = 245 → ¬ o = 246 → m' o = m o) : MP μ N m' := by
  refine ⟨fun o h1 => by rw [h' o (by omega) (by omega) (by omega) (by omega)]; exact h.1 o h1, fun t ht => ?_⟩
  rw [h' 241 (by decide) (by decide) (by decide) (by decide), h' 242 (by decide) (by decide) (by decide) (by decide)]
  exact h.2 t ht
/-- one pass over the notes: tt says up to where the act has gone -/
theorem rt_fallsOf {μ m : ro_Mem} {N a : Nat} (hw : Wd μ N) (ha : a < 4) {v2 v3 : Int32} (tt : Nat → Nat) (hC : MP μ N m) (hS : ev_St μ N a (tt 0) (m 244) (m 245) (m 246) (m 243))
    (hst : ∀ i k, i < N → k < 16 → ((nI (nt_ μ 5 i) = v2 ∧ 0 < ev_D μ 0 i k ∧ (if ev_S μ 0 i k = true then (1 : Int32) else 0) = v3) → ev_F μ 0 i k = a ∧ tt (16 * i + k) = 16 * i + k ∧ tt (16 * i + k + 1) = 16 * i + k + 1) ∧
      (¬ (nI (nt_ μ 5 i) = v2 ∧ 0 < ev_D μ 0 i k ∧ (if ev_S μ 0 i k = true then (1 : Int32) else 0) = v3) → tt (16 * i + k + 1) = tt (16 * i + k) ∨ (tt (16 * i + k) = 16 * i + k ∧ tt (16 * i + k + 1) = 16 * i + k + 1 ∧ ¬ (0 < ev_D μ 0 i k ∧ ev_F μ 0 i k = a)))) :
    ∃ m', fn_X12_fallsOf (nI a) v2 v3 m = some m' ∧ MP μ N m' ∧ ev_St μ N a (tt (16 * N)) (m' 244) (m' 245) (m' 246) (m' 243) := by
  have hn : μ 207 18 = nI N := hw.notes.1
  have hn2 : N ≤ 32 := hw.2.2.2.2.2
  have hl : ∃ m', (MP μ N m' ∧ ev_St μ N a (tt (16 * N)) (m' 244) (m' 245) (m' 246) (m' 243)) ∧ fl_X12_fallsOf_3 (nI a) v2 v3 (0, m) = some m' := by
    unfold fl_X12_fallsOf_3
    refine rt_cnt (fun i m => (nI i, m)) (fun m => m) N (fun i m => MP μ N m ∧ ev_St μ N a (tt (16 * i)) (m 244) (m 245) (m 246) (m 243)) ?_ ?_ ro_FU (Nat.lt_of_le_of_lt hn2 (by decide)) m ⟨hC, hS⟩
    · intro i hi rec m hP
      obtain ⟨hC, hS⟩ := hP
      show ∃ m', _ ∧ fb_X12_fallsOf_3 (nI a) v2 v3 rec (nI i) m = rec (nI (i + 1), m')
      unfold fb_X12_fallsOf_3
      have a1 : m 207 18 = nI N := by rw [hC.1 207 (by omega)]; exact hn
      rw [a1, if_neg (nI_ge hi (by omega))]
      obtain ⟨hnt, -, -, -, hac⟩ := hw.nt hi
      have hin : ∃ m', (MP μ N m' ∧ ev_St μ N a (tt (16 * i + 16)) (m' 244) (m' 245) (m' 246) (m' 243)) ∧ fl_X12_fallsOf_15 (nI a) v2 v3 (nI i) (0, m) = some m' := by
        unfold fl_X12_fallsOf_15
        refine rt_cnt (fun k m => (nI k, m)) (fun m => m) 16 (fun k m => MP μ N m ∧ ev_St μ N a (tt (16 * i + k)) (m 244) (m 245) (m 246) (m 243)) ?_ ?_ ro_FU (by decide) m ⟨hC, hS⟩
        · intro k hk rec m hP
          obtain ⟨hC, hS⟩ := hP
          show ∃ m', _ ∧ fb_X12_fallsOf_15 (nI a) v2 v3 (nI i) rec (nI k) m = rec (nI (k + 1), m')
          unfold fb_X12_fallsOf_15
          have e16 : (16 : Int32) * nI i + nI k = nI (16 * i + k) := by
            show nI 16 * nI i + nI k = _
            rw [pk_mul, nI_add]
          have dv : (16 * i + k) / 16 = i := by omega
          have md : (16 * i + k) % 16 = k := by omega
          obtain ⟨d1, d2⟩ := hC.2 (16 * i + k) (by omega)
          rw [dv, md] at d1 d2
          have ma : m 222 i = nI (nt_ μ 5 i) := by rw [hC.1 222 (by omega)]; exact (hnt 5 (by decide) (by decide)).2.1
          have hD9 := ev_D_le μ 0 i k
          obtain ⟨g1, g2⟩ := hst i k hi hk
          rw [if_neg (show ¬ (16 : Int32) ≤ nI k from nI_ge (b := 16) hk (by decide)), if_pos (rt_in (by omega) (by decide)), nI_clamp (show i < 2 ^ 31 by omega), ma, nI_1]
          have dry : ¬ (nI (nt_ μ 5 i) = v2 ∧ 0 < ev_D μ 0 i k ∧ (if ev_S μ 0 i k = true then (1 : Int32) else 0) = v3) → ∃ m', (MP μ N m' ∧ ev_St μ N a (tt (16 * i + (k + 1))) (m' 244) (m' 245) (m' 246) (m' 243)) ∧ rec (nI (k + 1), m) = rec (nI (k + 1), m') := by
            intro hno
            refine ⟨m, ⟨hC, ?_⟩, rfl⟩
            rcases g2 hno with e | ⟨e1, e2, e3⟩
            · rw [show 16 * i + (k + 1) = 16 * i + k + 1 from rfl, e]; exact hS
            · rw [show 16 * i + (k + 1) = 16 * i + k + 1 from rfl, e2]
              rw [e1] at hS
              exact hS.dry ha (by omega) (by rw [dv, md]; exact e3)
          by_cases c1 : nI (nt_ μ 5 i) = v2
          · rw [if_pos c1, e16, if_pos (rt_in (n := 512) (by omega) (by decide)), nI_clamp (show 16 * i + k < 2 ^ 31 by omega), d1]
            by_cases c : ev_D μ 0 i k = 0
            · rw [if_pos (show nI (ev_D μ 0 i k) ≤ 0 by rw [c]; exact Int32.le_refl _)]
              exact dry (fun h => by omega)
            · rw [if_neg (show ¬ nI (ev_D μ 0 i k) ≤ 0 from nI_nle (by omega) (by omega)), d2]
              have ev3 : (if 0 < ev_D μ 0 i k ∧ ev_S μ 0 i k = true then (1 : Int32) else 0) = (if ev_S μ 0 i k = true then (1 : Int32) else 0) := by
                by_cases q : ev_S μ 0 i k = true
                · rw [if_pos ⟨by omega, q⟩, if_pos q]
                · rw [if_neg (fun h => q h.2), if_neg q]
              rw [ev3]
              by_cases c3 : (if ev_S μ 0 i k = true then (1 : Int32) else 0) = v3
              · rw [if_pos c3]
                obtain ⟨g3, g4, g5⟩ := g1 ⟨c1, by omega, c3⟩
                obtain ⟨q1, q2, q3⟩ := hw.ss hk
                have hbu : ∀ s, s < 96 → nn (μ 4 s) ≤ 99 := fun s h => (hw.bu h).2.1
                rw [g4] at hS
                obtain ⟨m', f1, f2, f3, f4, f5⟩ := rt_fallM (um := μ 3) (bu := μ 4) (d := ev_D μ 0 i k) (q := nn (μ 6 k)) hS.1 hS.2.1 hS.2.2 ha (by omega) hk d1 hD9 (by rw [hC.1 211 (by omega)]; exact q3 (ev_D_told (sh := 0) (i := i) (by omega))) q2 (by rw [hC.1 208 (by omega)]; exact (hw.um q2).1) hbu (fun s h => by
                  have h1 : sp_prev (ev_D μ 0) (ev_F μ 0) (μ 3) (μ 6) a s (16 * i + k) ≤ (16 * i + k) * 99 := sp_prev_le (ev_D_le μ 0)
                  have h2 : (16 * i + k) * 99 ≤ 512 * 99 := Nat.mul_le_mul_right _ (by omega)
                  show sp_prev (ev_D μ 0) (ev_F μ 0) (μ 3) (μ 6) a s (16 * i + k) < 2 ^ 19
                  omega)
                rw [f1, Option.bind_some]
                refine ⟨m', ⟨hC.put f5, ?_⟩, rfl⟩
                rw [show 16 * i + (k + 1) = 16 * i + k + 1 from rfl, g5]
                exact EvS.wet (q := nn (μ 6 k)) hS ha (by omega) hk ⟨by omega, g3⟩ rfl f2 f3 f4
              · rw [if_neg c3]
                exact dry (fun h => c3 h.2.2)
          · rw [if_neg c1]
            exact dry (fun h => c1 h.1)
        · intro rec m _
          rfl
      obtain ⟨m', hP', e'⟩ := hin
      rw [e', Option.bind_some, nI_1]
      exact ⟨m', by rw [show 16 * (i + 1) = 16 * i + 16 by omega]; exact hP', rfl⟩
    · intro rec m hP
      show fb_X12_fallsOf_3 (nI a) v2 v3 rec (nI N) m = some m
      have a1 : m 207 18 = nI N := by rw [hP.1.1 207 (by omega)]; exact hn
      unfold fb_X12_fallsOf_3
      rw [a1, if_pos (Int32.le_refl _)]
  obtain ⟨m', ⟨h1, h2⟩, e⟩ := hl
  refine ⟨m', ?_, h1, h2⟩
  unfold fn_X12_fallsOf
  rw [e]
  rfl
/-- the loops that fill an array -/
theorem rt_fillL {o n : Nat} {μ : ro_Mem} (g : ro_Mem → Nat → Int32) (hg : ∀ f i, g (ro_arr μ o f) i = g μ i) (hn : n < 1000) {b : ((Int32 × ro_Mem) → Option ro_Mem) → (Int32 × ro_Mem) → Option ro_Mem} (hs : ∀ i, i < n → ∀ rec m, b rec (nI i, m) = rec (nI (i + 1), ro_set m o i (g m i))) (he : ∀ rec m, b rec (nI n, m) = some m) : ro_loop b ro_FU (0, μ) = some (ro_arr μ o (rt_mix (g μ) (μ o) n)) := by
  have h0 : ((0 : Int32), μ) = (fun i => (nI i, ro_arr μ o (rt_mix (g μ) (μ o) i))) 0 := by
    show _ = (nI 0, ro_arr μ o (rt_mix (g μ) (μ o) 0))
    have : rt_mix (g μ) (μ o) 0 = μ o := by
      funext j
      exact if_neg (by omega)
    rw [this, ro_arr_self]
    rfl
  rw [h0]
  refine rt_loop (fun i => (nI i, ro_arr μ o (rt_mix (g μ) (μ o) i))) n ?_ ?_ ro_FU (Nat.lt_trans hn (by decide))
  · intro i hi rec
    show b rec (nI i, ro_arr μ o (rt_mix (g μ) (μ o) i)) = rec (nI (i + 1), ro_arr μ o (rt_mix (g μ) (μ o) (i + 1)))
    rw [hs i hi, hg, ro_arr_set]
    congr 3
    funext j
    unfold upd rt_mix
    by_cases e : j = i
    · rw [if_pos e, if_pos (by omega), e]
    · rw [if_neg e]
      by_cases h : j < i
      · rw [if_pos h, if_pos (by omega)]
      · rw [if_neg h, if_neg (by omega)]
  · intro rec
    exact he rec _
theorem rt_evening {μ : ro_Mem} {N : Nat} (hw : Wd μ N) (hsh : μ 207 52 = 0) : ∃ m', fn_X12_evening μ = some m' ∧ MP μ N m' ∧ ev_Bt μ N 4 (m' 244) (m' 245) (m' 246) := by
  unfold fn_X12_evening
  obtain ⟨m1, p1, p2⟩ := rt_lays hw hsh
  rw [p1, Option.bind_some]
  have hC1 : MP μ N m1 := ⟨fun o h => p2.1 o (by omega) (by omega) (by omega) (by omega), p2.2⟩
  have l1 : fl_X12_evening_6 (0, m1) = some (ro_arr m1 244 (rt_mix (fun _ => 0) (m1 244) 384)) := by
    unfold fl_X12_evening_6
    refine rt_fillL (fun _ _ => 0) (fun _ _ => rfl) (by decide) (fun i hi rec m => ?_) (fun rec m => rfl)
    show fb_X12_evening_6 rec (nI i) m = _
    unfold fb_X12_evening_6
    rw [if_neg (show ¬ (384 : Int32) ≤ nI i from nI_ge (b := 384) hi (by decide)), if_pos (rt_in hi (by decide)), nI_clamp (by omega), ro_lt, nI_1]
  have l2 : ∀ m : ro_Mem, fl_X12_evening_28 (0, m) = some (ro_arr m 245 (rt_mix (fun _ => 0) (m 245) 32)) := by
    intro m
    unfold fl_X12_evening_28
    refine rt_fillL (fun _ _ => 0) (fun _ _ => rfl) (by decide) (fun i hi rec m => ?_) (fun rec m => rfl)
    show fb_X12_evening_28 rec (nI i) m = _
    unfold fb_X12_evening_28
    rw [if_neg (show ¬ (32 : Int32) ≤ nI i from nI_ge (b := 32) hi (by decide)), if_pos (rt_in hi (by decide)), nI_clamp (by omega), ro_lt, nI_1]
  have l3 : ∀ m : ro_Mem, fl_X12_evening_49 (0, m) = some (ro_arr m 246 (rt_mix (fun _ => 0) (m 246) 16)) := by
    intro m
    unfold fl_X12_evening_49
    refine rt_fillL (fun _ _ => 0) (fun _ _ => rfl) (by decide) (fun i hi rec m => ?_) (fun rec m => rfl)
    show fb_X12_evening_49 rec (nI i) m = _
    unfold fb_X12_evening_49
    rw [if_neg (show ¬ (16 : Int32) ≤ nI i from nI_ge (b := 16) hi (by decide)), if_pos (rt_in hi (by decide)), nI_clamp (by omega), ro_lt, nI_1]
  rw [l1, Option.bind_some, l2, Option.bind_some, l3, Option.bind_some]
  obtain ⟨m0, em0⟩ : ∃ m0, m0 = ro_arr (ro_arr (ro_arr m1 244 (rt_mix (fun _ => 0) (m1 244) 384)) 245 (rt_mix (fun _ => 0) (ro_arr m1 244 (rt_mix (fun _ => 0) (m1 244) 384) 245) 32)) 246 (rt_mix (fun _ => 0) (ro_arr (ro_arr m1 244 (rt_mix (fun _ => 0) (m1 244) 384)) 245 (rt_mix (fun _ => 0) (ro_arr m1 244 (rt_mix (fun _ => 0) (m1 244) 384) 245) 32) 246) 16) := ⟨_, rfl⟩
  rw [← em0]
  have c0 : MP μ N m0 := hC1.put (fun o h1 h2 h3 h4 => by rw [em0, ro_arr_ne _ _ h4, ro_arr_ne _ _ h3, ro_arr_ne _ _ h2])
  have b0 : ev_Bt μ N 0 (m0 244) (m0 245) (m0 246) := by
    rw [em0]
    refine ev_Bt0 (fun j hj => ?_) (fun j hj => ?_) (fun j hj => ?_)
    · rw [ro_arr_ne _ _ (show ¬ 244 = 246 by decide), ro_arr_ne _ _ (show ¬ 244 = 245 by decide), ro_arr_same]
      exact if_pos hj
    · rw [ro_arr_ne _ _ (show ¬ 245 = 246 by decide), ro_arr_same]
      exact if_pos hj
    · rw [ro_arr_same]
      exact if_pos hj
  have hl : ∃ m', (MP μ N m' ∧ ev_Bt μ N 4 (m' 244) (m' 245) (m' 246)) ∧ fl_X12_evening_70 (0, m0) = some m' := by
    unfold fl_X12_evening_70
    refine rt_cnt (fun i m => (nI i, m)) (fun m => m) 4 (fun a m => MP μ N m ∧ ev_Bt μ N a (m 244) (m 245) (m 246)) ?_ ?_ ro_FU (by decide) m0 ⟨c0, b0⟩
    · intro a ha rec m hP
      obtain ⟨hC, hB⟩ := hP
      show ∃ m', _ ∧ fb_X12_evening_70 rec (nI a) m = rec (nI (a + 1), m')
      unfold fb_X12_evening_70
      rw [if_neg (show ¬ (4 : Int32) ≤ nI a from nI_ge (b := 4) ha (by decide)), nI_1]
      have l77 : fl_X12_evening_77 (nI a) (0, m) = some (ro_arr m 243 (rt_mix (m 209) (m 243) 96)) := by
        unfold fl_X12_evening_77
        refine rt_fillL (fun m i => m 209 i) (fun f i => by rw [ro_arr_ne _ _ (by decide)]) (by decide) (fun i hi rec m => ?_) (fun rec m => rfl)
        show fb_X12_evening_77 (nI a) rec (nI i) m = _
        unfold fb_X12_evening_77
        rw [if_neg (show ¬ (96 : Int32) ≤ nI i from nI_ge (b := 96) hi (by decide)), if_pos (rt_in hi (by decide)), nI_clamp (by omega), ro_lt, nI_1]
      rw [l77, Option.bind_some]
      have hC1 : MP μ N (ro_arr m 243 (rt_mix (m 209) (m 243) 96)) := hC.put (fun o h1 h2 h3 h4 => ro_arr_ne _ _ h1)
      have hS1 : ev_St μ N a 0 (ro_arr m 243 (rt_mix (m 209) (m 243) 96) 244) (ro_arr m 243 (rt_mix (m 209) (m 243) 96) 245) (ro_arr m 243 (rt_mix (m 209) (m 243) 96) 246) (ro_arr m 243 (rt_mix (m 209) (m 243) 96) 243) := by
        rw [ro_arr_same, ro_arr_ne _ _ (show ¬ 244 = 243 by decide), ro_arr_ne _ _ (show ¬ 245 = 243 by decide), ro_arr_ne _ _ (show ¬ 246 = 243 by decide)]
        refine EvB.start hB ha (fun s h => ?_) (fun s h => (hw.bu h).1)
        rw [rt_mix_lt h, hC.1 209 (by omega)]
        exact (hw.bu h).2.2
      obtain ⟨i0, hi0, hlo, hhi⟩ := hw.split a
      have pred : ∀ x, nI x = nI a - 1 → x < 4 → x + 1 = a := by
        intro x e hx
        have := congrArg Int32.toInt e
        rw [show nI a - 1 = nI a - nI 1 from rfl, pk_sub_toInt (by omega) (by decide), nI_toInt (by omega)] at this
        omega
      obtain ⟨m2, f1, f2, f3⟩ := rt_fallsOf hw ha (v2 := nI a - 1) (v3 := 1) (fun t => min t (16 * i0)) hC1 (by rw [Nat.zero_min]; exact hS1) (by
        intro i k hi hk
        have hac := (hw.nt hi).2.2.2.2
        constructor
        · rintro ⟨e1, e2, e3⟩
          have h1 := pred _ e1 hac
          have h2 : i < i0 := by
            rcases Nat.lt_or_ge i i0 with h | h
            · exact h
            · have := hhi i h hi; omega
          have h3 : ev_S μ 0 i k = true := by
            by_cases c : ev_S μ 0 i k = true
            · exact c
            · rw [if_neg c] at e3; exact absurd e3 (by decide)
          refine ⟨by rw [ev_F_eq, if_pos h3]; exact h1, by show min _ _ = _; omega, by show min _ _ = _; omega⟩
        · intro hno
          by_cases h2 : i < i0
          · refine Or.inr ⟨by show min _ _ = _; omega, by show min _ _ = _; omega, ?_⟩
            rintro ⟨h4, h5⟩
            have h6 := hlo i h2
            rw [ev_F_eq] at h5
            by_cases c : ev_S μ 0 i k = true
            · rw [if_pos c] at h5
              refine hno ⟨?_, h4, by rw [if_pos c]⟩
              rw [show nt_ μ 5 i = a - 1 by omega]
              exact (pk_sub (b := 1) (by omega)).symm
            · rw [if_neg c] at h5; omega
          · refine Or.inl ?_
            show min _ _ = min _ _
            omega)
      rw [f1, Option.bind_some]
      obtain ⟨m3, g1, g2, g3⟩ := rt_fallsOf hw ha (v2 := nI a) (v3 := 0) (fun t => max t (16 * i0)) f2 (by
        have e : max 0 (16 * i0) = min (16 * N) (16 * i0) := by omega
        show ev_St μ N a (max 0 (16 * i0)) _ _ _ _
        rw [e]; exact f3) (by
        intro i k hi hk
        have hac := (hw.nt hi).2.2.2.2
        constructor
        · rintro ⟨e1, e2, e3⟩
          have h1 : nt_ μ 5 i = a := (nI_eq (by omega) (by omega)).mp e1
          have h2 : i0 ≤ i := by
            rcases Nat.lt_or_ge i i0 with h | h
            · have := hlo i h; omega
            · exact h
          have h3 : ¬ ev_S μ 0 i k = true := by
            intro c
            rw [if_pos c] at e3; exact absurd e3 (by decide)
          refine ⟨by rw [ev_F_eq, if_neg h3]; exact h1, by show max _ _ = _; omega, by show max _ _ = _; omega⟩
        · intro hno
          by_cases h2 : i < i0
          · refine Or.inl ?_
            show max _ _ = max _ _
            omega
          · refine Or.inr ⟨by show max _ _ = _; omega, by show max _ _ = _; omega, ?_⟩
            rintro ⟨h4, h5⟩
            have h6 := hhi i (by omega) hi
            rw [ev_F_eq] at h5
            by_cases c : ev_S μ 0 i k = true
            · rw [if_pos c] at h5; omega
            · rw [if_neg c] at h5
              exact hno ⟨by rw [show nt_ μ 5 i = a by omega], h4, by rw [if_neg c]⟩)
      rw [g1, Option.bind_some]
      refine ⟨m3, ⟨g2, EvS.fin (l := m3 243) ?_ ha⟩, rfl⟩
      have e : max (16 * N) (16 * i0) = 16 * N := by omega
      have g3 : ev_St μ N a (max (16 * N) (16 * i0)) _ _ _ _ := g3
      rw [e] at g3
      exact g3
    · intro rec m _
      rfl
  obtain ⟨m', ⟨h1, h2⟩, e⟩ := hl
  rw [e]
  exact ⟨m', rfl, h1, h2⟩
