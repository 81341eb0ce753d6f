-- ===== the notes, in numbers =====
def nt_ (μ : ro_Mem) (j i : Nat) : Nat := nn (iv_sc μ j i)
theorem nn_nI {n : Nat} (h : n < 2 ^ 31) : nn (nI n) = n := nI_clamp h
theorem Wd.nt {μ : ro_Mem} {N : Nat} (hw : Wd μ N) {i : Nat} (hi : i < N) : (∀ j, 1 ≤ j → j ≤ 5 → μ (ro_rf μ 1 1 + j) i = nI (nt_ μ j i) ∧ μ (217 + j) i = nI (nt_ μ j i) ∧ iv_sc μ j i = nI (nt_ μ j i)) ∧ nt_ μ 1 i < 4 ∧ nt_ μ 2 i < 48 ∧ nt_ μ 4 i < 12 ∧ nt_ μ 5 i < 4 := by
  obtain ⟨-, V, Pt, Ln, Br, Ac, B, A, hB, hA, -, -, hv, -⟩ := hw.notes
  obtain ⟨⟨a1, a2, a3, a4, a5⟩, ⟨m1, m2, m3, m4, m5⟩, ⟨s1, s2, s3, s4, s5⟩, h1, h2, h3, h4, h5, h6⟩ := hv i hi
  have t1 : nt_ μ 1 i = V i := by unfold nt_; rw [s1, nn_nI (by omega)]
  have t2 : nt_ μ 2 i = Pt i := by unfold nt_; rw [s2, nn_nI (by omega)]
  have t3 : nt_ μ 3 i = Ln i := by unfold nt_; rw [s3, nn_nI (by omega)]
  have t4 : nt_ μ 4 i = Br i := by unfold nt_; rw [s4, nn_nI (by omega)]
  have t5 : nt_ μ 5 i = Ac i := by unfold nt_; rw [s5, nn_nI (by omega)]
  refine ⟨fun j h1 h2 => ?_, by omega, by omega, by omega, by omega⟩
  have : j = 1 ∨ j = 2 ∨ j = 3 ∨ j = 4 ∨ j = 5 := by omega
  rcases this with rfl | rfl | rfl | rfl | rfl
  · rw [t1]; exact ⟨a1, m1, s1⟩
  · rw [t2]; exact ⟨a2, m2, s2⟩
  · rw [t3]; exact ⟨a3, m3, s3⟩
  · rw [t4]; exact ⟨a4, m4, s4⟩
  · rw [t5]; exact ⟨a5, m5, s5⟩
theorem Wd.mono {μ : ro_Mem} {N : Nat} (hw : Wd μ N) : ∀ d i, i + d < N → nt_ μ 5 i ≤ nt_ μ 5 (i + d) ∧ nt_ μ 4 i ≤ nt_ μ 4 (i + d) := by
  obtain ⟨-, V, Pt, Ln, Br, Ac, B, A, hB, hA, -, -, hv, hm, -⟩ := hw.notes
  have t : ∀ i, i < N → nt_ μ 5 i = Ac i ∧ nt_ μ 4 i = Br i := fun i hi => by
    obtain ⟨-, -, ⟨s1, s2, s3, s4, s5⟩, h1, h2, h3, h4, h5, h6⟩ := hv i hi
    unfold nt_
    rw [s4, s5, nn_nI (by omega), nn_nI (by omega)]
    exact ⟨rfl, rfl⟩
  intro d
  induction d with
  | zero => intro i _; exact ⟨Nat.le_refl _, Nat.le_refl _⟩
  | succ d ih =>
    intro i hi
    obtain ⟨a, b⟩ := ih i (by omega)
    obtain ⟨c, e⟩ := hm (i + d) (by omega)
    obtain ⟨t1, t2⟩ := t (i + d) (by omega)
    obtain ⟨t3, t4⟩ := t (i + d + 1) (by omega)
    rw [show i + (d + 1) = i + d + 1 by omega]
    omega
theorem Wd.acts {μ : ro_Mem} {N : Nat} (hw : Wd μ N) : ∃ A, A ≤ 4 ∧ μ 207 20 = nI A ∧ μ (ro_rf μ 1 1) 7 = nI A ∧ (∀ i, i < N → nt_ μ 5 i < A) ∧ ∀ x, x < A → ∃ i, i < N ∧ nt_ μ 5 i = x := by
  obtain ⟨-, V, Pt, Ln, Br, Ac, B, A, hB, hA, g1, g2, hv, hm, hall⟩ := hw.notes
  have t : ∀ i, i < N → nt_ μ 5 i = Ac i ∧ Ac i < A := fun i hi => by
    obtain ⟨-, -, ⟨s1, s2, s3, s4, s5⟩, h1, h2, h3, h4, h5, h6⟩ := hv i hi
    unfold nt_
    rw [s5, nn_nI (by omega)]
    exact ⟨rfl, h6⟩
  refine ⟨A, hA, g1, g2, fun i hi => by have := t i hi; omega, fun x hx => ?_⟩
  obtain ⟨i, hi, e⟩ := hall x hx
  exact ⟨i, hi, by rw [(t i hi).1, e]⟩
theorem Wd.split {μ : ro_Mem} {N : Nat} (hw : Wd μ N) (a : Nat) : ∃ i0, i0 ≤ N ∧ (∀ i, i < i0 → nt_ μ 5 i < a) ∧ ∀ i, i0 ≤ i → i < N → a ≤ nt_ μ 5 i := by
  have key : ∀ n, n ≤ N → ∃ i0, i0 ≤ n ∧ (∀ i, i < i0 → nt_ μ 5 i < a) ∧ ∀ i, i0 ≤ i → i < n → a ≤ nt_ μ 5 i := by
    intro n
    induction n with
    | zero => intro _; exact ⟨0, Nat.le_refl _, fun i h => absurd h (by omega), fun i _ h => absurd h (by omega)⟩
    | succ n ih =>
      intro hn
      obtain ⟨i0, h1, h2, h3⟩ := ih (by omega)
      by_cases c : i0 = n
      · by_cases c2 : nt_ μ 5 n < a
        · exact ⟨n + 1, Nat.le_refl _, fun i hi => by by_cases e : i = n; (rw [e]; exact c2); exact h2 i (by omega), fun i h4 h5 => absurd h5 (by omega)⟩
        · exact ⟨n, by omega, fun i hi => h2 i (by omega), fun i h4 h5 => by rw [show i = n by omega]; omega⟩
      · refine ⟨i0, by omega, h2, fun i h4 h5 => ?_⟩
        by_cases e : i = n
        · have := h3 i0 (Nat.le_refl _) (by omega)
          have h6 := (hw.mono (n - i0) i0 (by omega)).1
          rw [show i0 + (n - i0) = n by omega] at h6
          rw [e]; omega
        · exact h3 i h4 (by omega)
  exact key N (Nat.le_refl _)
theorem ev_F_eq (μ : ro_Mem) (sh : Int32) (i k : Nat) : ev_F μ sh i k = nt_ μ 5 i + (if ev_S μ sh i k = true then 1 else 0) := rfl
theorem ev_D_le (μ : ro_Mem) (sh : Int32) (i k : Nat) : ev_D μ sh i k ≤ 99 := by
  unfold ev_D sp_D
  by_cases c : bt (μ 2 6) k = true ∧ bt (μ 2 7) k = false ∧ ¬ iv_sc μ 2 i + sh < μ 7 k ∧ iv_sc μ 2 i + sh ≤ μ 8 k
  · rw [if_pos c]
    obtain ⟨n, hn, en⟩ := sp_amt_nn (W := iv_lw μ) (lt := sp_lt (iv_sc μ) (μ 5) (μ 6) (μ 9) sh i k) (kind := 0) (most := 99) (by decide)
    rw [show sp_amt (iv_lw μ) (sp_lt (iv_sc μ) (μ 5) (μ 6) (μ 9) sh i k) 0 99 = nI n from en, nI_clamp (by omega)]
    exact hn
  · rw [if_neg c]; omega
theorem ev_F_le {μ : ro_Mem} {N : Nat} (hw : Wd μ N) {sh : Int32} {i k : Nat} (hi : i < N) : ev_F μ sh i k ≤ 4 := by
  rw [ev_F_eq]
  have := (hw.nt hi).2.2.2.2
  by_cases c : ev_S μ sh i k = true
  · rw [if_pos c]; omega
  · rw [if_neg c]; omega
theorem Wd.bu {μ : ro_Mem} {N : Nat} (hw : Wd μ N) {s : Nat} (hs : s < 96) : μ 4 s = nI (nn (μ 4 s)) ∧ nn (μ 4 s) ≤ 99 ∧ μ 209 s = μ 4 s := by
  obtain ⟨⟨-, hB, -⟩, -⟩ := hw
  obtain ⟨e, n, hn, en⟩ := hB s hs
  rw [en, nn_nI (by omega), e, en]
  exact ⟨rfl, hn, rfl⟩
theorem Wd.ss {μ : ro_Mem} {N : Nat} (hw : Wd μ N) {k : Nat} (hk : k < 16) : μ 6 k = nI (nn (μ 6 k)) ∧ nn (μ 6 k) < 96 ∧ (bt (μ 2 6) k = true → μ 211 k = nI (nn (μ 6 k))) := by
  obtain ⟨⟨-, -, -, hS, -⟩, -⟩ := hw
  obtain ⟨⟨n, hn, en⟩, h1, -⟩ := hS.2.2.2 k hk
  rw [en, nn_nI (by omega)]
  exact ⟨rfl, hn, fun h => by rw [(h1 h).1, en]⟩
theorem Wd.um {μ : ro_Mem} {N : Nat} (hw : Wd μ N) {s : Nat} (hs : s < 96) : μ 208 s = μ 3 s ∧ (μ 3 s = 0 ∨ μ 3 s = 1) := hw.1.1 s hs
theorem ev_D_told {μ : ro_Mem} {sh : Int32} {i k : Nat} (h : 0 < ev_D μ sh i k) : bt (μ 2 6) k = true := by
  unfold ev_D sp_D at h
  by_cases c : bt (μ 2 6) k = true ∧ bt (μ 2 7) k = false ∧ ¬ iv_sc μ 2 i + sh < μ 7 k ∧ iv_sc μ 2 i + sh ≤ μ 8 k
  · exact c.1
  · rw [if_neg c] at h; omega
-- ===== arrays are filled =====
theorem rt_fill {o : Nat} {v : Int32} {μ : ro_Mem} {n : Nat} (hl : ro_len o = n) (hn : n < 1000) : fn_J7_fill_53178 o v μ = some (ro_arr μ o (rt_mix (fun _ => v) (μ o) n)) := by
  unfold fn_J7_fill_53178
  rw [hl, ro_lt]
  have hloop : fl_J7_fill_53178_5 o v (nI n) (0, μ) = some (ro_arr μ o (rt_mix (fun _ => v) (μ o) n)) := by
    unfold fl_J7_fill_53178_5
    have h0 : ((0 : Int32), μ) = (fun i => (nI i, ro_arr μ o (rt_mix (fun _ => v) (μ o) i))) 0 := by
      show _ = (nI 0, ro_arr μ o (rt_mix (fun _ => v) (μ o) 0))
      have : rt_mix (fun _ => v) (μ o) 0 = μ o := by
        funext j
        exact if_neg (by omega)
      rw [this, ro_arr_self]
      rfl
    rw [h0]
    refine rt_loop (fun i => (nI i, ro_arr μ o (rt_mix (fun _ => v) (μ o) i))) n ?_ ?_ ro_FU (Nat.lt_trans hn (by decide))
    · intro i hi rec
      show fb_J7_fill_53178_5 o v (nI n) rec (nI i) (ro_arr μ o (rt_mix (fun _ => v) (μ o) i)) = rec (nI (i + 1), ro_arr μ o (rt_mix (fun _ => v) (μ o) (i + 1)))
      unfold fb_J7_fill_53178_5
      rw [if_neg (nI_ge hi (by omega)), hl, if_pos (rt_in hi (by omega)), nI_clamp (by omega), nI_1, ro_lt, ro_arr_set]
      congr 3
      funext j
      unfold upd rt_mix
      by_cases e : j = i
      · rw [if_pos e, if_pos (by omega)]
      · rw [if_neg e]
        by_cases h : j < i
        · rw [if_pos h, if_pos (by omega)]
        · rw [if_neg h, if_neg (by omega)]
    · intro rec
      show fb_J7_fill_53178_5 o v (nI n) rec (nI n) _ = _
      unfold fb_J7_fill_53178_5
      rw [if_pos (Int32.le_refl _)]
  rw [hloop]
  rfl
-- ===== the class plays =====
def ev_St (μ : ro_Mem) (N a τ : Nat) (w n b l : Nat → Int32) : Prop := EvS (ev_D μ 0) (ev_F μ 0) (μ 3) (μ 6) (μ 4) N a τ w n b l
def ev_Bt (μ : ro_Mem) (N a : Nat) (w n b : Nat → Int32) : Prop := EvB (ev_D μ 0) (ev_F μ 0) (μ 3) (μ 6) (μ 4) N a w n b
def CP (μ : ro_Mem) (N : Nat) (m : ro_Mem) : Prop := (∀ o, ¬ o = ro_rf μ 1 2 + 7 → ¬ o = ro_rf μ 1 2 + 8 → ¬ (63 ≤ o ∧ o ≤ 68) → m o = μ o) ∧ ∀ t, t < 16 * N → m 63 t = nI (ev_D μ 0 (t / 16) (t % 16)) ∧ (0 < ev_D μ 0 (t / 16) (t % 16) → m 64 t = nI (ev_F μ 0 (t / 16) (t % 16)))
theorem CP.put {μ m m' : ro_Mem} {N : Nat} (h : CP μ N m) (h' : ∀ o, ¬ o = 65 → ¬ o = 66 → ¬ o = 67 → ¬ o = 68 → m' o = m o) : CP μ N m' := by
  refine ⟨fun o h1 h2 h3 => by rw [h' o (by omega) (by omega) (by omega) (by omega)]; exact h.1 o h1 h2 h3, fun t ht => ?_⟩
  rw [h' 63 (by decide) (by decide) (by decide) (by decide), h' 64 (by decide) (by decide) (by decide) (by decide)]
  exact h.2 t ht
theorem rt_fallInAct {μ m : ro_Mem} {N a : Nat} (hw : Wd μ N) (ha : a < 4) (hC : CP μ N m) (hS : ev_St μ N a 0 (m 65) (m 66) (m 67) (m 68)) : ∃ m', fn_X0_fallInAct (nI a) m = some m' ∧ CP μ N m' ∧ ev_St μ N a (16 * N) (m' 65) (m' 66) (m' 67) (m' 68) := by
  have hSW := hw.2.1
  obtain ⟨hs, hL⟩ := cg_rf hSW
  have hn : μ (ro_rf μ 1 1) 5 = nI N := hw.2.2.2.2.1
  have hn2 : N ≤ 32 := hw.2.2.2.2.2
  have hl : ∃ m', (CP μ N m' ∧ ev_St μ N a (16 * N) (m' 65) (m' 66) (m' 67) (m' 68)) ∧ fl_X0_fallInAct_2 (nI a) (0, m) = some m' := by
    unfold fl_X0_fallInAct_2
    refine rt_cnt (fun i m => (nI i, m)) (fun m => m) N (fun i m => CP μ N m ∧ ev_St μ N a (16 * i) (m 65) (m 66) (m 67) (m 68)) ?_ ?_ ro_FU (Nat.lt_of_le_of_lt hn2 (by decide)) m ⟨hC, hS⟩
    · intro i hi rec m hP
      obtain ⟨hC, hS⟩ := hP
      have m1 : m 1 = μ 1 := hC.1 1 (by omega) (by omega) (by omega)
      have mr : ro_rf m 1 1 = ro_rf μ 1 1 := by unfold ro_rf; rw [m1]
      have m5 : m (ro_rf μ 1 1) 5 = nI N := by rw [hC.1 _ (by omega) (by omega) (by omega)]; exact hn
      obtain ⟨hnt, -, -, -, hac⟩ := hw.nt hi
      have ma : m (ro_rf μ 1 1 + 5) i = nI (nt_ μ 5 i) := by rw [hC.1 _ (by omega) (by omega) (by omega)]; exact (hnt 5 (by decide) (by decide)).1
      show ∃ m', _ ∧ fb_X0_fallInAct_2 (nI a) rec (nI i) m = rec (nI (i + 1), m')
      unfold fb_X0_fallInAct_2
      rw [mr, if_pos (rt_score_id hs), m5, if_neg (nI_ge hi (by omega)), if_pos (rt_in (by omega) (by decide)), nI_clamp (show i < 2 ^ 31 by omega), ma, ro_lt]
      have inner : ∃ m', (CP μ N m' ∧ ev_St μ N a (16 * (i + 1)) (m' 65) (m' 66) (m' 67) (m' 68)) ∧ fj_X0_fallInAct_40 rec (nI a) (nI i) m = rec (nI (i + 1), m') := by
        have hin : ∃ m', (CP μ N m' ∧ ev_St μ N a (16 * i + 16) (m' 65) (m' 66) (m' 67) (m' 68)) ∧ fl_X0_fallInAct_43 (nI a) (nI i) (0, m) = some m' := by
          unfold fl_X0_fallInAct_43
          refine rt_cnt (fun k m => (nI k, m)) (fun m => m) 16 (fun k m => CP μ N m ∧ ev_St μ N a (16 * i + k) (m 65) (m 66) (m 67) (m 68)) ?_ ?_ ro_FU (by decide) m ⟨hC, hS⟩
          · intro k hk rec m hP
            obtain ⟨hC, hS⟩ := hP
            show ∃ m', _ ∧ fb_X0_fallInAct_43 (nI a) (nI i) rec (nI k) m = rec (nI (k + 1), m')
            unfold fb_X0_fallInAct_43
            have e16 : nI i * 16 + nI k = nI (16 * i + k) := by
              show nI i * nI 16 + nI k = _
              rw [pk_mul, nI_add, Nat.mul_comm]
            have dv : (16 * i + k) / 16 = i := by omega
            have md : (16 * i + k) % 16 = k := by omega
            obtain ⟨d1, d2⟩ := hC.2 (16 * i + k) (by omega)
            rw [dv, md] at d1 d2
            have hD9 := ev_D_le μ 0 i k
            have hF4 := ev_F_le hw (sh := 0) (k := k) hi
            rw [if_neg (show ¬ (16 : Int32) ≤ nI k from nI_ge (b := 16) hk (by decide)), e16, ro_lt, if_pos (rt_in (n := 512) (by omega) (by decide)), nI_clamp (show 16 * i + k < 2 ^ 31 by omega), d1, nI_1]
            by_cases c : ev_D μ 0 i k = 0
            · rw [if_pos (show nI (ev_D μ 0 i k) ≤ 0 by rw [c]; exact Int32.le_refl _)]
              refine ⟨m, ⟨hC, hS.dry ha (by omega) ?_⟩, rfl⟩
              rw [dv, md]; omega
            · rw [if_neg (show ¬ nI (ev_D μ 0 i k) ≤ 0 from nI_nle (by omega) (by omega)), d2 (by omega)]
              by_cases cF : ev_F μ 0 i k = a
              · rw [if_pos (show nI (ev_F μ 0 i k) = nI a by rw [cF])]
                obtain ⟨q1, q2, q3⟩ := hw.ss hk
                have hbu : ∀ s, s < 96 → nn (μ 4 s) ≤ 99 := fun s h => (hw.bu h).2.1
                obtain ⟨m', f1, f2, f3, f4, f5⟩ := rt_fallC (um := μ 3) (bu := μ 4) (d := ev_D μ 0 i k) (q := nn (μ 6 k)) hS.1 hS.2.1 hS.2.2 ha (by omega) hk d1 hD9 (by rw [hC.1 6 (by omega) (by omega) (by omega)]; exact q1) q2 (hC.1 3 (by omega) (by omega) (by omega)) hbu (fun s h => by
                  have h1 : sp_prev (ev_D μ 0) (ev_F μ 0) (μ 3) (μ 6) a s (16 * i + k) ≤ (16 * i + k) * 99 := sp_prev_le (ev_D_le μ 0)
                  have h2 : (16 * i + k) * 99 ≤ 512 * 99 := Nat.mul_le_mul_right _ (by omega)
                  show sp_prev (ev_D μ 0) (ev_F μ 0) (μ 3) (μ 6) a s (16 * i + k) < 2 ^ 19
                  omega)
                rw [f1, Option.bind_some]
                exact ⟨m', ⟨hC.put f5, EvS.wet (q := nn (μ 6 k)) hS ha (by omega) hk ⟨by omega, cF⟩ rfl f2 f3 f4⟩, rfl⟩
              · rw [if_neg (fun e => cF ((nI_eq (by omega) (by omega)).mp e))]
                refine ⟨m, ⟨hC, hS.dry ha (by omega) ?_⟩, rfl⟩
                rw [dv, md]
                exact fun h => cF h.2
          · intro rec m _
            rfl
        obtain ⟨m', hP', e'⟩ := hin
        refine ⟨m', hP', ?_⟩
        unfold fj_X0_fallInAct_40
        rw [e', Option.bind_some, nI_1]
      by_cases c1 : a = nt_ μ 5 i
      · rw [if_pos (show nI a - nI (nt_ μ 5 i) = 0 by rw [← c1, pk_sub (Nat.le_refl _), Nat.sub_self]; rfl)]
        exact inner
      · by_cases c2 : a = nt_ μ 5 i + 1
        · rw [if_neg (show ¬ nI a - nI (nt_ μ 5 i) = 0 by rw [c2, pk_sub (by omega), Nat.add_sub_cancel_left]; decide), if_pos (show nI a - nI (nt_ μ 5 i) = 1 by rw [c2, pk_sub (by omega), Nat.add_sub_cancel_left]; rfl)]
          exact inner
        · have hne : ∀ x : Nat, x < 2 → ¬ a = nt_ μ 5 i + x → ¬ nI a - nI (nt_ μ 5 i) = nI x := fun x hx hax e => by
            have := congrArg Int32.toInt e
            rw [pk_sub_toInt (by omega) (by omega), nI_toInt (by omega)] at this
            omega
          rw [if_neg (show ¬ nI a - nI (nt_ μ 5 i) = 0 from hne 0 (by decide) (by omega)), if_neg (show ¬ nI a - nI (nt_ μ 5 i) = 1 from hne 1 (by decide) c2), nI_1]
          refine ⟨m, ⟨hC, ?_⟩, rfl⟩
          rw [show 16 * (i + 1) = 16 * i + 16 by omega]
          refine hS.dryn ha 16 (by omega) (fun t h1 h2 => ?_)
          rw [show t / 16 = i by omega, ev_F_eq]
          rintro ⟨-, h⟩
          by_cases c : ev_S μ 0 i (t % 16) = true
          · rw [if_pos c] at h; omega
          · rw [if_neg c] at h; omega
    · intro rec m hP
      obtain ⟨hC, hS⟩ := hP
      have m1 : m 1 = μ 1 := hC.1 1 (by omega) (by omega) (by omega)
      have mr : ro_rf m 1 1 = ro_rf μ 1 1 := by unfold ro_rf; rw [m1]
      have m5 : m (ro_rf μ 1 1) 5 = nI N := by rw [hC.1 _ (by omega) (by omega) (by omega)]; exact hn
      show fb_X0_fallInAct_2 (nI a) rec (nI N) m = some m
      unfold fb_X0_fallInAct_2
      rw [mr, if_pos (rt_score_id hs), m5, if_pos (Int32.le_refl _)]
  obtain ⟨m', ⟨h1, h2⟩, e⟩ := hl
  refine ⟨m', ?_, h1, h2⟩
  unfold fn_X0_fallInAct
  rw [e]
  rfl
theorem ev_Bt0 {μ : ro_Mem} {N : Nat} {w n b : Nat → Int32} (h1 : ∀ j, j < 384 → w j = 0) (h2 : ∀ j, j < 32 → n j = 0) (h3 : ∀ j, j < 16 → b j = 0) : ev_Bt μ N 0 w n b := by
  refine ⟨fun a' s ha hs => ?_, fun i hi => ?_, fun k hk => ?_⟩
  · rw [h1 _ (by omega), if_neg (by omega)]; rfl
  · rw [h2 i hi, ev_BN_0]; rfl
  · rw [h3 k hk, ev_BS_0]; rfl
theorem rt_play {μ m : ro_Mem} {N : Nat} (hw : Wd μ N) (hC : CP μ N m) : ∃ m', fn_X0_play m = some m' ∧ CP μ N m' ∧ ev_Bt μ N 4 (m' 65) (m' 66) (m' 67) := by
  have hSW := hw.2.1
  obtain ⟨hs, hL⟩ := cg_rf hSW
  unfold fn_X0_play
  rw [rt_fill (n := 384) (by decide +kernel) (by decide), Option.bind_some, rt_fill (n := 32) (by decide +kernel) (by decide), Option.bind_some, rt_fill (n := 16) (by decide +kernel) (by decide), Option.bind_some]
  obtain ⟨m0, em0⟩ : ∃ m0, m0 = ro_arr (ro_arr (ro_arr m 65 (rt_mix (fun _ => 0) (m 65) 384)) 66 (rt_mix (fun _ => 0) (ro_arr m 65 (rt_mix (fun _ => 0) (m 65) 384) 66) 32)) 67 (rt_mix (fun _ => 0) (ro_arr (ro_arr m 65 (rt_mix (fun _ => 0) (m 65) 384)) 66 (rt_mix (fun _ => 0) (ro_arr m 65 (rt_mix (fun _ => 0) (m 65) 384) 66) 32) 67) 16) := ⟨_, rfl⟩
  rw [← em0]
  have c0 : CP μ N m0 := hC.put (fun o h1 h2 h3 h4 => by rw [em0, ro_arr_ne _ _ h3, ro_arr_ne _ _ h2, ro_arr_ne _ _ h1])
  have b0 : ev_Bt μ N 0 (m0 65) (m0 66) (m0 67) := by
    rw [em0]
    refine ev_Bt0 (fun j hj => ?_) (fun j hj => ?_) (fun j hj => ?_)
    · rw [ro_arr_ne _ _ (show ¬ 65 = 67 by decide), ro_arr_ne _ _ (show ¬ 65 = 66 by decide), ro_arr_same]
      exact if_pos hj
    · rw [ro_arr_ne _ _ (show ¬ 66 = 67 by decide), ro_arr_same]
      exact if_pos hj
    · rw [ro_arr_same]
      exact if_pos hj
  have hl : ∃ m', (CP μ N m' ∧ ev_Bt μ N 4 (m' 65) (m' 66) (m' 67)) ∧ fl_X0_play_26 (0, m0) = some m' := by
    unfold fl_X0_play_26
    refine rt_cnt (fun i m => (nI i, m)) (fun m => m) 4 (fun a m => CP μ N m ∧ ev_Bt μ N a (m 65) (m 66) (m 67)) ?_ ?_ ro_FU (by decide) m0 ⟨c0, b0⟩
    · intro a ha rec m hP
      obtain ⟨hC, hB⟩ := hP
      show ∃ m', _ ∧ fb_X0_play_26 rec (nI a) m = rec (nI (a + 1), m')
      unfold fb_X0_play_26
      rw [if_neg (show ¬ (4 : Int32) ≤ nI a from nI_ge (b := 4) ha (by decide)), ro_lt, nI_1]
      have e68 : va_cpy (m 4) (m 68) (0 : Int32).toNatClampNeg (0 : Int32).toNatClampNeg (96 : Int32).toNatClampNeg = rt_mix (m 4) (m 68) 96 := rt_mix_cpy (m 4) (m 68) 96
      rw [e68]
      have hC1 : CP μ N (ro_arr m 68 (rt_mix (m 4) (m 68) 96)) := hC.put (fun o h1 h2 h3 h4 => ro_arr_ne _ _ h4)
      have hS1 : ev_St μ N a 0 (ro_arr m 68 (rt_mix (m 4) (m 68) 96) 65) (ro_arr m 68 (rt_mix (m 4) (m 68) 96) 66) (ro_arr m 68 (rt_mix (m 4) (m 68) 96) 67) (ro_arr m 68 (rt_mix (m 4) (m 68) 96) 68) := by
        rw [ro_arr_same, ro_arr_ne _ _ (show ¬ 65 = 68 by decide), ro_arr_ne _ _ (show ¬ 66 = 68 by decide), ro_arr_ne _ _ (show ¬ 67 = 68 by decide)]
        refine EvB.start hB ha (fun s h => ?_) (fun s h => (hw.bu h).1)
        rw [rt_mix_lt h, hC.1 4 (by omega) (by omega) (by omega)]
      obtain ⟨m', f1, f2, f3⟩ := rt_fallInAct hw ha hC1 hS1
      rw [f1, Option.bind_some]
      exact ⟨m', ⟨f2, EvS.fin f3 ha⟩, rfl⟩
    · intro rec m _
      rfl
  obtain ⟨m', ⟨h1, h2⟩, e⟩ := hl
  rw [e]
  exact ⟨m', rfl, h1, h2⟩
