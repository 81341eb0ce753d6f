-- ===== loops that count =====
theorem rt_cnt {S E σ : Type} {b : (S → Option E) → S → Option E} (g : Nat → σ → S) (e : σ → E) (N : Nat) (P : Nat → σ → Prop) (hs : ∀ i, i < N → ∀ rec s, P i s → ∃ s', P (i + 1) s' ∧ b rec (g i s) = rec (g (i + 1) s')) (he : ∀ rec s, P N s → b rec (g N s) = some (e s)) (fuel : Nat) (hf : N < fuel) (s : σ) (h0 : P 0 s) : ∃ s', P N s' ∧ ro_loop b fuel (g 0 s) = some (e s') := by
  have key : ∀ k i fuel s, i + k = N → k < fuel → P i s → ∃ s', P N s' ∧ ro_loop b fuel (g i s) = some (e s') := by
    intro k
    induction k with
    | zero =>
      intro i fuel s hi hf hp
      cases fuel with
      | zero => omega
      | succ f =>
        have : i = N := by omega
        subst this
        exact ⟨s, hp, he _ s hp⟩
    | succ k ih =>
      intro i fuel s hi hf hp
      cases fuel with
      | zero => omega
      | succ f =>
        obtain ⟨s', hp', e1⟩ := hs i (by omega) (ro_loop b f) s hp
        obtain ⟨s'', hq, e2⟩ := ih (i + 1) f s' (by omega) (by omega) hp'
        refine ⟨s'', hq, ?_⟩
        rw [← e2]
        exact e1
  exact key N 0 fuel s (by omega) hf h0
-- ===== what comes through the roof =====
def PD (μ : ro_Mem) (T : Nat) (m : ro_Mem) : Prop := (∀ o, ¬ o = ro_rf μ 1 2 + 7 → ¬ o = ro_rf μ 1 2 + 8 → ¬ o = 63 → ¬ o = 64 → m o = μ o) ∧ ∀ t, t < T → m 63 t = nI (ev_D μ 0 (t / 16) (t % 16)) ∧ (0 < ev_D μ 0 (t / 16) (t % 16) → m 64 t = nI (ev_F μ 0 (t / 16) (t % 16)))
theorem PD.fr {μ m : ro_Mem} {T : Nat} (hSW : iv_SW μ) (h : PD μ T m) : Fr μ m := by
  have hL := (cg_rf hSW).2
  refine Fr.of (fun o => o = ro_rf μ 1 2 + 7 ∨ o = ro_rf μ 1 2 + 8 ∨ o = 63 ∨ o = 64) (fun o ho => h.1 o (fun q => ho (Or.inl q)) (fun q => ho (Or.inr (Or.inl q))) (fun q => ho (Or.inr (Or.inr (Or.inl q)))) (fun q => ho (Or.inr (Or.inr (Or.inr q))))) (fun o ho => ?_)
  unfold fr_id
  omega
theorem rt_pour {μ : ro_Mem} {N : Nat} (hw : Wd μ N) : ∃ m', fn_X0_pour μ = some m' ∧ PD μ (16 * N) m' := by
  have hSW := hw.2.1
  have hn : μ (ro_rf μ 1 1) 5 = nI N := hw.2.2.2.2.1
  have hn2 : N ≤ 32 := hw.2.2.2.2.2
  obtain ⟨hs, hL⟩ := cg_rf hSW
  unfold fn_X0_pour
  rw [if_pos (rt_score_id hs)]
  have hl : ∃ m', PD μ (16 * N) m' ∧ fl_X0_pour_7 (ro_rf μ 1 1) (0, μ) = some m' := by
    unfold fl_X0_pour_7
    refine rt_cnt (fun i m => (nI i, m)) (fun m => m) N (fun i m => PD μ (16 * i) m) ?_ ?_ ro_FU (Nat.lt_of_le_of_lt hn2 (by decide)) μ ⟨fun _ _ _ _ _ => rfl, fun t h => absurd h (by omega)⟩
    · intro i hi rec m hP
      show ∃ m', _ ∧ fb_X0_pour_7 (ro_rf μ 1 1) rec (nI i) m = rec (nI (i + 1), m')
      unfold fb_X0_pour_7
      have hfr := hP.fr hSW
      have a1 : m (ro_rf μ 1 1) 5 = nI N := by rw [hP.1 _ (by omega) (by omega) (by omega) (by omega)]; exact hn
      rw [a1, if_neg (nI_ge hi (by omega))]
      have hin : ∃ m', PD μ (16 * i + 16) m' ∧ fl_X0_pour_18 (ro_rf μ 1 1) (nI i) (0, m) = some m' := by
        unfold fl_X0_pour_18
        refine rt_cnt (fun k m => (nI k, m)) (fun m => m) 16 (fun k m => PD μ (16 * i + k) m) ?_ ?_ ro_FU (by decide) m hP
        · intro k hk rec m hP
          show ∃ m', _ ∧ fb_X0_pour_18 (ro_rf μ 1 1) (nI i) rec (nI k) m = rec (nI (k + 1), m')
          have hfr := hP.fr hSW
          obtain ⟨w1, w2, w3, w4, w5, w6⟩ := hw.fr hfr
          obtain ⟨m1, d1, d2, d3, d4⟩ := rt_dropsC (sh := 0) w1 w2 w3 w4 w5 w6 hi hk
          obtain ⟨r1, r2⟩ := hfr.rf
          obtain ⟨v1, v2, v3⟩ := hfr.ev hSW
          rw [r2] at d2 d4
          rw [v1] at d1 d3 d4
          rw [v3] at d4
          unfold fb_X0_pour_18
          have e16 : nI i * 16 + nI k = nI (16 * i + k) := by
            show nI i * nI 16 + nI k = _
            rw [pk_mul, nI_add, Nat.mul_comm]
          have dv : (16 * i + k) / 16 = i := by omega
          have md : (16 * i + k) % 16 = k := by omega
          rw [if_neg (show ¬ (16 : Int32) ≤ nI k from nI_ge (b := 16) hk (by decide)), e16, ro_lt, d1, Option.bind_some, if_pos (rt_in (n := 512) (by omega) (by decide)), nI_clamp (show 16 * i + k < 2 ^ 31 by omega)]
          obtain ⟨m9, e9⟩ : ∃ m9, m9 = ro_set m1 63 (16 * i + k) (nI (ev_D μ 0 i k)) := ⟨_, rfl⟩
          show ∃ m', _ ∧ ro_lt (ro_set m1 63 (16 * i + k) (nI (ev_D μ 0 i k))) _ = _
          rw [← e9, ro_lt]
          have q63 : m9 63 = upd (m 63) (16 * i + k) (nI (ev_D μ 0 i k)) := by rw [e9, ro_set_same, d2 63 (by omega) (by omega)]
          have qo : ∀ o, ¬ o = 63 → ¬ o = ro_rf μ 1 2 + 7 → ¬ o = ro_rf μ 1 2 + 8 → m9 o = m o := fun o h1 h2 h3 => by rw [e9, ro_set_ne _ _ _ h1, d2 o h2 h3]
          have qv : m9 63 (16 * i + k) = nI (ev_D μ 0 i k) := by rw [q63, pk_us]
          rw [qv]
          have old63 : ∀ t, t < 16 * i + k → m9 63 t = m 63 t := fun t ht => by rw [q63, pk_un (by omega)]
          by_cases c : ev_D μ 0 i k = 0
          · rw [c, if_pos (show nI 0 ≤ 0 from Int32.le_refl _), nI_1]
            refine ⟨m9, ⟨fun o h1 h2 h3 h4 => by rw [qo o h3 h1 h2, hP.1 o h1 h2 h3 h4], fun t ht => ?_⟩, rfl⟩
            by_cases e : t = 16 * i + k
            · rw [e, dv, md, qv]
              exact ⟨rfl, fun h => absurd h (by omega)⟩
            · rw [old63 t (by omega), qo 64 (by omega) (by omega) (by omega)]
              exact hP.2 t (by omega)
          · rw [if_neg (show ¬ nI (ev_D μ 0 i k) ≤ 0 from nI_nle (by omega) (by omega)), if_pos (rt_in (by omega) (by decide)), nI_clamp (show i < 2 ^ 31 by omega)]
            have fr9 : Fr μ m9 := by
              refine Fr.of (fun o => o = ro_rf μ 1 2 + 7 ∨ o = ro_rf μ 1 2 + 8 ∨ o = 63 ∨ o = 64) (fun o ho => ?_) (fun o ho => by unfold fr_id; omega)
              rw [qo o (by omega) (by omega) (by omega), hP.1 o (by omega) (by omega) (by omega) (by omega)]
            obtain ⟨m13, s1, s2⟩ := rt_isSnowC (sh := 0) (i := i) (k := k) hw fr9 (fun j hj => by rw [e9, ro_set_ne _ _ _ (by omega)]; exact d4 (by omega) j hj)
            rw [s1, Option.bind_some]
            obtain ⟨-, V, Pt, Ln, Br, Ac, B, A, hB, hA, -, -, hv, -⟩ := hw.notes
            obtain ⟨⟨-, -, -, -, a5⟩, -, ⟨-, -, -, -, s5⟩, -⟩ := hv i hi
            have act : m9 (ro_rf μ 1 1 + 5) i = nI (Ac i) := by rw [fr9.1 _ (by unfold fr_id; omega), a5]
            have eF : ev_F μ 0 i k = Ac i + (if ev_S μ 0 i k = true then 1 else 0) := by
              unfold ev_F sp_F
              rw [s5, nI_clamp (by have := (hv i hi).2.2.2.2.2.2.2.2; omega)]
              rfl
            have fin : ∀ x, x = nI (ev_F μ 0 i k) → ∃ m', PD μ (16 * i + (k + 1)) m' ∧ rec (nI (k + 1), ro_set m13 64 (16 * i + k) x) = rec (nI (k + 1), m') := by
              intro x hx
              refine ⟨_, ⟨fun o h1 h2 h3 h4 => by rw [ro_set_ne _ _ _ h4, s2 o h2, qo o h3 h1 h2, hP.1 o h1 h2 h3 h4], fun t ht => ?_⟩, rfl⟩
              rw [ro_set_ne _ _ _ (show ¬ 63 = 64 by decide), s2 63 (by omega)]
              by_cases e : t = 16 * i + k
              · rw [e, dv, md, qv, ro_set_same, pk_us]
                exact ⟨rfl, fun _ => hx⟩
              · rw [ro_set_same, pk_un (by omega), s2 64 (by omega), old63 t (by omega), qo 64 (by omega) (by omega) (by omega)]
                exact hP.2 t (by omega)
            rw [act, nI_1 k]
            by_cases cs : ev_S μ 0 i k = true
            · rw [if_pos cs]
              show ∃ m', _ ∧ (if (1 : Int32) = 0 then _ else ro_lt _ _) = _
              rw [if_neg rt_10, ro_lt]
              refine fin _ ?_
              rw [eF, if_pos cs]
              exact nI_1 _
            · rw [if_neg cs]
              show ∃ m', _ ∧ (if (0 : Int32) = 0 then ro_lt _ _ else _) = _
              rw [if_pos rfl, ro_lt]
              refine fin _ ?_
              rw [eF, if_neg cs]
              exact Int32.add_zero _
        · intro rec m _
          rfl
      obtain ⟨m', hP', e'⟩ := hin
      rw [e', Option.bind_some, nI_1]
      exact ⟨m', by rw [show 16 * (i + 1) = 16 * i + 16 by omega]; exact hP', rfl⟩
    · intro rec m hP
      show fb_X0_pour_7 (ro_rf μ 1 1) rec (nI N) m = some m
      have a1 : m (ro_rf μ 1 1) 5 = nI N := by rw [hP.1 _ (by omega) (by omega) (by omega) (by omega)]; exact hn
      unfold fb_X0_pour_7
      rw [a1, if_pos (Int32.le_refl _)]
  obtain ⟨m', hP, e⟩ := hl
  rw [e]
  exact ⟨m', rfl, hP⟩
/-- the reference's drops, laid for a shift -/
def PM (μ : ro_Mem) (sh : Int32) (T : Nat) (m : ro_Mem) : Prop := (∀ o, ¬ o = 239 → ¬ o = 240 → ¬ o = 241 → ¬ o = 242 → m o = μ o) ∧ ∀ t, t < T → m 241 t = nI (ev_D μ sh (t / 16) (t % 16)) ∧ m 242 t = if 0 < ev_D μ sh (t / 16) (t % 16) ∧ ev_S μ sh (t / 16) (t % 16) = true then 1 else 0
theorem PM.fr {μ m : ro_Mem} {T : Nat} {sh : Int32} (h : PM μ sh T m) : Fr μ m := by
  refine Fr.of (fun o => o = 239 ∨ o = 240 ∨ o = 241 ∨ o = 242) (fun o ho => h.1 o (by omega) (by omega) (by omega) (by omega)) (fun o ho => ?_)
  unfold fr_id
  omega
theorem rt_lays {μ : ro_Mem} {N : Nat} {sh : Int32} (hw : Wd μ N) (hsh : μ 207 52 = sh) : ∃ m', fn_X12_laysDrops μ = some m' ∧ PM μ sh (16 * N) m' := by
  have hSW := hw.2.1
  have hn : μ 207 18 = nI N := hw.notes.1
  have hn2 : N ≤ 32 := hw.2.2.2.2.2
  have nar0 : vp_nar .boolean 0 = 0 := rt_nar (Or.inl rfl)
  have nar1 : vp_nar .boolean 1 = 1 := rt_nar (Or.inr rfl)
  unfold fn_X12_laysDrops
  have hl : ∃ m', PM μ sh (16 * N) m' ∧ fl_X12_laysDrops_2 (0, μ) = some m' := by
    unfold fl_X12_laysDrops_2
    refine rt_cnt (fun i m => (nI i, m)) (fun m => m) N (fun i m => PM μ sh (16 * i) m) ?_ ?_ ro_FU (Nat.lt_of_le_of_lt hn2 (by decide)) μ ⟨fun _ _ _ _ _ => rfl, fun t h => absurd h (by omega)⟩
    · intro i hi rec m hP
      show ∃ m', _ ∧ fb_X12_laysDrops_2 rec (nI i) m = rec (nI (i + 1), m')
      unfold fb_X12_laysDrops_2
      have a1 : m 207 18 = nI N := by rw [hP.1 207 (by omega) (by omega) (by omega) (by omega)]; exact hn
      rw [a1, if_neg (nI_ge hi (by omega))]
      have hin : ∃ m', PM μ sh (16 * i + 16) m' ∧ fl_X12_laysDrops_12 (nI i) (0, m) = some m' := by
        unfold fl_X12_laysDrops_12
        refine rt_cnt (fun k m => (nI k, m)) (fun m => m) 16 (fun k m => PM μ sh (16 * i + k) m) ?_ ?_ ro_FU (by decide) m hP
        · intro k hk rec m hP
          show ∃ m', _ ∧ fb_X12_laysDrops_12 (nI i) rec (nI k) m = rec (nI (k + 1), m')
          have hfr := hP.fr
          have hwm := hw.fr hfr
          have hshm : m 207 52 = sh := by rw [hP.1 207 (by omega) (by omega) (by omega) (by omega)]; exact hsh
          obtain ⟨m1, d1, d2, d3, d4⟩ := rt_dropsM hwm hshm hi hk
          obtain ⟨v1, v2, v3⟩ := hfr.ev hSW
          rw [v1] at d1 d3 d4
          unfold fb_X12_laysDrops_12
          have e16 : (16 : Int32) * nI i + nI k = nI (16 * i + k) := by
            show nI 16 * nI i + nI k = _
            rw [pk_mul, nI_add]
          have dv : (16 * i + k) / 16 = i := by omega
          have md : (16 * i + k) % 16 = k := by omega
          rw [if_neg (show ¬ (16 : Int32) ≤ nI k from nI_ge (b := 16) hk (by decide)), e16, d1, Option.bind_some, if_pos (rt_in (n := 512) (by omega) (by decide)), nI_clamp (show 16 * i + k < 2 ^ 31 by omega)]
          obtain ⟨m9, e9⟩ : ∃ m9, m9 = ro_set m1 241 (16 * i + k) (nI (ev_D μ sh i k)) := ⟨_, rfl⟩
          show ∃ m', _ ∧ ro_lt (ro_set m1 241 (16 * i + k) (nI (ev_D μ sh i k))) _ = _
          rw [← e9, ro_lt]
          have q241 : m9 241 = upd (m 241) (16 * i + k) (nI (ev_D μ sh i k)) := by rw [e9, ro_set_same, d2 241 (by omega) (by omega)]
          have qo : ∀ o, ¬ o = 239 → ¬ o = 240 → ¬ o = 241 → m9 o = m o := fun o h1 h2 h3 => by rw [e9, ro_set_ne _ _ _ h3, d2 o h1 h2]
          have qv : m9 241 (16 * i + k) = nI (ev_D μ sh i k) := by rw [q241, pk_us]
          rw [qv]
          have old : ∀ t, t < 16 * i + k → m9 241 t = m 241 t := fun t ht => by rw [q241, pk_un (by omega)]
          have fin : ∀ (m13 : ro_Mem) (x : Int32), (∀ o, ¬ o = 239 → ¬ o = 240 → m13 o = m9 o) → x = (if 0 < ev_D μ sh i k ∧ ev_S μ sh i k = true then 1 else 0) → ∃ m', PM μ sh (16 * i + (k + 1)) m' ∧ rec (nI (k + 1), ro_set m13 242 (16 * i + k) x) = rec (nI (k + 1), m') := by
            intro m13 x s2 hx
            refine ⟨_, ⟨fun o h1 h2 h3 h4 => by rw [ro_set_ne _ _ _ h4, s2 o h1 h2, qo o h1 h2 h3, hP.1 o h1 h2 h3 h4], fun t ht => ?_⟩, rfl⟩
            rw [ro_set_ne _ _ _ (show ¬ 241 = 242 by decide), s2 241 (by omega) (by omega)]
            by_cases e : t = 16 * i + k
            · rw [e, dv, md, qv, ro_set_same, pk_us]
              exact ⟨rfl, hx⟩
            · rw [ro_set_same, pk_un (by omega), s2 242 (by omega) (by omega), old t (by omega), qo 242 (by omega) (by omega) (by omega)]
              exact hP.2 t (by omega)
          rw [nI_1 k, nar0, nar1]
          by_cases c : ev_D μ sh i k = 0
          · rw [if_pos (show nI (ev_D μ sh i k) ≤ 0 by rw [c]; exact Int32.le_refl _), ro_lt]
            exact fin m9 0 (fun _ _ _ => rfl) (by rw [if_neg (by omega)])
          · rw [if_neg (show ¬ nI (ev_D μ sh i k) ≤ 0 from nI_nle (by omega) (by omega))]
            have fr9 : Fr m m9 := by
              refine Fr.of (fun o => o = 239 ∨ o = 240 ∨ o = 241 ∨ o = 242) (fun o ho => qo o (by omega) (by omega) (by omega)) (fun o ho => by unfold fr_id; omega)
            have sh9 : m9 207 52 = sh := by rw [qo 207 (by omega) (by omega) (by omega)]; exact hshm
            have t9 : bt (m9 2 6) k = true := by rw [qo 2 (by omega) (by omega) (by omega)]; exact d4 (by omega)
            obtain ⟨m13, s1, s2⟩ := rt_isSnowM (hwm.fr fr9) sh9 hi hk t9
            have eS : ev_S m9 sh i k = ev_S μ sh i k := by
              have f9 : Fr μ m9 := hfr.trans fr9
              unfold ev_S
              rw [(f9.ev hSW).2.2, (f9.eve hSW).2.1]
            rw [eS] at s1
            rw [s1, Option.bind_some]
            by_cases cs : ev_S μ sh i k = true
            · rw [if_pos cs]
              show ∃ m', _ ∧ (if (1 : Int32) = 0 then _ else ro_lt _ _) = _
              rw [if_neg rt_10, ro_lt]
              exact fin m13 1 s2 (by rw [if_pos ⟨by omega, cs⟩])
            · rw [if_neg cs]
              show ∃ m', _ ∧ (if (0 : Int32) = 0 then ro_lt _ _ else _) = _
              rw [if_pos rfl, ro_lt]
              exact fin m13 0 s2 (by rw [if_neg (fun h => cs h.2)])
        · intro rec m _
          rfl
      obtain ⟨m', hP', e'⟩ := hin
      rw [e', Option.bind_some, nI_1]
      exact ⟨m', by rw [show 16 * (i + 1) = 16 * i + 16 by omega]; exact hP', rfl⟩
    · intro rec m hP
      show fb_X12_laysDrops_2 rec (nI N) m = some m
      have a1 : m 207 18 = nI N := by rw [hP.1 207 (by omega) (by omega) (by omega) (by omega)]; exact hn
      unfold fb_X12_laysDrops_2
      rw [a1, if_pos (Int32.le_refl _)]
  obtain ⟨m', hP, e⟩ := hl
  rw [e]
  exact ⟨m', rfl, hP⟩
