-- ===== how wet a guest would be, were all notes sung higher (class) =====
theorem sp_share_3 {um : Nat → Int32} {q s : Nat} (h : sp_share um q s 3 = 0) (d : Nat) : sp_share um q s d = 0 := by
  unfold sp_share at *
  by_cases c : um q = 0
  · rw [if_pos c] at h ⊢
    by_cases e : q = s
    · rw [if_pos e] at h; omega
    · rw [if_neg e]
  · rw [if_neg c] at h ⊢
    by_cases e : (q + 1 = s ∨ s + 1 = q) ∧ q / 12 = s / 12
    · rw [if_pos e] at h; omega
    · rw [if_neg e]
def SHP (μ : ro_Mem) (sh : Int32) (g t : Nat) (m : ro_Mem) : Prop := (∀ o, ¬ o = 30 → ¬ o = ro_rf μ 1 2 + 7 → ¬ o = ro_rf μ 1 2 + 8 → m o = μ o) ∧ ∀ a, a < 4 → m 30 a = nI (sp_prev (ev_D μ sh) (ev_F μ sh) (μ 3) (μ 6) a (st_ μ a g) t)
theorem SHP.fr {μ m : ro_Mem} {sh : Int32} {g t : Nat} (hSW : iv_SW μ) (h : SHP μ sh g t m) : Fr μ m := by
  have hL := (cg_rf hSW).2
  exact Fr.of (fun o => o = 30 ∨ o = ro_rf μ 1 2 + 7 ∨ o = ro_rf μ 1 2 + 8) (fun o ho => h.1 o (by omega) (by omega) (by omega)) (fun o ho => by unfold fr_id; omega)
theorem SHP.skip {μ m : ro_Mem} {sh : Int32} {g i k : Nat} (hk : k < 16) (h : SHP μ sh g (16 * i + k) m) (hz : ∀ a, a < 4 → sp_fall (ev_D μ sh) (ev_F μ sh) (μ 3) (μ 6) a (st_ μ a g) i k = 0) : SHP μ sh g (16 * i + (k + 1)) m := by
  refine ⟨h.1, fun a ha => ?_⟩
  rw [h.2 a ha, show 16 * i + (k + 1) = 16 * i + k + 1 from rfl, ev_prev_s, show (16 * i + k) / 16 = i by omega, show (16 * i + k) % 16 = k by omega, hz a ha]
  rfl
theorem rt_addShifted {μ m : ro_Mem} {N : Nat} {sh : Int32} {g i k : Nat} (hw : Wd μ N) (hg : g < 10) (hi : i < N) (hk : k < 16) (hP : SHP μ sh g (16 * i + k) m) : ∃ m', fn_X9_addShifted (nI g) (nI i) (nI k) sh m = some m' ∧ SHP μ sh g (16 * i + (k + 1)) m' := by
  have hSW := hw.2.1
  have hN : N ≤ 32 := hw.2.2.2.2.2
  have hfr := hP.fr hSW
  obtain ⟨hs, hL⟩ := cg_rf hSW
  obtain ⟨r1, r2⟩ := hfr.rf
  obtain ⟨hnt, -, -, -, hac⟩ := hw.nt hi
  obtain ⟨q1, q2, q3⟩ := hw.ss hk
  have m5 : m (ro_rf μ 1 1 + 5) i = nI (nt_ μ 5 i) := by rw [hP.1 _ (by omega) (by omega) (by omega)]; exact (hnt 5 (by decide) (by decide)).1
  have m11 : m 11 = μ 11 := hP.1 11 (by omega) (by omega) (by omega)
  have m6 : m 6 k = nI (nn (μ 6 k)) := by rw [hP.1 6 (by omega) (by omega) (by omega)]; exact q1
  have m3 : m 3 = μ 3 := hP.1 3 (by omega) (by omega) (by omega)
  have hD9 := ev_D_le μ sh i k
  have hst : ∀ a, a < 4 → st_ μ a g < 256 := fun a ha => by have := (hw.st ha hg).2.1; omega
  generalize hA : nt_ μ 5 i = A at *
  obtain ⟨nx, hnx, enx⟩ : ∃ nx, nx < 256 ∧ nx = (if A + 1 < 4 then st_ μ (A + 1) g else 255) := by
    refine ⟨_, ?_, rfl⟩
    by_cases c : A + 1 < 4
    · rw [if_pos c]; exact hst _ c
    · rw [if_neg c]; decide
  have body : fn_X9_addShifted (nI g) (nI i) (nI k) sh m = fj_X9_addShifted_59 (nI i) (nI k) sh (nI A) (nI (st_ μ A g)) (nI nx) m := by
    unfold fn_X9_addShifted
    rw [r1, if_pos (rt_score_id hs), if_pos (rt_in (n := 32) (by omega) (by decide)), nI_clamp (show i < 2 ^ 31 by omega), m5, ro_lt, rt_e10, if_pos (rt_in (n := 40) (by omega) (by decide)), nI_clamp (show 10 * A + g < 2 ^ 31 by omega), m11, (hw.st hac hg).1, ro_lt, nI_1, rt_e10]
    by_cases c : A + 1 < 4
    · rw [if_neg (show ¬ (4 : Int32) ≤ nI (A + 1) from nI_ge (b := 4) c (by decide)), if_pos (rt_in (n := 40) (by omega) (by decide)), nI_clamp (show 10 * (A + 1) + g < 2 ^ 31 by omega), (hw.st c hg).1, enx, if_pos c]
    · rw [if_pos (show (4 : Int32) ≤ nI (A + 1) from nI_le (a := 4) (by omega) (by omega)), enx, if_neg c]
      rfl
  rw [body]
  unfold fj_X9_addShifted_59
  have hA4 := hst A hac
  rw [if_pos (rt_in hk (by decide)), nI_clamp (show k < 2 ^ 31 by omega), m6, ro_lt, show (3 : Int32) = nI 3 from rfl, rt_share q2 m3 (by omega) (by decide), Option.bind_some, rt_share q2 m3 (by omega) (by decide), Option.bind_some]
  -- what falls, by where the drops fall
  have fall0 : sp_share (μ 3) (nn (μ 6 k)) (st_ μ A g) 3 = 0 → sp_share (μ 3) (nn (μ 6 k)) nx 3 = 0 → ∀ a, a < 4 → sp_fall (ev_D μ sh) (ev_F μ sh) (μ 3) (μ 6) a (st_ μ a g) i k = 0 := by
    intro h1 h2 a ha
    unfold sp_fall
    by_cases c : 0 < ev_D μ sh i k ∧ ev_F μ sh i k = a
    · rw [if_pos c]
      have hF := c.2
      rw [ev_F_eq, hA] at hF
      show sp_share (μ 3) (nn (μ 6 k)) (st_ μ a g) (ev_D μ sh i k) = 0
      by_cases cs : ev_S μ sh i k = true
      · rw [if_pos cs] at hF
        rw [enx, if_pos (by omega), hF] at h2
        exact sp_share_3 h2 _
      · rw [if_neg cs] at hF
        have : A = a := by omega
        rw [← this]
        exact sp_share_3 h1 _
    · rw [if_neg c]
  have j103 : ∃ m', fj_X9_addShifted_103 (nI i) (nI k) sh (nI A) (nI (st_ μ A g)) (nI nx) (nI (nn (μ 6 k))) m = some m' ∧ SHP μ sh g (16 * i + (k + 1)) m' := by
    obtain ⟨w1, w2, w3, w4, w5, w6⟩ := hw.fr hfr
    obtain ⟨m1, d1, d2, d3, d4⟩ := rt_dropsC (sh := sh) w1 w2 w3 w4 w5 w6 hi hk
    obtain ⟨v1, v2, v3⟩ := hfr.ev hSW
    rw [r2] at d2 d4
    rw [v1] at d1 d3 d4
    rw [v3] at d4
    unfold fj_X9_addShifted_103
    rw [d1, Option.bind_some]
    have P1 : SHP μ sh g (16 * i + k) m1 := ⟨fun o h1 h2 h3 => by rw [d2 o h2 h3, hP.1 o h1 h2 h3], fun a ha => by rw [d2 30 (by omega) (by omega)]; exact hP.2 a ha⟩
    by_cases c : ev_D μ sh i k = 0
    · rw [if_pos (show nI (ev_D μ sh i k) = 0 by rw [c]; rfl)]
      refine ⟨m1, rfl, P1.skip hk (fun a ha => ?_)⟩
      unfold sp_fall
      rw [if_neg (by omega)]
    · rw [if_neg (nI_ne0 (by omega) (by omega))]
      obtain ⟨m2, s1, s2⟩ := rt_isSnowC (sh := sh) (i := i) (k := k) hw (P1.fr hSW) (fun j hj => d4 (by omega) j hj)
      show ∃ m', ((fn_X9_isSnow m1).bind _) = _ ∧ _
      rw [s1, Option.bind_some]
      have P2 : SHP μ sh g (16 * i + k) m2 := ⟨fun o h1 h2 h3 => by rw [s2 o h3, P1.1 o h1 h2 h3], fun a ha => by rw [s2 30 (by omega)]; exact P1.2 a ha⟩
      have m23 : m2 3 = μ 3 := P2.1 3 (by omega) (by omega) (by omega)
      have put : ∀ b, b < 4 → ev_F μ sh i k = b → SHP μ sh g (16 * i + (k + 1)) (ro_set m2 30 b (m2 30 b + nI (sp_share (μ 3) (nn (μ 6 k)) (st_ μ b g) (ev_D μ sh i k)))) := by
        intro b hb hF
        refine ⟨fun o h1 h2 h3 => by rw [ro_set_ne _ _ _ h1]; exact P2.1 o h1 h2 h3, fun a ha => ?_⟩
        rw [ro_set_same, show 16 * i + (k + 1) = 16 * i + k + 1 from rfl, ev_prev_s, show (16 * i + k) / 16 = i by omega, show (16 * i + k) % 16 = k by omega]
        unfold sp_fall
        by_cases e : a = b
        · subst e
          rw [pk_us, P2.2 a ha, if_pos ⟨by omega, hF⟩, nI_add]
          rfl
        · rw [pk_un e, P2.2 a ha, if_neg (fun h => e (h.2.symm.trans hF))]
          rfl
      by_cases cs : ev_S μ sh i k = true
      · rw [if_pos cs]
        show ∃ m', (if (1 : Int32) = 0 then _ else _) = _ ∧ _
        rw [if_neg rt_10, nI_1]
        have hF : ev_F μ sh i k = A + 1 := by rw [ev_F_eq, hA, if_pos cs]
        by_cases c4 : A + 1 < 4
        · have : nx = st_ μ (A + 1) g := by rw [enx, if_pos c4]
          rw [if_neg (show ¬ (4 : Int32) ≤ nI (A + 1) from nI_ge (b := 4) c4 (by decide)), if_pos (rt_in c4 (by decide))]
          show ∃ m', ((fn_X1_share 2 (nI (nn (μ 6 k))) (nI nx) (nI (ev_D μ sh i k)) m2).bind _) = _ ∧ _
          rw [rt_share q2 m23 (by omega) (by omega), Option.bind_some, ro_lt, this]
          show ∃ m', some (ro_set m2 30 (nI (A + 1)).toNatClampNeg (m2 30 (nI (A + 1)).toNatClampNeg + _)) = some m' ∧ _
          rw [nI_clamp (show A + 1 < 2 ^ 31 by omega)]
          exact ⟨_, rfl, put (A + 1) c4 hF⟩
        · rw [if_pos (show (4 : Int32) ≤ nI (A + 1) from nI_le (a := 4) (by omega) (by omega))]
          refine ⟨m2, rfl, P2.skip hk (fun a ha => ?_)⟩
          unfold sp_fall
          rw [if_neg (by omega)]
      · rw [if_neg cs]
        show ∃ m', (if (0 : Int32) = 0 then _ else _) = _ ∧ _
        have hF : ev_F μ sh i k = A := by rw [ev_F_eq, hA, if_neg cs]; rfl
        rw [if_pos rfl, if_pos (rt_in hac (by decide))]
        show ∃ m', ((fn_X1_share 2 (nI (nn (μ 6 k))) (nI (st_ μ A g)) (nI (ev_D μ sh i k)) m2).bind _) = _ ∧ _
        rw [rt_share q2 m23 (by omega) (by omega), Option.bind_some, ro_lt]
        show ∃ m', some (ro_set m2 30 (nI A).toNatClampNeg (m2 30 (nI A).toNatClampNeg + _)) = some m' ∧ _
        rw [nI_clamp (show A < 2 ^ 31 by omega)]
        exact ⟨_, rfl, put A hac hF⟩
  by_cases c1 : sp_share (μ 3) (nn (μ 6 k)) (st_ μ A g) 3 = 0
  · rw [if_pos (show nI (sp_share (μ 3) (nn (μ 6 k)) (st_ μ A g) 3) = 0 by rw [c1]; rfl)]
    by_cases c2 : sp_share (μ 3) (nn (μ 6 k)) nx 3 = 0
    · rw [if_pos (show nI (sp_share (μ 3) (nn (μ 6 k)) nx 3) = 0 by rw [c2]; rfl)]
      exact ⟨m, rfl, hP.skip hk (fall0 c1 c2)⟩
    · have := sp_share_le (μ 3) (nn (μ 6 k)) nx 3
      rw [if_neg (nI_ne0 (by omega) (by omega))]
      exact j103
  · have := sp_share_le (μ 3) (nn (μ 6 k)) (st_ μ A g) 3
    rw [if_neg (nI_ne0 (by omega) (by omega))]
    exact j103
/-- how wet a guest is in all, shifted -/
def gs_ (μ : ro_Mem) (N g : Nat) (sh : Int32) : Nat := sp_sum (fun a => gw_ μ sh N a g) 4
theorem gs_le {μ : ro_Mem} {N : Nat} (hN : N ≤ 32) (g : Nat) (sh : Int32) : gs_ μ N g sh ≤ 4 * 50688 := sp_sum_bd (fun a _ => gw_le hN sh a g)
/-- what the class's shiftedWet may change -/
def TCs (μ m : ro_Mem) : Prop := ∀ o, ¬ o = 30 → ¬ o = ro_rf μ 1 2 + 7 → ¬ o = ro_rf μ 1 2 + 8 → m o = μ o
theorem TCs.fr {μ m : ro_Mem} (hSW : iv_SW μ) (h : TCs μ m) : Fr μ m := by
  have hL := (cg_rf hSW).2
  exact Fr.of (fun o => o = 30 ∨ o = ro_rf μ 1 2 + 7 ∨ o = ro_rf μ 1 2 + 8) (fun o ho => h o (by omega) (by omega) (by omega)) (fun o ho => by unfold fr_id; omega)
theorem rt_shiftedWet {μ : ro_Mem} {N : Nat} {sh : Int32} {g : Nat} (hw : Wd μ N) (hg : g < 10) : ∃ m', fn_X9_shiftedWet (nI g) sh μ = some (nI (gs_ μ N g sh), m') ∧ TCs μ m' := by
  have hSW := hw.2.1
  have hN : N ≤ 32 := hw.2.2.2.2.2
  have hn : μ (ro_rf μ 1 1) 5 = nI N := hw.2.2.2.2.1
  obtain ⟨hs, hL⟩ := cg_rf hSW
  unfold fn_X9_shiftedWet
  rw [rt_fill (n := 4) (by decide +kernel) (by decide), Option.bind_some]
  have P0 : SHP μ sh g 0 (ro_arr μ 30 (rt_mix (fun _ => 0) (μ 30) 4)) := ⟨fun o h1 _ _ => ro_arr_ne _ _ h1, fun a ha => by rw [ro_arr_same, rt_mix_lt ha]; rfl⟩
  have hl : ∃ m', SHP μ sh g (16 * N) m' ∧ fl_X9_shiftedWet_10 (nI g) sh (0, ro_arr μ 30 (rt_mix (fun _ => 0) (μ 30) 4)) = some m' := by
    unfold fl_X9_shiftedWet_10
    refine rt_cnt (fun i (m' : ro_Mem) => (nI i, m')) (fun m' => m') N (fun i m' => SHP μ sh g (16 * i) m') ?_ ?_ ro_FU (Nat.lt_of_le_of_lt hN (by decide)) _ P0
    · intro i hi rec m hP
      show ∃ s', _ ∧ fb_X9_shiftedWet_10 (nI g) sh rec (nI i) m = rec (nI (i + 1), s')
      have r1 := (hP.fr hSW).rf.1
      have m5 : m (ro_rf μ 1 1) 5 = nI N := by rw [hP.1 _ (by omega) (by omega) (by omega)]; exact hn
      unfold fb_X9_shiftedWet_10
      rw [r1, if_pos (rt_score_id hs), m5, if_neg (nI_ge hi (by omega))]
      have hin : ∃ m', SHP μ sh g (16 * i + 16) m' ∧ fl_X9_shiftedWet_24 (nI g) sh (nI i) (0, m) = some m' := by
        unfold fl_X9_shiftedWet_24
        refine rt_cnt (fun k (m' : ro_Mem) => (nI k, m')) (fun m' => m') 16 (fun k m' => SHP μ sh g (16 * i + k) m') ?_ ?_ ro_FU (by decide) m hP
        · intro k hk rec m hP
          show ∃ s', _ ∧ fb_X9_shiftedWet_24 (nI g) sh (nI i) rec (nI k) m = rec (nI (k + 1), s')
          obtain ⟨m', e, hP'⟩ := rt_addShifted hw hg hi hk hP
          unfold fb_X9_shiftedWet_24
          rw [if_neg (show ¬ (16 : Int32) ≤ nI k from nI_ge (b := 16) hk (by decide)), e, Option.bind_some, nI_1]
          exact ⟨m', hP', rfl⟩
        · intro rec m _
          rfl
      obtain ⟨m', hP', e'⟩ := hin
      rw [e', Option.bind_some, nI_1]
      exact ⟨m', by rw [show 16 * (i + 1) = 16 * i + 16 by omega]; exact hP', rfl⟩
    · intro rec m hP
      show fb_X9_shiftedWet_10 (nI g) sh rec (nI N) m = some m
      have r1 := (hP.fr hSW).rf.1
      have m5 : m (ro_rf μ 1 1) 5 = nI N := by rw [hP.1 _ (by omega) (by omega) (by omega)]; exact hn
      unfold fb_X9_shiftedWet_10
      rw [r1, if_pos (rt_score_id hs), m5, if_pos (Int32.le_refl _)]
  obtain ⟨m', hP, e⟩ := hl
  rw [e, Option.bind_some]
  have key := rt_sumL (b := fun rec s => fb_X9_shiftedWet_57 (nI g) m' rec s.1 s.2) (fun a => gw_ μ sh N a g) 0 4 0 (by omega) (fun a ha rec x => by
    rw [Nat.zero_add]
    show fb_X9_shiftedWet_57 (nI g) m' rec (nI x) (nI a) = _
    obtain ⟨s1, s2, -, -⟩ := hw.st ha hg
    unfold fb_X9_shiftedWet_57 gw_
    rw [if_neg (show ¬ (4 : Int32) ≤ nI a from nI_ge (b := 4) ha (by decide)), rt_e10, if_pos (rt_in (n := 40) (by omega) (by decide)), nI_clamp (show 10 * a + g < 2 ^ 31 by omega), hP.1 11 (by omega) (by omega) (by omega), s1, ro_lt, nI_1]
    rcases s2 with e | e
    · rw [e, if_pos (show (96 : Int32) ≤ nI 255 by decide), if_neg (show ¬ 255 < 96 by decide), ro_lt, Int32.add_zero]
      rfl
    · obtain ⟨b1, b2, b3⟩ := hw.bu e
      have hal := ev_al_le μ sh hN a (st_ μ a g)
      have e4 : m' 4 (st_ μ a g) = nI (nn (μ 4 (st_ μ a g))) := by rw [hP.1 4 (by omega) (by omega) (by omega)]; exact b1
      have e30 : m' 30 a = nI (ev_al μ sh N a (st_ μ a g)) := hP.2 a ha
      rw [if_neg (show ¬ (96 : Int32) ≤ nI _ from nI_ge (b := 96) e (by decide)), if_pos e, if_pos (rt_in ha (by decide)), if_pos (rt_in e (by decide)), nI_clamp (show a < 2 ^ 31 by omega), nI_clamp (show st_ μ a g < 2 ^ 31 by omega), e30, e4, rt_mxs (by omega) (by omega), ro_lt, nI_add]
      rfl) (fun rec x => rfl)
  rw [Nat.zero_add] at key
  have key : fl_X9_shiftedWet_57 (nI g) m' (0, 0) = some (nI (gs_ μ N g sh)) := key
  rw [key, Option.bind_some]
  exact ⟨m', rfl, hP.1⟩
-- ===== whether all notes can be sung so =====
def cs_ (μ : ro_Mem) (N : Nat) (sh : Int32) : Bool := (sp_first (fun i => decide (iv_sc μ 2 i + sh < 0 ∨ (47 : Int32) < iv_sc μ 2 i + sh)) N 0).isNone
theorem lt48 (x : Int32) : x < 48 ↔ ¬ (47 : Int32) < x := by
  rw [fa_lt, fa_lt]
  have h1 : (48 : Int32).toInt = 48 := by decide
  have h2 : (47 : Int32).toInt = 47 := by decide
  omega
theorem rt_canShift {μ m : ro_Mem} {N : Nat} (hw : Wd μ N) (h : TCs μ m) (sh : Int32) : fn_X5_canShift (ro_rf μ 1 1) sh m = some (if cs_ μ N sh = true then 1 else 0) := by
  have hN : N ≤ 32 := hw.2.2.2.2.2
  obtain ⟨hs, hL⟩ := cg_rf hw.2.1
  have hn : m (ro_rf μ 1 1) 5 = nI N := by rw [h _ (by omega) (by omega) (by omega)]; exact hw.2.2.2.2.1
  have key : fl_X5_canShift_2 (ro_rf μ 1 1) sh m 0 = some (match sp_first (fun i => decide (iv_sc μ 2 i + sh < 0 ∨ (47 : Int32) < iv_sc μ 2 i + sh)) N 0 with
    | none => Sum.inr ()
    | some i => Sum.inl ()) := by
    unfold fl_X5_canShift_2
    refine rt_find (fun i => decide (iv_sc μ 2 i + sh < 0 ∨ (47 : Int32) < iv_sc μ 2 i + sh)) N (fun i => (Sum.inl () : Unit ⊕ Unit)) (Sum.inr ()) ?_ ?_ ro_FU (Nat.lt_of_le_of_lt hN (by decide))
    · intro i hi rec
      show fb_X5_canShift_2 (ro_rf μ 1 1) sh m rec (nI i) = _
      obtain ⟨hnt, -⟩ := hw.nt hi
      have e2 : m (ro_rf μ 1 1 + 2) i = iv_sc μ 2 i := by rw [h _ (by omega) (by omega) (by omega), (hnt 2 (by decide) (by decide)).1, (hnt 2 (by decide) (by decide)).2.2]
      unfold fb_X5_canShift_2
      rw [hn, if_neg (nI_ge hi (by omega)), if_pos (rt_in (n := 32) (by omega) (by decide)), nI_clamp (show i < 2 ^ 31 by omega), e2, nI_1]
      by_cases c1 : iv_sc μ 2 i + sh < 0
      · rw [if_pos c1, if_pos (decide_eq_true (Or.inl c1))]
      · rw [if_neg c1]
        by_cases c2 : (47 : Int32) < iv_sc μ 2 i + sh
        · rw [if_neg (fun q => (lt48 _).mp q c2), if_pos (decide_eq_true (Or.inr c2))]
        · rw [if_pos ((lt48 _).mpr c2), if_neg (by simp [c1, c2])]
    · intro rec
      show fb_X5_canShift_2 (ro_rf μ 1 1) sh m rec (nI N) = _
      unfold fb_X5_canShift_2
      rw [hn, if_pos (Int32.le_refl _)]
  unfold fn_X5_canShift cs_
  rw [key, Option.bind_some]
  cases sp_first (fun i => decide (iv_sc μ 2 i + sh < 0 ∨ (47 : Int32) < iv_sc μ 2 i + sh)) N 0 <;> rfl
theorem rt_canBeSung {μ m : ro_Mem} {N : Nat} (hw : Wd μ N) (h219 : m 219 = μ 219) (h18 : m 207 18 = μ 207 18) (sh : Int32) : fn_X12_canBeSung sh m = some (if cs_ μ N sh = true then 1 else 0) := by
  have hN : N ≤ 32 := hw.2.2.2.2.2
  have hn : m 207 18 = nI N := by rw [h18]; exact hw.notes.1
  have key : fl_X12_canBeSung_2 sh m 0 = some (match sp_first (fun i => decide (iv_sc μ 2 i + sh < 0 ∨ (47 : Int32) < iv_sc μ 2 i + sh)) N 0 with
    | none => Sum.inr ()
    | some i => Sum.inl ()) := by
    unfold fl_X12_canBeSung_2
    refine rt_find (fun i => decide (iv_sc μ 2 i + sh < 0 ∨ (47 : Int32) < iv_sc μ 2 i + sh)) N (fun i => (Sum.inl () : Unit ⊕ Unit)) (Sum.inr ()) ?_ ?_ ro_FU (Nat.lt_of_le_of_lt hN (by decide))
    · intro i hi rec
      show fb_X12_canBeSung_2 sh m rec (nI i) = _
      obtain ⟨hnt, -⟩ := hw.nt hi
      have e2 : m 219 i = iv_sc μ 2 i := by rw [h219, (hnt 2 (by decide) (by decide)).2.2]; exact (hnt 2 (by decide) (by decide)).2.1
      unfold fb_X12_canBeSung_2
      rw [hn, if_neg (nI_ge hi (by omega)), if_pos (rt_in (n := 32) (by omega) (by decide)), nI_clamp (show i < 2 ^ 31 by omega), e2, nI_1, rt_inn, Option.bind_some]
      by_cases c : iv_sc μ 2 i + sh < 0 ∨ (47 : Int32) < iv_sc μ 2 i + sh
      · rw [if_pos c, if_pos rfl, if_pos (decide_eq_true c)]
      · rw [if_neg c, if_neg rt_10, if_neg (by simpa using c)]
    · intro rec
      show fb_X12_canBeSung_2 sh m rec (nI N) = _
      unfold fb_X12_canBeSung_2
      rw [hn, if_pos (Int32.le_refl _)]
  unfold fn_X12_canBeSung cs_
  rw [key, Option.bind_some]
  cases sp_first (fun i => decide (iv_sc μ 2 i + sh < 0 ∨ (47 : Int32) < iv_sc μ 2 i + sh)) N 0 <;> rfl
theorem cs_0 {μ : ro_Mem} {N : Nat} (hw : Wd μ N) : cs_ μ N 0 = true := by
  unfold cs_
  cases e : sp_first (fun i => decide (iv_sc μ 2 i + 0 < 0 ∨ (47 : Int32) < iv_sc μ 2 i + 0)) N 0 with
  | none => rfl
  | some i =>
    exfalso
    obtain ⟨-, h2, h3, -⟩ := sp_first_some e
    have h3 := of_decide_eq_true h3
    obtain ⟨hnt, -, hp, -⟩ := hw.nt (show i < N by omega)
    rw [Int32.add_zero, (hnt 2 (by decide) (by decide)).2.2] at h3
    rcases h3 with h3 | h3
    · exact nI_pos (by omega) h3
    · exact nI_nlt (a := 47) (b := nt_ μ 2 i) (by omega) (by decide) h3
-- ===== the best shift =====
def tr_1 (W : Int32 → Nat) (C : Int32 → Bool) (p : Int32 × Nat) (sh : Int32) : Int32 × Nat := if C sh = true ∧ W sh < p.2 then (sh, W sh) else p
def tr_ (W : Int32 → Nat) (C : Int32 → Bool) : Nat → Int32 × Nat
  | 0 => (0, W 0)
  | s + 1 => tr_1 W C (tr_1 W C (tr_ W C s) (nI (s + 1))) (0 - nI (s + 1))
theorem tr_1_0 {W : Int32 → Nat} {C : Int32 → Bool} {p : Int32 × Nat} {sh : Int32} (h : p.2 = 0) : tr_1 W C p sh = p := by
  unfold tr_1
  rw [if_neg (by rw [h]; omega)]
theorem tr_0 {W : Int32 → Nat} {C : Int32 → Bool} {s : Nat} (h : (tr_ W C s).2 = 0) : ∀ j, tr_ W C (s + j) = tr_ W C s := by
  intro j
  induction j with
  | zero => rfl
  | succ j ih =>
    show tr_1 W C (tr_1 W C (tr_ W C (s + j)) (nI (s + j + 1))) (0 - nI (s + j + 1)) = _
    rw [ih, tr_1_0 h, tr_1_0 h]
theorem tr_1_le {W : Int32 → Nat} {C : Int32 → Bool} {B : Nat} (hW : ∀ sh, W sh ≤ B) {p : Int32 × Nat} {sh : Int32} (h : p.2 ≤ B) : (tr_1 W C p sh).2 ≤ B := by
  unfold tr_1
  by_cases c : C sh = true ∧ W sh < p.2
  · rw [if_pos c]; exact hW sh
  · rw [if_neg c]; exact h
theorem tr_le {W : Int32 → Nat} {C : Int32 → Bool} {B : Nat} (hW : ∀ sh, W sh ≤ B) : ∀ s, (tr_ W C s).2 ≤ B := by
  intro s
  induction s with
  | zero => exact hW 0
  | succ s ih => exact tr_1_le hW (tr_1_le hW ih)
theorem tr_sg : ∀ s, s < 13 → 1 ≤ s → ¬ nI s < 0 - nI s ∧ nI s - 2 * nI s = 0 - nI s ∧ ¬ 0 - nI s < 0 - nI s ∧ 0 - nI s - 2 * nI s < 0 - nI s ∧ 1 * nI s = nI s ∧ -1 * nI s = 0 - nI s ∧ ¬ nI s = 0 := by decide +kernel
theorem rt_trC1 {μ : ro_Mem} {N g : Nat} {v2 : Int32} {s : Nat} (hw : Wd μ N) (hg : g < 10) (hs1 : 1 ≤ s) (hs : s < 13) {p : Int32 × Nat} (hp : p.2 ≤ 4 * 50688) {m : ro_Mem} (hm : TCs μ m) : ∃ m', TCs μ m' ∧ fl_X11_transposed_71 (nI g) v2 (nI s) (p.1, nI p.2, nI s, m) = some ((tr_1 (gs_ μ N g) (cs_ μ N) (tr_1 (gs_ μ N g) (cs_ μ N) p (nI s)) (0 - nI s)).1, nI (tr_1 (gs_ μ N g) (cs_ μ N) (tr_1 (gs_ μ N g) (cs_ μ N) p (nI s)) (0 - nI s)).2, m') := by
  have hN : N ≤ 32 := hw.2.2.2.2.2
  obtain ⟨hsc, hL⟩ := cg_rf hw.2.1
  obtain ⟨a1, a2, a3, a4, -⟩ := tr_sg s hs hs1
  have step : ∀ (p : Int32 × Nat) (sh : Int32) (m : ro_Mem) (rec : (Int32 × Int32 × Int32 × ro_Mem) → Option (Int32 × Int32 × ro_Mem)), p.2 ≤ 4 * 50688 → ¬ sh < 0 - nI s → TCs μ m → ∃ m', TCs μ m' ∧ fb_X11_transposed_71 (nI g) v2 (nI s) rec p.1 (nI p.2) sh m = rec ((tr_1 (gs_ μ N g) (cs_ μ N) p sh).1, nI (tr_1 (gs_ μ N g) (cs_ μ N) p sh).2, sh - 2 * nI s, m') := by
    intro p sh m rec hp hsh hm
    have hfr := hm.fr hw.2.1
    unfold fb_X11_transposed_71
    rw [if_neg hsh, hfr.rf.1, if_pos (rt_score_id hsc), rt_canShift hw hm, Option.bind_some]
    unfold fj_X11_transposed_109 fj_X11_transposed_125 tr_1
    by_cases c : cs_ μ N sh = true
    · obtain ⟨m', e, h'⟩ := rt_shiftedWet (sh := sh) (hw.fr hfr) hg
      have eg : gs_ m N g sh = gs_ μ N g sh := by
        unfold gs_
        exact sp_sum_cg (fun a _ => (hfr.wt hw.2.1 N).2.2.2.2.2.2.1 sh a g)
      rw [eg] at e
      have hle := gs_le (μ := μ) hN g sh
      rw [if_pos c, if_neg rt_10, e, Option.bind_some]
      refine ⟨m', fun o h1 h2 h3 => ?_, ?_⟩
      · rw [h' o h1 (by rw [hfr.rf.2]; exact h2) (by rw [hfr.rf.2]; exact h3), hm o h1 h2 h3]
      · by_cases c2 : gs_ μ N g sh < p.2
        · rw [if_neg (nI_ge c2 (by omega)), if_pos ⟨c, c2⟩, ro_lt]
        · rw [if_pos (nI_le (by omega) (by omega)), if_neg (fun h => c2 h.2), ro_lt]
    · rw [if_neg c, if_pos rfl, if_pos (Int32.le_refl _), if_neg (fun h => c h.1), ro_lt]
      exact ⟨m, hm, rfl⟩
  have hW : ∀ sh, gs_ μ N g sh ≤ 4 * 50688 := fun sh => gs_le hN g sh
  unfold fl_X11_transposed_71
  show ∃ m', _ ∧ ro_loop (fun rec (s_1 : Int32 × Int32 × Int32 × ro_Mem) => fb_X11_transposed_71 (nI g) v2 (nI s) rec s_1.1 s_1.2.1 s_1.2.2.1 s_1.2.2.2) (199997 + 1 + 1 + 1) (p.1, nI p.2, nI s, m) = _
  generalize hb : (fun rec (s_1 : Int32 × Int32 × Int32 × ro_Mem) => fb_X11_transposed_71 (nI g) v2 (nI s) rec s_1.1 s_1.2.1 s_1.2.2.1 s_1.2.2.2) = b
  have hstep : ∀ (f : Nat) (q : Int32 × Int32 × Int32 × ro_Mem), ro_loop b (f + 1) q = fb_X11_transposed_71 (nI g) v2 (nI s) (ro_loop b f) q.1 q.2.1 q.2.2.1 q.2.2.2 := fun f q => by
    show b (ro_loop b f) q = _
    rw [← hb]
  rw [hstep]
  obtain ⟨m1, h1, e1⟩ := step p (nI s) m (ro_loop b (199997 + 1 + 1)) hp a1 hm
  show ∃ m', _ ∧ fb_X11_transposed_71 (nI g) v2 (nI s) (ro_loop b (199997 + 1 + 1)) p.1 (nI p.2) (nI s) m = _
  rw [e1, hstep, a2]
  obtain ⟨m2, h2, e2⟩ := step (tr_1 (gs_ μ N g) (cs_ μ N) p (nI s)) (0 - nI s) m1 (ro_loop b (199997 + 1)) (tr_1_le hW hp) a3 h1
  show ∃ m', _ ∧ fb_X11_transposed_71 (nI g) v2 (nI s) (ro_loop b (199997 + 1)) (tr_1 (gs_ μ N g) (cs_ μ N) p (nI s)).1 (nI (tr_1 (gs_ μ N g) (cs_ μ N) p (nI s)).2) (0 - nI s) m1 = _
  rw [e2, hstep]
  refine ⟨m2, h2, ?_⟩
  show fb_X11_transposed_71 (nI g) v2 (nI s) (ro_loop b 199997) (tr_1 (gs_ μ N g) (cs_ μ N) (tr_1 (gs_ μ N g) (cs_ μ N) p (nI s)) (0 - nI s)).1 (nI (tr_1 (gs_ μ N g) (cs_ μ N) (tr_1 (gs_ μ N g) (cs_ μ N) p (nI s)) (0 - nI s)).2) (0 - nI s - 2 * nI s) m2 = _
  unfold fb_X11_transposed_71
  rw [if_pos a4]
theorem rt_trC {μ : ro_Mem} {N g : Nat} {v2 : Int32} (hw : Wd μ N) (hg : g < 10) {m : ro_Mem} (hm : TCs μ m) : ∃ m', TCs μ m' ∧ fl_X11_transposed_55 (nI g) v2 (0, nI (gs_ μ N g 0), 1, m) = some ((tr_ (gs_ μ N g) (cs_ μ N) 12).1, nI (tr_ (gs_ μ N g) (cs_ μ N) 12).2, m') := by
  have hN : N ≤ 32 := hw.2.2.2.2.2
  have hW : ∀ sh, gs_ μ N g sh ≤ 4 * 50688 := fun sh => gs_le hN g sh
  have key : ∀ k s fuel m, s + k = 12 → k < fuel → TCs μ m → ∃ m', TCs μ m' ∧ ro_loop (fun rec (s_1 : Int32 × Int32 × Int32 × ro_Mem) => fb_X11_transposed_55 (nI g) v2 rec s_1.1 s_1.2.1 s_1.2.2.1 s_1.2.2.2) fuel ((tr_ (gs_ μ N g) (cs_ μ N) s).1, nI (tr_ (gs_ μ N g) (cs_ μ N) s).2, nI (s + 1), m) = some ((tr_ (gs_ μ N g) (cs_ μ N) 12).1, nI (tr_ (gs_ μ N g) (cs_ μ N) 12).2, m') := by
    intro k
    induction k with
    | zero =>
      intro s fuel m hs hf hm
      cases fuel with
      | zero => omega
      | succ f =>
        have : s = 12 := by omega
        subst this
        refine ⟨m, hm, ?_⟩
        show fb_X11_transposed_55 (nI g) v2 _ _ _ (nI 13) m = _
        unfold fb_X11_transposed_55
        rw [if_pos (show (12 : Int32) < nI 13 by decide)]
    | succ k ih =>
      intro s fuel m hs hf hm
      cases fuel with
      | zero => omega
      | succ f =>
        have hle := tr_le (C := cs_ μ N) hW s
        show ∃ m', _ ∧ fb_X11_transposed_55 (nI g) v2 (ro_loop _ f) (tr_ (gs_ μ N g) (cs_ μ N) s).1 (nI (tr_ (gs_ μ N g) (cs_ μ N) s).2) (nI (s + 1)) m = _
        unfold fb_X11_transposed_55
        rw [if_neg (show ¬ (12 : Int32) < nI (s + 1) from nI_nlt (a := 12) (by omega) (by decide))]
        by_cases c : (tr_ (gs_ μ N g) (cs_ μ N) s).2 = 0
        · refine ⟨m, hm, ?_⟩
          have := tr_0 c (k + 1)
          rw [hs] at this
          rw [if_pos (show nI (tr_ (gs_ μ N g) (cs_ μ N) s).2 ≤ 0 by rw [c]; exact Int32.le_refl _), this]
        · obtain ⟨m1, h1, e1⟩ := rt_trC1 (v2 := v2) (s := s + 1) hw hg (by omega) (by omega) hle hm
          rw [if_neg (nI_nle (by omega) (by omega)), e1, Option.bind_some, nI_1]
          exact ih (s + 1) f m1 (by omega) (by omega) h1
  exact key 12 0 ro_FU m (by omega) (by decide) hm
/-- what the reference's transposed may change -/
def TMs (M m : ro_Mem) : Prop := (∀ o, ¬ o = 207 → ¬ (239 ≤ o ∧ o ≤ 242) → m o = M o) ∧ ∀ k, ¬ k = 52 → m 207 k = M 207 k
theorem TMs.fr {M m : ro_Mem} (h : TMs M m) : Fr M m := ⟨fun o ho => h.1 o (by unfold fr_id at ho; omega) (by unfold fr_id at ho; omega), fun k _ => by rw [h.1 0 (by omega) (by omega)], fun k hk => h.2 k (by unfold fr_k at hk; omega)⟩
theorem rt_trM0 {M : ro_Mem} {N g : Nat} {v2 v5 v6 sh : Int32} (hw : Wd M N) (hg : g < 10) (ht : bt (M 2 11) g = true) {p1 : Int32} {p2 : Nat} (hp : p2 ≤ 1000000000) (hsh : v6 * v5 = sh) {m : ro_Mem} (hm : TMs M m) (rec : (Int32 × Int32 × Int32 × ro_Mem) → Option (Int32 × Int32 × ro_Mem)) : ∃ m', TMs M m' ∧ fj_X12_transposed_63 rec (nI g) v2 p1 (nI p2) v5 v6 m = rec ((tr_1 (gs_ M N g) (cs_ M N) (p1, p2) sh).1, nI (tr_1 (gs_ M N g) (cs_ M N) (p1, p2) sh).2, v6 - 2, m') := by
  have hN : N ≤ 32 := hw.2.2.2.2.2
  unfold fj_X12_transposed_63 tr_1
  rw [hsh, rt_canBeSung hw (hm.1 219 (by omega) (by omega)) (hm.2 18 (by omega)), Option.bind_some]
  by_cases c : cs_ M N sh = true
  · rw [if_pos c, if_neg rt_10, ro_lt]
    obtain ⟨m14, e14⟩ : ∃ m14, m14 = ro_set m 207 52 sh := ⟨_, rfl⟩
    rw [← e14]
    have h14 : TMs M m14 := ⟨fun o h1 h2 => by rw [e14, ro_set_ne _ _ _ h1]; exact hm.1 o h1 h2, fun k hk => by rw [e14, ro_set_same, pk_un hk]; exact hm.2 k hk⟩
    have hf14 := h14.fr
    have hw14 := hw.fr hf14
    obtain ⟨m16, e16, hP⟩ := rt_lays (sh := sh) hw14 (by rw [e14, ro_set_same, pk_us])
    have ht14 : bt (m14 2 11) g = true := by rw [h14.1 2 (by omega) (by omega)]; exact ht
    have hle := gs_le (μ := M) hN g sh
    have eg : sp_sum (fun a => gw_ m14 sh N a g) 4 = gs_ M N g sh := by
      unfold gs_
      exact sp_sum_cg (fun a _ => (hf14.wt hw.2.1 N).2.2.2.2.2.2.1 sh a g)
    rw [e16, Option.bind_some, rt_guestWetAll hw14 hP.lm hg ht14 (hP.1 216 (by omega) (by omega) (by omega) (by omega)), Option.bind_some, eg]
    refine ⟨m16, ⟨fun o h1 h2 => by rw [hP.1 o (by omega) (by omega) (by omega) (by omega)]; exact h14.1 o h1 h2, fun k hk => by rw [hP.1 207 (by omega) (by omega) (by omega) (by omega)]; exact h14.2 k hk⟩, ?_⟩
    by_cases c2 : gs_ M N g sh < p2
    · rw [if_pos (nI_lt c2 (by omega)), if_pos ⟨c, c2⟩, ro_lt, ro_lt]
    · rw [if_neg (nI_nlt (by omega) (by omega)), if_neg (fun h => c2 h.2), ro_lt]
  · rw [if_neg c, if_pos rfl, if_neg (fun h => c h.1), ro_lt]
    exact ⟨m, hm, rfl⟩
theorem rt_trM1 {M : ro_Mem} {N g : Nat} {v2 : Int32} {s : Nat} (hw : Wd M N) (hg : g < 10) (ht : bt (M 2 11) g = true) (hs1 : 1 ≤ s) (hs : s < 13) {p : Int32 × Nat} (hp : p.2 ≤ 4 * 50688) {m : ro_Mem} (hm : TMs M m) : ∃ m', TMs M m' ∧ fl_X12_transposed_47 (nI g) v2 (nI s) (p.1, nI p.2, 1, m) = some ((tr_1 (gs_ M N g) (cs_ M N) (tr_1 (gs_ M N g) (cs_ M N) p (nI s)) (0 - nI s)).1, nI (tr_1 (gs_ M N g) (cs_ M N) (tr_1 (gs_ M N g) (cs_ M N) p (nI s)) (0 - nI s)).2, m') := by
  have hN : N ≤ 32 := hw.2.2.2.2.2
  have hW : ∀ sh, gs_ M N g sh ≤ 4 * 50688 := fun sh => gs_le hN g sh
  obtain ⟨-, -, -, -, a1, a2, a3⟩ := tr_sg s hs hs1
  unfold fl_X12_transposed_47
  show ∃ m', _ ∧ ro_loop (fun rec (s_1 : Int32 × Int32 × Int32 × ro_Mem) => fb_X12_transposed_47 (nI g) v2 (nI s) rec s_1.1 s_1.2.1 s_1.2.2.1 s_1.2.2.2) (199997 + 1 + 1 + 1) (p.1, nI p.2, 1, m) = _
  generalize hb : (fun rec (s_1 : Int32 × Int32 × Int32 × ro_Mem) => fb_X12_transposed_47 (nI g) v2 (nI s) rec s_1.1 s_1.2.1 s_1.2.2.1 s_1.2.2.2) = b
  have hstep : ∀ (f : Nat) (q : Int32 × Int32 × Int32 × ro_Mem), ro_loop b (f + 1) q = fb_X12_transposed_47 (nI g) v2 (nI s) (ro_loop b f) q.1 q.2.1 q.2.2.1 q.2.2.2 := fun f q => by
    show b (ro_loop b f) q = _
    rw [← hb]
  rw [hstep]
  obtain ⟨m1, h1, e1⟩ := rt_trM0 (v2 := v2) (v5 := nI s) (v6 := 1) (p1 := p.1) (p2 := p.2) hw hg ht (by omega) a1 hm (ro_loop b (199997 + 1 + 1))
  show ∃ m', _ ∧ fb_X12_transposed_47 (nI g) v2 (nI s) (ro_loop b (199997 + 1 + 1)) p.1 (nI p.2) 1 m = _
  unfold fb_X12_transposed_47
  rw [if_neg (show ¬ (1 : Int32) < -1 by decide), if_neg a3, e1, show (1 : Int32) - 2 = -1 from rfl, hstep]
  have hp1 : (tr_1 (gs_ M N g) (cs_ M N) p (nI s)).2 ≤ 4 * 50688 := tr_1_le hW hp
  obtain ⟨m2, h2, e2⟩ := rt_trM0 (v2 := v2) (v5 := nI s) (v6 := -1) (p1 := (tr_1 (gs_ M N g) (cs_ M N) p (nI s)).1) (p2 := (tr_1 (gs_ M N g) (cs_ M N) p (nI s)).2) hw hg ht (by omega) a2 h1 (ro_loop b (199997 + 1))
  show ∃ m', _ ∧ fb_X12_transposed_47 (nI g) v2 (nI s) (ro_loop b (199997 + 1)) (tr_1 (gs_ M N g) (cs_ M N) p (nI s)).1 (nI (tr_1 (gs_ M N g) (cs_ M N) p (nI s)).2) (-1) m1 = _
  unfold fb_X12_transposed_47
  rw [if_neg (show ¬ (-1 : Int32) < -1 by decide), if_neg a3, e2, show (-1 : Int32) - 2 = -3 from rfl, hstep]
  refine ⟨m2, h2, ?_⟩
  show fb_X12_transposed_47 (nI g) v2 (nI s) (ro_loop b 199997) _ _ (-3) m2 = _
  unfold fb_X12_transposed_47
  rw [if_pos (show (-3 : Int32) < -1 by decide)]
theorem rt_trM {M : ro_Mem} {N g : Nat} {v2 : Int32} (hw : Wd M N) (hg : g < 10) (ht : bt (M 2 11) g = true) : ∃ m', TMs M m' ∧ fl_X12_transposed_37 (nI g) v2 (0, 1000000000, 0, M) = some ((tr_ (gs_ M N g) (cs_ M N) 12).1, nI (tr_ (gs_ M N g) (cs_ M N) 12).2, m') := by
  have hN : N ≤ 32 := hw.2.2.2.2.2
  have hW : ∀ sh, gs_ M N g sh ≤ 4 * 50688 := fun sh => gs_le hN g sh
  have first : ∃ m', TMs M m' ∧ fl_X12_transposed_47 (nI g) v2 0 (0, 1000000000, 1, M) = some (0, nI (gs_ M N g 0), m') := by
    unfold fl_X12_transposed_47
    show ∃ m', _ ∧ ro_loop (fun rec (s_1 : Int32 × Int32 × Int32 × ro_Mem) => fb_X12_transposed_47 (nI g) v2 0 rec s_1.1 s_1.2.1 s_1.2.2.1 s_1.2.2.2) (199997 + 1 + 1 + 1) (0, 1000000000, 1, M) = _
    generalize hb : (fun rec (s_1 : Int32 × Int32 × Int32 × ro_Mem) => fb_X12_transposed_47 (nI g) v2 0 rec s_1.1 s_1.2.1 s_1.2.2.1 s_1.2.2.2) = b
    have hstep : ∀ (f : Nat) (q : Int32 × Int32 × Int32 × ro_Mem), ro_loop b (f + 1) q = fb_X12_transposed_47 (nI g) v2 0 (ro_loop b f) q.1 q.2.1 q.2.2.1 q.2.2.2 := fun f q => by
      show b (ro_loop b f) q = _
      rw [← hb]
    rw [hstep]
    obtain ⟨m1, h1, e1⟩ := rt_trM0 (v2 := v2) (v5 := 0) (v6 := 1) (sh := 0) (p1 := 0) (p2 := 1000000000) hw hg ht (by omega) (by decide) (⟨fun _ _ _ => rfl, fun _ _ => rfl⟩ : TMs M M) (ro_loop b (199997 + 1 + 1))
    have et : tr_1 (gs_ M N g) (cs_ M N) (0, 1000000000) 0 = (0, gs_ M N g 0) := by
      unfold tr_1
      have := hW 0
      rw [if_pos ⟨cs_0 hw, by show _ < 1000000000; omega⟩]
    rw [et] at e1
    have e1 : fj_X12_transposed_63 (ro_loop b (199997 + 1 + 1)) (nI g) v2 0 1000000000 0 1 M = _ := e1
    show ∃ m', _ ∧ fb_X12_transposed_47 (nI g) v2 0 (ro_loop b (199997 + 1 + 1)) 0 1000000000 1 M = _
    unfold fb_X12_transposed_47
    rw [if_neg (show ¬ (1 : Int32) < -1 by decide), if_pos rfl, if_neg (show ¬ (1 : Int32) < 0 by decide), e1, show (1 : Int32) - 2 = -1 from rfl, hstep]
    show ∃ m', _ ∧ fb_X12_transposed_47 (nI g) v2 0 (ro_loop b (199997 + 1)) 0 (nI (gs_ M N g 0)) (-1) m1 = _
    unfold fb_X12_transposed_47
    rw [if_neg (show ¬ (-1 : Int32) < -1 by decide), if_pos rfl, if_pos (show (-1 : Int32) < 0 by decide), ro_lt, show (-1 : Int32) - 2 = -3 from rfl, hstep]
    refine ⟨m1, h1, ?_⟩
    show fb_X12_transposed_47 (nI g) v2 0 (ro_loop b 199997) 0 (nI (gs_ M N g 0)) (-3) m1 = _
    unfold fb_X12_transposed_47
    rw [if_pos (show (-3 : Int32) < -1 by decide)]
  obtain ⟨m1, h1, e1⟩ := first
  unfold fl_X12_transposed_37
  have key : ∃ m', TMs M m' ∧ ro_loop (fun rec (s_1 : Int32 × Int32 × Int32 × ro_Mem) => fb_X12_transposed_37 (nI g) v2 rec s_1.1 s_1.2.1 s_1.2.2.1 s_1.2.2.2) 199999 (0, nI (gs_ M N g 0), 1, m1) = some ((tr_ (gs_ M N g) (cs_ M N) 12).1, nI (tr_ (gs_ M N g) (cs_ M N) 12).2, m') := by
    refine rt_cnt (fun s (m' : ro_Mem) => ((tr_ (gs_ M N g) (cs_ M N) s).1, nI (tr_ (gs_ M N g) (cs_ M N) s).2, nI (s + 1), m')) (fun m' => ((tr_ (gs_ M N g) (cs_ M N) 12).1, nI (tr_ (gs_ M N g) (cs_ M N) 12).2, m')) 12 (fun _ m' => TMs M m') ?_ ?_ 199999 (by decide) m1 h1
    · intro s hs rec m hP
      show ∃ s', _ ∧ fb_X12_transposed_37 (nI g) v2 rec (tr_ (gs_ M N g) (cs_ M N) s).1 (nI (tr_ (gs_ M N g) (cs_ M N) s).2) (nI (s + 1)) m = _
      obtain ⟨m2, h2, e2⟩ := rt_trM1 (v2 := v2) (s := s + 1) hw hg ht (by omega) (by omega) (tr_le (C := cs_ M N) hW s) hP
      unfold fb_X12_transposed_37
      rw [if_neg (show ¬ (12 : Int32) < nI (s + 1) from nI_nlt (a := 12) (by omega) (by decide)), e2, Option.bind_some, nI_1]
      exact ⟨m2, h2, rfl⟩
    · intro rec m _
      show fb_X12_transposed_37 (nI g) v2 rec _ _ (nI 13) m = _
      unfold fb_X12_transposed_37
      rw [if_pos (show (12 : Int32) < nI 13 by decide)]
  obtain ⟨m', h', e'⟩ := key
  refine ⟨m', h', ?_⟩
  show ro_loop (fun rec (s_1 : Int32 × Int32 × Int32 × ro_Mem) => fb_X12_transposed_37 (nI g) v2 rec s_1.1 s_1.2.1 s_1.2.2.1 s_1.2.2.2) (199999 + 1) (0, 1000000000, 0, M) = _
  rw [← e']
  generalize hb : (ro_loop (fun rec (s_1 : Int32 × Int32 × Int32 × ro_Mem) => fb_X12_transposed_37 (nI g) v2 rec s_1.1 s_1.2.1 s_1.2.2.1 s_1.2.2.2) 199999) = R
  show fb_X12_transposed_37 (nI g) v2 (ro_loop (fun rec (s_1 : Int32 × Int32 × Int32 × ro_Mem) => fb_X12_transposed_37 (nI g) v2 rec s_1.1 s_1.2.1 s_1.2.2.1 s_1.2.2.2) 199999) 0 1000000000 0 M = _
  rw [hb]
  unfold fb_X12_transposed_37
  rw [if_neg (show ¬ (12 : Int32) < 0 by decide), e1, Option.bind_some]
  rfl
theorem op_transposed (a b : Int32) (μ : ro_Mem) (hI : Inv μ) : ∃ r μ1 μ2, fn_X11_transposed a b μ = some (r, μ1) ∧ fn_X12_transposed a b μ1 = some (r, μ2) ∧ Inv μ2 := by
  obtain ⟨N, hw⟩ := hI.wd
  have hn : μ (ro_rf μ 1 1) 5 = nI N := hw.2.2.2.2.1
  have hm : μ 207 18 = nI N := hw.notes.1
  have hN : N ≤ 32 := hw.2.2.2.2.2
  rcases rt_isG hw a with ⟨h1, h2⟩ | ⟨g, hg, rfl, ht, h1, h2⟩
  · refine ⟨-100, μ, μ, ?_, ?_, hI⟩
    · unfold fn_X11_transposed; rw [h1, Option.bind_some, if_pos rfl]
    · unfold fn_X12_transposed; rw [h2, Option.bind_some, if_pos rfl]
  · rcases rt_ix b 2 (by decide) with hb | ⟨j, hj, rfl⟩
    · refine ⟨-100, μ, μ, ?_, ?_, hI⟩
      · unfold fn_X11_transposed
        rw [h1, Option.bind_some, if_neg rt_10]
        rcases hb with h | h
        · rw [if_pos h]
        · by_cases c : b < 0
          · rw [if_pos c]
          · rw [if_neg c, if_pos (by rw [fa_lt]; rw [fa_le] at h; have h5 : (nI 2).toInt = 2 := by decide
                                     have h4 : (1 : Int32).toInt = 1 := by decide
                                     omega)]
      · unfold fn_X12_transposed
        rw [h2, Option.bind_some, if_neg rt_10, show fn_X12_in b 0 1 = some 0 from rt_inO 0 2 (by decide) (by decide) hb, Option.bind_some, if_pos rfl]
    · have i1 : fn_X12_in (nI j) 0 1 = some 1 := by
        have := rt_inI (a := 0) (n := 2) (j := j) (by decide) hj
        rwa [Nat.zero_add] at this
      have c1 : ¬ (1 : Int32) < nI j := nI_nlt (a := 1) (by omega) (by decide)
      by_cases hN0 : N = 0
      · refine ⟨-100, μ, μ, ?_, ?_, hI⟩
        · unfold fn_X11_transposed
          rw [h1, Option.bind_some, if_neg rt_10, if_neg (nI_pos (by omega)), if_neg c1, if_pos (rt_sc5 hw.2.1).1, hn, if_pos (by rw [hN0]; rfl)]
        · unfold fn_X12_transposed
          rw [h2, Option.bind_some, if_neg rt_10, i1, Option.bind_some, if_neg rt_10, hm, if_pos (by rw [hN0]; rfl)]
      · obtain ⟨m0, e0, t0⟩ := rt_shiftedWet (sh := 0) hw hg
        obtain ⟨M, t1, e1⟩ := rt_trC (v2 := nI j) hw hg t0
        have hfr := t1.fr hw.2.1
        have hL := (cg_rf hw.2.1).2
        have hwM := hw.fr hfr
        have hIM : Inv M := hI.scr (fun o ho => t1 o (fun q => ho (by unfold qy_s; omega)) (fun q => ho (by unfold qy_s; omega)) (fun q => ho (by unfold qy_s; omega)))
        have htM : bt (M 2 11) g = true := by rw [t1 2 (by omega) (by omega) (by omega)]; exact ht
        obtain ⟨m3, t3, e3⟩ := rt_trM (v2 := nI j) hwM hg htM
        have hgs : gs_ M N g = gs_ μ N g := by
          funext sh
          unfold gs_
          exact sp_sum_cg (fun a _ => (hfr.wt hw.2.1 N).2.2.2.2.2.2.1 sh a g)
        have hcs : cs_ M N = cs_ μ N := by
          funext sh
          unfold cs_
          rw [(hfr.eve hw.2.1).1]
        rw [hgs, hcs] at e3
        have cls : fn_X11_transposed (nI g) (nI j) μ = if nI j = 0 then some ((tr_ (gs_ μ N g) (cs_ μ N) 12).1, M) else some (nI (tr_ (gs_ μ N g) (cs_ μ N) 12).2, M) := by
          unfold fn_X11_transposed fj_X11_transposed_143
          rw [h1, Option.bind_some, if_neg rt_10, if_neg (nI_pos (by omega)), if_neg c1, if_pos (rt_sc5 hw.2.1).1, hn, if_neg (nI_ne0 (by omega) (by omega)), e0, Option.bind_some, e1, Option.bind_some]
        have md : fn_X12_transposed (nI g) (nI j) M = if nI j = 0 then some ((tr_ (gs_ μ N g) (cs_ μ N) 12).1, ro_set m3 207 52 0) else some (nI (tr_ (gs_ μ N g) (cs_ μ N) 12).2, ro_set m3 207 52 0) := by
          have h2M : fn_X12_isGuest (nI g) M = some 1 := by rw [rt_guestM hg, hwM.gst, if_pos htM]
          unfold fn_X12_transposed
          rw [h2M, Option.bind_some, if_neg rt_10, i1, Option.bind_some, if_neg rt_10, hwM.notes.1, if_neg (nI_ne0 (by omega) (by omega)), e3, Option.bind_some, ro_lt]
        have hIf : Inv (ro_set m3 207 52 0) := by
          refine hIM.scr (fun o ho => ?_)
          by_cases c : o = 207
          · subst c
            funext k
            rw [ro_set_same]
            by_cases ck : k = 52
            · rw [ck, pk_us]; exact hIM.2.2.2.2.2.2.2.symm
            · rw [pk_un ck]; exact t3.2 k ck
          · rw [ro_set_ne _ _ _ c]
            exact t3.1 o c (fun q => ho (by unfold qy_s; omega))
        by_cases cj : nI j = 0
        · rw [if_pos cj] at cls md
          exact ⟨_, _, _, cls, md, hIf⟩
        · rw [if_neg cj] at cls md
          exact ⟨_, _, _, cls, md, hIf⟩
