-- ===== the house =====
theorem Fr.wt {μ M : ro_Mem} (hSW : iv_SW μ) (h : Fr μ M) (N : Nat) : (∀ sh a s, ev_wt M sh N a s = ev_wt μ sh N a s) ∧ (∀ a s, ev_W M N a s = ev_W μ N a s) ∧ (∀ i, ev_N M N i = ev_N μ N i) ∧ (∀ k, ev_K M N k = ev_K μ N k) ∧ (∀ sh a s i, ev_fn M sh a s i = ev_fn μ sh a s i) ∧ (∀ sh a s k, ev_fs M sh N a s k = ev_fs μ sh N a s k) ∧ (∀ sh a g, gw_ M sh N a g = gw_ μ sh N a g) ∧ (∀ a g, st_ M a g = st_ μ a g) := by
  obtain ⟨v1, v2, v3⟩ := h.ev hSW
  have f3 : M 3 = μ 3 := h.1 3 (by unfold fr_id; omega)
  have f4 : M 4 = μ 4 := h.1 4 (by unfold fr_id; omega)
  have f6 : M 6 = μ 6 := h.1 6 (by unfold fr_id; omega)
  have f11 : M 11 = μ 11 := h.1 11 (by unfold fr_id; omega)
  unfold gw_ st_ ev_wt ev_al ev_W ev_N ev_K ev_fn ev_fs ev_fl
  rw [v1, v2, f3, f4, f6, f11]
  exact ⟨fun _ _ _ => rfl, fun _ _ => rfl, fun _ => rfl, fun _ => rfl, fun _ _ _ _ => rfl, fun _ _ _ _ => rfl, fun _ _ _ => rfl, fun _ _ => rfl⟩
theorem rt_len0 : fn_J0_length_8abf5 0 = some 4 := by decide +kernel
theorem rt_voiceWet {m : ro_Mem} {N : Nat} (hw : Wd m N) (h66 : Nt (ev_N m N) 32 (m 66)) {v : Nat} (hv : v < 4) : fn_X0_voiceWet (nI v) (ro_rf m 1 1) m = some (nI (sp_sum (fun i => if nt_ m 1 i = v then ev_N m N i else 0) N)) := by
  have hN : N ≤ 32 := hw.2.2.2.2.2
  have hn : m (ro_rf m 1 1) 5 = nI N := hw.2.2.2.2.1
  have key := rt_sumL (b := fun rec s => fb_X0_voiceWet_5 (nI v) (ro_rf m 1 1) m rec s.1 s.2) (fun i => if nt_ m 1 i = v then ev_N m N i else 0) 0 N 0 (by omega) (fun i hi rec x => by
    rw [Nat.zero_add]
    show fb_X0_voiceWet_5 (nI v) (ro_rf m 1 1) m rec (nI x) (nI i) = _
    obtain ⟨h1, h2, -⟩ := hw.nt hi
    unfold fb_X0_voiceWet_5
    rw [hn, if_neg (nI_ge hi (by omega)), if_pos (rt_in (n := 32) (by omega) (by decide)), nI_clamp (by omega), (h1 1 (by decide) (by decide)).1, h66 i (by omega), nI_1]
    by_cases c : nt_ m 1 i = v
    · rw [if_pos (show nI (nt_ m 1 i) = nI v by rw [c]), if_pos c, ro_lt, nI_add]
    · rw [if_neg (fun e => c ((nI_eq (by omega) (by omega)).mp e)), if_neg c, ro_lt, Int32.add_zero]
      rfl) (fun rec x => by
    rw [Nat.zero_add]
    show fb_X0_voiceWet_5 (nI v) (ro_rf m 1 1) m rec (nI x) (nI N) = _
    unfold fb_X0_voiceWet_5
    rw [hn, if_pos (Int32.le_refl _)])
  rw [Nat.zero_add] at key
  have key : fl_X0_voiceWet_5 (nI v) (ro_rf m 1 1) m (0, 0) = _ := key
  unfold fn_X0_voiceWet
  rw [key, Option.bind_some]
theorem rt_voiceM {m m2 : ro_Mem} {N : Nat} (hw : Wd m N) (hof : ∀ o, ¬ (239 ≤ o ∧ o ≤ 246) → m2 o = m o) (h245 : Nt (ev_N m N) 32 (m2 245)) {w : Int32} {v : Nat} (hv : v < 4) : fl_X12_house_95 w (nI v) m2 (0, 0) = some (nI (sp_sum (fun i => if nt_ m 1 i = v then ev_N m N i else 0) N)) := by
  have hN : N ≤ 32 := hw.2.2.2.2.2
  have hn : m2 207 18 = nI N := by rw [hof 207 (by omega)]; exact hw.notes.1
  have key := rt_sumL (b := fun rec s => fb_X12_house_95 w (nI v) m2 rec s.1 s.2) (fun i => if nt_ m 1 i = v then ev_N m N i else 0) 0 N 0 (by omega) (fun i hi rec x => by
    rw [Nat.zero_add]
    show fb_X12_house_95 w (nI v) m2 rec (nI x) (nI i) = _
    obtain ⟨h1, h2, -⟩ := hw.nt hi
    have e218 : m2 218 i = nI (nt_ m 1 i) := by rw [hof 218 (by omega)]; exact (h1 1 (by decide) (by decide)).2.1
    unfold fb_X12_house_95
    rw [hn, if_neg (nI_ge hi (by omega)), if_pos (rt_in (n := 32) (by omega) (by decide)), nI_clamp (by omega), e218, h245 i (by omega), nI_1]
    by_cases c : nt_ m 1 i = v
    · rw [if_pos (show nI (nt_ m 1 i) = nI v by rw [c]), if_pos c, ro_lt, nI_add]
    · rw [if_neg (fun e => c ((nI_eq (by omega) (by omega)).mp e)), if_neg c, ro_lt, Int32.add_zero]
      rfl) (fun rec x => by
    rw [Nat.zero_add]
    show fb_X12_house_95 w (nI v) m2 rec (nI x) (nI N) = _
    unfold fb_X12_house_95
    rw [hn, if_pos (Int32.le_refl _)])
  rw [Nat.zero_add] at key
  exact key
theorem rt_actWet {m : ro_Mem} {f : Nat → Nat → Nat} (h : ∀ a s, a < 4 → s < 96 → m 65 (96 * a + s) = nI (f a s)) {a : Nat} (ha : a < 4) : fn_X0_actWet (nI a) m = some (nI (sp_sum (fun s => f a s) 96)) := by
  have key := rt_sumL (b := fun rec s => fb_X0_actWet_4 (nI a) m rec s.1 s.2) (fun s => f a s) 0 96 0 (by omega) (fun i hi rec x => by
    rw [Nat.zero_add]
    show fb_X0_actWet_4 (nI a) m rec (nI x) (nI i) = _
    unfold fb_X0_actWet_4
    rw [if_neg (show ¬ (96 : Int32) ≤ nI i from nI_ge (b := 96) hi (by decide)), rt_e96, if_pos (rt_in (n := 384) (by omega) (by decide)), nI_clamp (by omega), h a i ha hi, ro_lt, nI_add, nI_1]) (fun rec x => rfl)
  rw [Nat.zero_add] at key
  have key : fl_X0_actWet_4 (nI a) m (0, 0) = _ := key
  unfold fn_X0_actWet
  rw [key, Option.bind_some]
theorem rt_actM {m : ro_Mem} {f : Nat → Nat → Nat} (h : ∀ a s, a < 4 → s < 96 → m 244 (96 * a + s) = nI (f a s)) {a : Nat} (ha : a < 4) : fl_X12_house_145 (nI a) m (0, 0) = some (nI (sp_sum (fun s => f a s) 96)) := by
  have key := rt_sumL (b := fun rec s => fb_X12_house_145 (nI a) m rec s.1 s.2) (fun s => f a s) 0 96 0 (by omega) (fun i hi rec x => by
    rw [Nat.zero_add]
    show fb_X12_house_145 (nI a) m rec (nI x) (nI i) = _
    unfold fb_X12_house_145
    rw [if_neg (show ¬ (96 : Int32) ≤ nI i from nI_ge (b := 96) hi (by decide)), rt_e96', if_pos (rt_in (n := 384) (by omega) (by decide)), nI_clamp (by omega), h a i ha hi, ro_lt, nI_add, nI_1]) (fun rec x => rfl)
  rw [Nat.zero_add] at key
  exact key
theorem op_house (a b : Int32) (μ : ro_Mem) (hI : Inv μ) : ∃ r μ1 μ2, fn_X11_house a b μ = some (r, μ1) ∧ fn_X12_house a b μ1 = some (r, μ2) ∧ Inv μ2 := by
  obtain ⟨N, hw⟩ := hI.wd
  have hn : μ (ro_rf μ 1 1) 5 = nI N := hw.2.2.2.2.1
  have hm : μ 207 18 = nI N := hw.notes.1
  have hN : N ≤ 32 := hw.2.2.2.2.2
  obtain ⟨m, e, hI1, hw1, hE, hof, -⟩ := rt_fresh hI hw
  obtain ⟨m2, e2, hI2, hL, hof2, p1, p2, p3⟩ := rt_played hI1 hw1
  have n1 : ¬ (2 : Int32) ≤ 0 := by decide
  have n2 : ¬ (2 : Int32) ≤ 1 := by decide
  have n3 : (2 : Int32) ≤ 2 := by decide
  have n4 : (2 : Int32) ≤ 3 := by decide
  by_cases c0 : a = 0
  · subst c0
    rcases rt_ix b N (by omega) with hb | ⟨i, hi, rfl⟩
    · refine ⟨-1, μ, μ, ?_, ?_, hI⟩
      · have z : fj_X11_house_36 0 b μ = some (-1, μ) := by
          unfold fj_X11_house_36 fj_X11_house_69 fj_X11_house_107
          rw [if_neg (by decide), if_neg (by decide), if_neg (by decide)]
        unfold fn_X11_house
        rw [if_pos rfl, hn, if_pos (rt_sc5 hw.2.1).1, z]
        exact rt_else hb
      · unfold fn_X12_house fn_X12_isNote fj_X12_house_48
        rw [if_pos rfl, hm, rt_else hb, Option.bind_some, if_pos rfl]
    · refine ⟨nI (ev_N m N i), m, m2, ?_, ?_, hI2⟩
      · unfold fn_X11_house
        rw [if_pos rfl, if_neg (nI_pos (by omega)), if_pos (rt_sc5 hw.2.1).1, hn, if_neg (nI_ge hi (by omega)), e, Option.bind_some, if_pos (rt_in (n := 32) (by omega) (by decide)), nI_clamp (by omega), hE.2.2.2.2.2.1 i (by omega)]
      · unfold fn_X12_house fn_X12_isNote fj_X12_house_48
        rw [if_pos rfl, hw1.notes.1, if_neg (nI_pos (by omega)), if_neg (nI_ge hi (by omega)), Option.bind_some, if_neg rt_10, e2, Option.bind_some, if_neg n1, if_pos rfl, if_pos (rt_in (n := 32) (by omega) (by decide)), nI_clamp (by omega), p2 i (by omega)]
  · by_cases c1 : a = 1
    · subst c1
      have z : fj_X11_house_69 1 b μ = some (-1, μ) := by
        unfold fj_X11_house_69 fj_X11_house_107
        rw [if_neg (by decide), if_neg (by decide)]
      have no : fn_X1_isSlate 2 b μ = some 0 → fn_X12_isSlate b μ = some 0 → ∃ r μ1 μ2, fn_X11_house 1 b μ = some (r, μ1) ∧ fn_X12_house 1 b μ1 = some (r, μ2) ∧ Inv μ2 := by
        intro h1 h2
        refine ⟨-1, μ, μ, ?_, ?_, hI⟩
        · unfold fn_X11_house fj_X11_house_36
          rw [if_neg c0, if_pos rfl, h1, Option.bind_some, if_pos rfl, z]
        · unfold fn_X12_house fj_X12_house_48
          rw [if_neg c0, if_pos rfl, h2, Option.bind_some, if_pos rfl]
      rcases rt_ix b 16 (by decide) with hb | ⟨k, hk, rfl⟩
      · exact no (rt_slateN hb).1 (rt_slateN hb).2
      · by_cases ht : bt (μ 2 6) k = true
        · have ht1 : bt (m 2 6) k = true := by rw [hof 2 (by omega) (by omega) (by omega) (by omega)]; exact ht
          refine ⟨nI (ev_K m N k), m, m2, ?_, ?_, hI2⟩
          · unfold fn_X11_house fj_X11_house_36
            rw [if_neg c0, if_pos rfl, rt_slateC hk, if_pos ht, Option.bind_some, if_neg rt_10, e, Option.bind_some, if_pos (rt_in hk (by decide)), nI_clamp (by omega), hE.2.2.2.2.2.2 k hk]
          · unfold fn_X12_house fj_X12_house_48
            rw [if_neg c0, if_pos rfl, rt_slateI hw1.1.2.2.2.1 hk, if_pos ht1, Option.bind_some, if_neg rt_10, e2, Option.bind_some, if_neg n2, if_neg c0, if_pos (rt_in hk (by decide)), nI_clamp (by omega), p3 k hk]
        · exact no (by rw [rt_slateC hk, if_neg ht]) (by rw [rt_slateI hw.1.2.2.2.1 hk, if_neg ht])
    · by_cases c2 : a = 2
      · subst c2
        have z : fj_X11_house_107 2 b μ = some (-1, μ) := by
          unfold fj_X11_house_107
          rw [if_neg (by decide)]
        rcases rt_ix b 4 (by decide) with hb | ⟨v, hv, rfl⟩
        · refine ⟨-1, μ, μ, ?_, ?_, hI⟩
          · unfold fn_X11_house fj_X11_house_36 fj_X11_house_69
            rw [if_neg c0, if_neg c1, if_pos rfl, rt_len0, Option.bind_some, z]
            exact rt_else hb
          · have i1 : fn_X12_in 2 2 3 = some 1 := by decide +kernel
            have i2 : fn_X12_in b 0 3 = some 0 := rt_inO 0 4 (by decide) (by decide) hb
            unfold fn_X12_house fj_X12_house_47 fj_X12_house_48
            rw [if_neg c0, if_neg c1, i1, Option.bind_some, if_neg rt_10, i2, Option.bind_some, if_pos rfl, if_pos rfl]
        · refine ⟨nI (sp_sum (fun i => if nt_ m 1 i = v then ev_N m N i else 0) N), m, m2, ?_, ?_, hI2⟩
          · unfold fn_X11_house fj_X11_house_36 fj_X11_house_69
            rw [if_neg c0, if_neg c1, if_pos rfl, rt_len0, if_neg (nI_pos (by omega)), Option.bind_some, if_neg (show ¬ (4 : Int32) ≤ nI v from nI_ge (b := 4) hv (by decide)), e, Option.bind_some, if_pos (rt_sc5 hw1.2.1).1, rt_voiceWet hw1 hE.2.2.2.2.2.1 hv, Option.bind_some]
          · have i1 : fn_X12_in 2 2 3 = some 1 := by decide +kernel
            have i2 : fn_X12_in (nI v) 0 3 = some 1 := by
              have := rt_inI (a := 0) (n := 4) (j := v) (by decide) hv
              rwa [Nat.zero_add] at this
            unfold fn_X12_house fj_X12_house_47 fj_X12_house_48 fj_X12_house_137
            rw [if_neg c0, if_neg c1, i1, Option.bind_some, if_neg rt_10, i2, Option.bind_some, if_neg rt_10, if_neg rt_10, e2, Option.bind_some, if_pos n3, if_pos rfl, rt_voiceM hw1 hof2 p2 hv, Option.bind_some, if_neg (by decide)]
      · by_cases c3 : a = 3
        · subst c3
          rcases rt_ix b 4 (by decide) with hb | ⟨v, hv, rfl⟩
          · refine ⟨-1, μ, μ, ?_, ?_, hI⟩
            · unfold fn_X11_house fj_X11_house_36 fj_X11_house_69 fj_X11_house_107
              rw [if_neg c0, if_neg c1, if_neg c2, if_pos rfl, (rt_actN hb).1, Option.bind_some, if_pos rfl]
            · have i1 : fn_X12_in 3 2 3 = some 1 := by decide +kernel
              have i2 : fn_X12_in b 0 3 = some 0 := rt_inO 0 4 (by decide) (by decide) hb
              unfold fn_X12_house fj_X12_house_47 fj_X12_house_48
              rw [if_neg c0, if_neg c1, i1, Option.bind_some, if_neg rt_10, i2, Option.bind_some, if_pos rfl, if_pos rfl]
          · refine ⟨nI (sp_sum (fun s => ev_W m N v s) 96), m, m2, ?_, ?_, hI2⟩
            · unfold fn_X11_house fj_X11_house_36 fj_X11_house_69 fj_X11_house_107
              rw [if_neg c0, if_neg c1, if_neg c2, if_pos rfl, (rt_actY hv).1, Option.bind_some, if_neg rt_10, e, Option.bind_some, rt_actWet (f := ev_W m N) hE.2.2.2.2.1 hv, Option.bind_some]
            · have i1 : fn_X12_in 3 2 3 = some 1 := by decide +kernel
              have i2 : fn_X12_in (nI v) 0 3 = some 1 := by
                have := rt_inI (a := 0) (n := 4) (j := v) (by decide) hv
                rwa [Nat.zero_add] at this
              unfold fn_X12_house fj_X12_house_47 fj_X12_house_48 fj_X12_house_137
              rw [if_neg c0, if_neg c1, i1, Option.bind_some, if_neg rt_10, i2, Option.bind_some, if_neg rt_10, if_neg rt_10, e2, Option.bind_some, if_pos n4, if_neg c2, if_pos rfl, rt_actM (f := ev_W m N) p1 hv, Option.bind_some]
        · refine ⟨-1, μ, μ, ?_, ?_, hI⟩
          · unfold fn_X11_house fj_X11_house_36 fj_X11_house_69 fj_X11_house_107
            rw [if_neg c0, if_neg c1, if_neg c2, if_neg c3]
          · have i1 : fn_X12_in a 2 3 = some 0 := by
              rcases rt_rng a 2 2 (by decide) with h | ⟨j, hj, rfl⟩
              · exact rt_inO 2 2 (by decide) (by decide) h
              · have : j = 0 ∨ j = 1 := by omega
                rcases this with rfl | rfl
                · exact absurd rfl c2
                · exact absurd rfl c3
            unfold fn_X12_house fj_X12_house_47 fj_X12_house_48
            rw [if_neg c0, if_neg c1, i1, Option.bind_some, if_pos rfl, if_pos rfl]
-- ===== the tape is eaten =====
theorem rt_refresh0 {μ : ro_Mem} {N : Nat} (h7 : μ 0 7 = 1 ∨ (μ 0 7 = 0 ∧ iv_eve μ)) (hw : Wd μ N) : ∃ m, fn_X11_refresh μ = some m ∧ EVC μ N m := by
  unfold fn_X11_refresh
  obtain ⟨hs, hL⟩ := cg_rf hw.2.1
  rcases h7 with h7 | ⟨h7, he⟩
  · rw [h7, if_neg rt_10]
    obtain ⟨m1, p1, p2⟩ := rt_pour hw
    rw [p1, Option.bind_some]
    have hC : CP μ N m1 := ⟨fun o h1 h2 h3 => p2.1 o h1 h2 (by omega) (by omega), p2.2⟩
    obtain ⟨m2, q1, q2, q3⟩ := rt_play hw hC
    rw [q1, Option.bind_some, ro_lt]
    refine ⟨_, rfl, fun o h0 h1 h2 h3 => by rw [ro_set_ne _ _ _ h0]; exact q2.1 o h1 h2 h3, fun k hk => ?_, ?_, fun i k hi hk => ?_, fun a s ha hs => ?_, ?_, ?_⟩
    · rw [ro_set_same, pk_un hk, q2.1 0 (by omega) (by omega) (by omega)]
    · rw [ro_set_same, pk_us]
    · rw [ro_set_ne _ _ _ (show ¬ 63 = 0 by decide), ro_set_ne _ _ _ (show ¬ 64 = 0 by decide)]
      have := q2.2 (16 * i + k) (by omega)
      rwa [show (16 * i + k) / 16 = i by omega, show (16 * i + k) % 16 = k by omega] at this
    · rw [ro_set_ne _ _ _ (show ¬ 65 = 0 by decide), q3.1 a s ha hs, if_pos ha]
      rfl
    · rw [ro_set_ne _ _ _ (show ¬ 66 = 0 by decide)]
      exact q3.2.1.cg (fun i _ => ev_BN_4.symm)
    · rw [ro_set_ne _ _ _ (show ¬ 67 = 0 by decide)]
      exact q3.2.2.cg (fun k hk => (ev_BS_4 hk hw.2.2.2.2.2).symm)
  · rw [h7, if_pos rfl]
    obtain ⟨N', e1, e2, e3, e4, e5, e6⟩ := he
    have : N = N' := by
      have h5 := hw.2.2.2.2.1
      have h0 : iv_sc μ 0 = μ (ro_rf μ 1 1) := by unfold iv_sc; rw [if_pos (by decide)]; rfl
      rw [h0, h5] at e1
      exact (nI_eq (by have := hw.2.2.2.2.2; omega) (by omega)).mp e1
    subst this
    exact ⟨μ, rfl, fun _ _ _ _ _ => rfl, fun _ _ => rfl, h7, e3, e4, e5, e6⟩
/-- Inv, the tape's number aside -/
def Ivt (μ : ro_Mem) (N : Nat) : Prop := Wd μ N ∧ (μ 0 7 = 1 ∨ (μ 0 7 = 0 ∧ iv_eve μ)) ∧ μ 207 52 = 0
theorem Inv.ivt {μ : ro_Mem} {N : Nat} (hI : Inv μ) (hw : Wd μ N) : Ivt μ N := ⟨hw, hI.2.2.2.2.2.2.1, hI.2.2.2.2.2.2.2⟩
/-- what neither evening nor law hangs on -/
def qy_t (o : Nat) : Prop := qy_s o ∨ o = 60
theorem Ivt.put {μ M : ro_Mem} {N : Nat} (h : Ivt μ N) (hf : ∀ o, ¬ qy_t o → ¬ o = 207 → M o = μ o) (h2 : ∀ k, (fr_k k ∨ k = 52) → M 207 k = μ 207 k) : Ivt M N ∧ Fr μ M := by
  have g : ∀ o, (o ≤ 27 ∨ (31 ≤ o ∧ o ≤ 57) ∨ (61 ≤ o ∧ o ≤ 67) ∨ (208 ≤ o ∧ o ≤ 222) ∨ (234 ≤ o ∧ o ≤ 238) ∨ (257 ≤ o ∧ o ≤ 259) ∨ (261 ≤ o ∧ o ≤ 272)) → M o = μ o := fun o ho => hf o (by unfold qy_t qy_s; omega) (by omega)
  have hfr : Fr μ M := ⟨fun o ho => by unfold fr_id at ho; exact g o (by omega), fun k _ => by rw [g 0 (by omega)], fun k hk => h2 k (Or.inl hk)⟩
  obtain ⟨hw, h7, hq⟩ := h
  refine ⟨⟨hw.fr hfr, ?_, by rw [h2 52 (Or.inr rfl)]; exact hq⟩, hfr⟩
  rw [g 0 (by omega)]
  rcases h7 with e | ⟨e, he⟩
  · exact Or.inl e
  · exact Or.inr ⟨e, cg_eve hw.2.1 (g 1 (by omega)) (by rw [g 2 (by omega)]) (by rw [g 2 (by omega)]) (fun o a b => g o (by omega)) (fun o a b => g o (by omega)) (fun o a b => g o (by omega)) (fun o a b => g o (by omega)) he⟩
theorem rt_fresht {μ : ro_Mem} {N : Nat} (h : Ivt μ N) : ∃ m, fn_X11_refresh μ = some m ∧ Ivt m N ∧ Fr μ m ∧ EVC m N m ∧ (∀ o, ¬ o = 0 → ¬ (28 ≤ o ∧ o ≤ 29) → ¬ (58 ≤ o ∧ o ≤ 59) → ¬ (63 ≤ o ∧ o ≤ 68) → m o = μ o) := by
  obtain ⟨hw, h7, hq⟩ := h
  obtain ⟨m, e, hE⟩ := rt_refresh0 h7 hw
  have hf := hE.fr hw
  have hL := (cg_rf hw.2.1).2
  have hof : ∀ o, ¬ o = 0 → ¬ (28 ≤ o ∧ o ≤ 29) → ¬ (58 ≤ o ∧ o ≤ 59) → ¬ (63 ≤ o ∧ o ≤ 68) → m o = μ o := fun o h0 h1 h2 h3 => hE.1 o h0 (by omega) (by omega) h3
  exact ⟨m, e, ⟨hw.fr hf, Or.inr ⟨hE.2.2.1, hE.eve hw⟩, by rw [hof 207 (by omega) (by omega) (by omega) (by omega)]; exact hq⟩, hf, hE.self hw, hof⟩
theorem rt_laidt {m : ro_Mem} {N : Nat} (h : Ivt m N) : ∃ m2, fn_X12_laysDrops m = some m2 ∧ Ivt m2 N ∧ Fr m m2 ∧ LM m 0 N m2 ∧ (∀ o, ¬ (239 ≤ o ∧ o ≤ 242) → m2 o = m o) := by
  obtain ⟨m2, e, hP⟩ := rt_lays h.1 h.2.2
  have hof : ∀ o, ¬ (239 ≤ o ∧ o ≤ 242) → m2 o = m o := fun o ho => hP.1 o (by omega) (by omega) (by omega) (by omega)
  obtain ⟨h1, h2⟩ := h.put (M := m2) (fun o ho _ => hof o (fun q => ho (by unfold qy_t qy_s; omega))) (fun k _ => by rw [hof 207 (by omega)])
  exact ⟨m2, e, h1, h2, hP.lm, hof⟩
/-- the end of a call that has eaten the tape -/
theorem Inv.eaten {μ M : ro_Mem} {N : Nat} (hI : Inv μ) (h : Ivt M N) (hf : Fr μ M) (h61 : M 61 = μ 61) (h217 : M 217 = μ 217) (h60 : M 60 1 = 0) (h13 : M 207 13 = 0) : Inv M := by
  refine hI.fr hf ?_ h.2.1 h.2.2
  obtain ⟨-, -, h3⟩ := hI.2.2.1
  rw [h61, h217, h60, h13]
  exact ⟨rfl, ⟨0, by omega, rfl⟩, h3⟩
theorem Ivt.eat {μ : ro_Mem} {N : Nat} (h : Ivt μ N) : Ivt (ro_set μ 60 1 0) N ∧ Fr μ (ro_set μ 60 1 0) := h.put (fun o ho _ => ro_set_ne _ _ _ (fun q => ho (by unfold qy_t; omega))) (fun k _ => by rw [ro_set_ne _ _ _ (by decide)])
theorem Ivt.eatM {μ : ro_Mem} {N : Nat} (h : Ivt μ N) : Ivt (ro_set μ 207 13 0) N ∧ Fr μ (ro_set μ 207 13 0) := h.put (fun o ho h2 => ro_set_ne _ _ _ h2) (fun k hk => by rw [ro_set_same, pk_un (by unfold fr_k at hk; omega)])
-- ===== check =====
def tp_v (f : Nat → Int32) (j0 : Nat) : Nat → Int32
  | 0 => 0
  | n + 1 => (tp_v f j0 n <<< ((8 : Int32) &&& 31)) ||| f (j0 + n)
theorem rt_e4 (p : Nat) : (4 : Int32) * nI p = nI (4 * p) := by
  show nI 4 * nI p = _
  rw [pk_mul]
theorem rt_numberAt {m : ro_Mem} {p : Nat} (hp : p < 50) : fn_X8_numberAt (nI p) m = some (tp_v (m 61) (4 * p) 4) := by
  have key := rt_loop (b := fun rec (s : Int32 × Int32) => fb_X8_numberAt_6 (nI p) m rec s.1 s.2) (fun i => (tp_v (m 61) (4 * p) i, nI (4 * p + i))) 4 (e := some (tp_v (m 61) (4 * p) 4)) (fun i hi rec => by
    show fb_X8_numberAt_6 (nI p) m rec (tp_v (m 61) (4 * p) i) (nI (4 * p + i)) = _
    unfold fb_X8_numberAt_6
    rw [rt_e4, show nI (4 * p) + 4 = nI (4 * p + 4) from nI_add _ 4, if_neg (nI_ge (by omega) (by omega)), if_neg (nI_pos (by omega)), if_neg (show ¬ (220 : Int32) ≤ nI (4 * p + i) from nI_ge (b := 220) (by omega) (by decide)), if_pos (rt_in (n := 220) (by omega) (by decide)), nI_clamp (by omega), ro_lt, nI_1]
    rfl) (fun rec => by
    show fb_X8_numberAt_6 (nI p) m rec (tp_v (m 61) (4 * p) 4) (nI (4 * p + 4)) = _
    unfold fb_X8_numberAt_6
    rw [rt_e4, show nI (4 * p) + 4 = nI (4 * p + 4) from nI_add _ 4, if_pos (Int32.le_refl _)]) ro_FU (by decide)
  have key : fl_X8_numberAt_6 (nI p) m (0, nI (4 * p)) = _ := key
  unfold fn_X8_numberAt
  rw [rt_e4, ro_lt, key, Option.bind_some]
theorem rt_tapeNumber {m : ro_Mem} {f : Nat → Int32} (hf : ∀ j, j < 220 → (m 217 j &&& 255) = f j) {p : Nat} (hp : p < 50) : fn_X12_tapeNumber (nI p) m = some (tp_v f (4 * p) 4) := by
  have key := rt_loop (b := fun rec (s : Int32 × Int32) => fb_X12_tapeNumber_6 (nI p) m rec s.1 s.2) (fun i => (tp_v f (4 * p) i, nI (4 * p + i))) 4 (e := some (tp_v f (4 * p) 4)) (fun i hi rec => by
    show fb_X12_tapeNumber_6 (nI p) m rec (tp_v f (4 * p) i) (nI (4 * p + i)) = _
    unfold fb_X12_tapeNumber_6
    rw [rt_e4, show nI (4 * p) + 4 = nI (4 * p + 4) from nI_add _ 4, if_neg (nI_ge (by omega) (by omega)), if_pos (rt_in (n := 220) (by omega) (by decide)), nI_clamp (by omega), hf _ (by omega), ro_lt, nI_1]
    rfl) (fun rec => by
    show fb_X12_tapeNumber_6 (nI p) m rec (tp_v f (4 * p) 4) (nI (4 * p + 4)) = _
    unfold fb_X12_tapeNumber_6
    rw [rt_e4, show nI (4 * p) + 4 = nI (4 * p + 4) from nI_add _ 4, if_pos (Int32.le_refl _)]) ro_FU (by decide)
  have key : fl_X12_tapeNumber_6 (nI p) m (0, nI (4 * p)) = _ := key
  unfold fn_X12_tapeNumber
  rw [rt_e4, ro_lt, key, Option.bind_some]
theorem op_check (a b c : Int32) (μ : ro_Mem) (hI : Inv μ) : ∃ r μ1 μ2, fn_X11_check a b c μ = some (r, μ1) ∧ fn_X12_check a b c μ1 = some (r, μ2) ∧ Inv μ2 := by
  obtain ⟨N, hw⟩ := hI.wd
  obtain ⟨t1, ⟨T, hT, t2⟩, t3⟩ := hI.2.2.1
  rcases rt_ix a 4 (by decide) with ha | ⟨j, hj, rfl⟩
  · refine ⟨-2, μ, μ, ?_, ?_, hI⟩
    · unfold fn_X11_check; rw [(rt_actN ha).1, Option.bind_some, if_pos rfl]
    · unfold fn_X12_check; rw [(rt_actN ha).2, Option.bind_some, if_pos rfl]
  · rcases rt_ix b 8 (by decide) with hb | ⟨r, hr, rfl⟩
    · refine ⟨-2, μ, μ, ?_, ?_, hI⟩
      · unfold fn_X11_check
        rw [(rt_actY hj).1, Option.bind_some, if_neg rt_10]
        exact rt_else hb
      · unfold fn_X12_check
        rw [(rt_actY hj).2, Option.bind_some, if_neg rt_10, show fn_X12_in b 0 7 = some 0 from rt_inO 0 8 (by decide) (by decide) hb, Option.bind_some, if_pos rfl]
    · have i7 : fn_X12_in (nI r) 0 7 = some 1 := by
        have := rt_inI (a := 0) (n := 8) (j := r) (by decide) hr
        rwa [Nat.zero_add] at this
      have r1 : ∀ {x y : Option (Int32 × ro_Mem)}, (if nI r < 0 then x else if 8 ≤ nI r then x else y) = y := fun {x y} => by
        rw [if_neg (nI_pos (by omega)), if_neg (show ¬ (8 : Int32) ≤ nI r from nI_ge (b := 8) hr (by decide))]
      rcases rt_ix c 13 (by decide) with hc | ⟨n, hn, rfl⟩
      · refine ⟨-2, μ, μ, ?_, ?_, hI⟩
        · unfold fn_X11_check
          rw [(rt_actY hj).1, Option.bind_some, if_neg rt_10, r1]
          rcases hc with hc | hc
          · rw [if_pos hc]
          · by_cases c0 : c < 0
            · rw [if_pos c0]
            · rw [if_neg c0, if_pos (by rw [fa_lt]; rw [fa_le] at hc; have h5 : (nI 13).toInt = 13 := by decide
                                        have h4 : (12 : Int32).toInt = 12 := by decide
                                        omega)]
        · unfold fn_X12_check
          rw [(rt_actY hj).2, Option.bind_some, if_neg rt_10, i7, Option.bind_some, if_neg rt_10, show fn_X12_in c 0 12 = some 0 from rt_inO 0 13 (by decide) (by decide) hc, Option.bind_some, if_pos rfl]
      · have i12 : fn_X12_in (nI n) 0 12 = some 1 := by
          have := rt_inI (a := 0) (n := 13) (j := n) (by decide) hn
          rwa [Nat.zero_add] at this
        have ed : nI T / 4 = nI (T / 4) := pk_div (d := 4) (by omega) (by decide) (by decide)
        by_cases cT : 4 * n ≤ T
        · obtain ⟨q1, q2⟩ := (hI.ivt hw).eat
          obtain ⟨m, e, g1, g2, hE, hof⟩ := rt_fresht q1
          obtain ⟨w1, w2⟩ := g1.eatM
          obtain ⟨m2, e2, x1, x2, hL, hof2⟩ := rt_laidt w1
          have s61 : m 61 = μ 61 := by rw [hof 61 (by omega) (by omega) (by omega) (by omega), ro_set_ne _ _ _ (by decide)]
          have s217 : m2 217 = μ 217 := by rw [hof2 217 (by omega), ro_set_ne _ _ _ (by decide), hof 217 (by omega) (by omega) (by omega) (by omega), ro_set_ne _ _ _ (by decide)]
          have bC : fl_X11_check_58 (nI j) (nI r) (nI n) m 0 = some (match sp_first (fun p => decide (¬ tp_v (μ 61) (4 * p) 4 = nI (ev_wt m 0 N j (12 * r + p)))) n 0 with
            | none => Sum.inr ()
            | some i => Sum.inl (nI i)) := by
            unfold fl_X11_check_58
            refine rt_find (fun p => decide (¬ tp_v (μ 61) (4 * p) 4 = nI (ev_wt m 0 N j (12 * r + p)))) n (fun i => (Sum.inl (nI i) : Int32 ⊕ Unit)) (Sum.inr ()) ?_ ?_ ro_FU (Nat.lt_of_lt_of_le hn (by decide))
            · intro p hp rec
              show fb_X11_check_58 (nI j) (nI r) (nI n) m rec (nI p) = _
              unfold fb_X11_check_58
              rw [if_neg (nI_ge hp (by omega)), rt_numberAt (by omega), s61, Option.bind_some, rt_e12, rt_seatWet hE (by omega) hj, Option.bind_some, nI_1]
              by_cases cq : tp_v (μ 61) (4 * p) 4 = nI (ev_wt m 0 N j (12 * r + p))
              · rw [if_pos cq, if_neg (by simp [cq])]
              · rw [if_neg cq, if_pos (by simp [cq])]
            · intro rec
              show fb_X11_check_58 (nI j) (nI r) (nI n) m rec (nI n) = _
              unfold fb_X11_check_58
              rw [if_pos (Int32.le_refl _)]
          have bM : fl_X12_check_52 (nI j) (nI r) (nI n) m2 0 = some (match sp_first (fun p => decide (¬ tp_v (μ 61) (4 * p) 4 = nI (ev_wt m 0 N j (12 * r + p)))) n 0 with
            | none => Sum.inr ()
            | some i => Sum.inl (nI i)) := by
            unfold fl_X12_check_52
            refine rt_find (fun p => decide (¬ tp_v (μ 61) (4 * p) 4 = nI (ev_wt m 0 N j (12 * r + p)))) n (fun i => (Sum.inl (nI i) : Int32 ⊕ Unit)) (Sum.inr ()) ?_ ?_ ro_FU (Nat.lt_of_lt_of_le hn (by decide))
            · intro p hp rec
              show fb_X12_check_52 (nI j) (nI r) (nI n) m2 rec (nI p) = _
              unfold fb_X12_check_52
              rw [if_neg (nI_ge hp (by omega)), rt_tapeNumber (f := μ 61) (fun j hj => by rw [s217]; exact (t3 j hj).1) (by omega), Option.bind_some, rt_e12', rt_wetOn w1.1 hL hj (by omega), (w2.wt g1.1.2.1 N).1, Option.bind_some, nI_1]
              by_cases cq : tp_v (μ 61) (4 * p) 4 = nI (ev_wt m 0 N j (12 * r + p))
              · rw [if_pos cq, if_neg (by simp [cq])]
              · rw [if_neg cq, if_pos (by simp [cq])]
            · intro rec
              show fb_X12_check_52 (nI j) (nI r) (nI n) m2 rec (nI n) = _
              unfold fb_X12_check_52
              rw [if_pos (Int32.le_refl _)]
          have s13 : m 207 13 = nI T := by rw [hof 207 (by omega) (by omega) (by omega) (by omega), ro_set_ne _ _ _ (by decide), t1, t2]
          have hI2 : Inv m2 := by
            refine hI.eaten x1 (((q2.trans g2).trans w2).trans x2) ?_ s217 ?_ ?_
            · rw [hof2 61 (by omega), ro_set_ne _ _ _ (by decide), s61]
            · rw [hof2 60 (by omega), ro_set_ne _ _ _ (by decide), hof 60 (by omega) (by omega) (by omega) (by omega), ro_set_same, pk_us]
            · rw [hof2 207 (by omega), ro_set_same, pk_us]
          refine ⟨(match sp_first (fun p => decide (¬ tp_v (μ 61) (4 * p) 4 = nI (ev_wt m 0 N j (12 * r + p)))) n 0 with
            | none => -1
            | some i => nI i), m, m2, ?_, ?_, hI2⟩
          · unfold fn_X11_check
            rw [(rt_actY hj).1, Option.bind_some, if_neg rt_10, r1, if_neg (nI_pos (by omega)), if_neg (show ¬ (12 : Int32) < nI n from nI_nlt (a := 12) (by omega) (by decide)), rt_e4, t2, if_pos (nI_le cT (by omega)), ro_lt, e, Option.bind_some, bC, Option.bind_some]
            cases sp_first (fun p => decide (¬ tp_v (μ 61) (4 * p) 4 = nI (ev_wt m 0 N j (12 * r + p)))) n 0 <;> rfl
          · unfold fn_X12_check
            rw [(rt_actY hj).2, Option.bind_some, if_neg rt_10, i7, Option.bind_some, if_neg rt_10, i12, Option.bind_some, if_neg rt_10, s13, ed, if_pos (nI_le (by omega) (by omega)), ro_lt, e2, Option.bind_some, bM, Option.bind_some]
            cases sp_first (fun p => decide (¬ tp_v (μ 61) (4 * p) 4 = nI (ev_wt m 0 N j (12 * r + p)))) n 0 <;> rfl
        · refine ⟨-2, μ, μ, ?_, ?_, hI⟩
          · unfold fn_X11_check
            rw [(rt_actY hj).1, Option.bind_some, if_neg rt_10, r1, if_neg (nI_pos (by omega)), if_neg (show ¬ (12 : Int32) < nI n from nI_nlt (a := 12) (by omega) (by decide)), rt_e4, t2, if_neg (nI_ge (by omega) (by omega))]
          · unfold fn_X12_check
            rw [(rt_actY hj).2, Option.bind_some, if_neg rt_10, i7, Option.bind_some, if_neg rt_10, i12, Option.bind_some, if_neg rt_10, t1, t2, ed, if_neg (nI_ge (by omega) (by omega))]
