-- ===== what is paid =====
def pl_ (mo ra : Nat → Int32) (a s : Nat) : Nat → Int32 := fun j => [0, 0, 0, 0, 0, 0, nI a, ra a, nI s / 12, ro_rem (nI s) 12, mo s, 0].getD j 0
def ev_P (m : ro_Mem) (a s : Nat) : Nat := nn (sp_amt (iv_lw m) (pl_ (m 5) (m 9) a s) (nI 3) (nI 999))
theorem ev_P_eq (m : ro_Mem) (a s : Nat) : sp_amt (iv_lw m) (pl_ (m 5) (m 9) a s) (nI 3) (nI 999) = nI (ev_P m a s) ∧ ev_P m a s ≤ 999 := by
  obtain ⟨n, hn, e⟩ := sp_amt_nn (W := iv_lw m) (lt := pl_ (m 5) (m 9) a s) (kind := nI 3) (most := 999) (by decide)
  unfold ev_P
  rw [e, nn_nI (by omega)]
  exact ⟨rfl, hn⟩
theorem rt_arr2 (μ : ro_Mem) (o : Nat) (f g : Nat → Int32) : ro_arr (ro_arr μ o f) o g = ro_arr μ o g := by
  funext p
  by_cases e : p = o
  · rw [e, ro_arr_same, ro_arr_same]
  · rw [ro_arr_ne _ _ e, ro_arr_ne _ _ e, ro_arr_ne _ _ e]
theorem rt_len7 {L : Nat} (hL : L = 21 ∨ L = 51) : ro_len (L + 7) = 12 := by
  rcases hL with rfl | rfl <;> decide +kernel
theorem rt_payFor {μ : ro_Mem} {N : Nat} (hw : Wd μ N) {s a : Nat} (hs : s < 96) (ha : a < 4) : ∃ m', fn_X9_payFor (nI s) (nI a) μ = some (nI (ev_P μ a s), m') ∧ (∀ o, ¬ o = ro_rf μ 1 2 + 7 → ¬ o = ro_rf μ 1 2 + 8 → m' o = μ o) := by
  have hL := (cg_rf hw.2.1).2
  have hlw : ∀ j, j ≤ 6 → iv_lw μ j = μ (ro_rf μ 1 2 + j) := fun j h => by unfold iv_lw; rw [if_pos h]
  have hW := hw.2.2.2.1
  generalize hLe : ro_rf μ 1 2 = L at *
  have hrL : ∀ f, ro_rf (ro_arr μ (L + 7) f) 1 2 = L := fun f => by
    unfold ro_rf
    rw [ro_arr_ne _ _ (show 1 ≠ L + 7 by omega)]; exact hLe
  unfold fn_X9_payFor
  rw [hLe, if_pos (rt_law_id hL), rt_fill (rt_len7 hL) (by decide), Option.bind_some, rt_tellAct hL (hrL _) ha, Option.bind_some, rt_arr2, ro_arr_same, ro_arr_ne _ _ (show 9 ≠ L + 7 by omega), rt_tellSeat hL (hrL _) hs, Option.bind_some, rt_arr2, ro_arr_same, ro_arr_ne _ _ (show 5 ≠ L + 7 by omega)]
  obtain ⟨g, eg⟩ : ∃ g, g = upd (upd (upd (upd (upd (rt_mix (fun _ => 0) (μ (L + 7)) 12) 6 (nI a)) 7 (μ 9 a)) 8 (nI s / 12)) 9 (ro_rem (nI s) 12)) 10 (μ 5 s) := ⟨_, rfl⟩
  rw [← eg, hrL, if_pos (rt_law_id hL)]
  have hg : ∀ j, j < 12 → g j = pl_ (μ 5) (μ 9) a s j := by
    intro j hj
    rw [eg]
    unfold pl_
    have : j = 0 ∨ j = 1 ∨ j = 2 ∨ j = 3 ∨ j = 4 ∨ j = 5 ∨ j = 6 ∨ j = 7 ∨ j = 8 ∨ j = 9 ∨ j = 10 ∨ j = 11 := by omega
    rcases this with rfl | rfl | rfl | rfl | rfl | rfl | rfl | rfl | rfl | rfl | rfl | rfl <;> rfl
  obtain ⟨m', r1, r2⟩ := rt_amount (o0 := L) (μ := ro_arr μ (L + 7) g) (kind := 3) (most := 999) (by decide) (by decide) hW (fun j hj => by rw [hlw j hj]; exact (ro_arr_ne _ _ (by omega)).symm)
  rw [ro_arr_same, sp_amt_cg hg] at r1
  have r1 : fn_X2_amount L 3 999 (ro_arr μ (L + 7) g) = some (sp_amt (iv_lw μ) (pl_ (μ 5) (μ 9) a s) (nI 3) (nI 999), m') := r1
  rw [r1, Option.bind_some, (ev_P_eq μ a s).1]
  exact ⟨m', rfl, fun o h1 h2 => by rw [r2 o h2, ro_arr_ne _ _ h1]⟩
def pd_ (m : ro_Mem) (N a g : Nat) : Nat := if st_ m a g < 96 ∧ ev_wt m 0 N a (st_ m a g) = 0 then ev_P m a (st_ m a g) else 0
theorem Fr.P {μ M : ro_Mem} (hSW : iv_SW μ) (h : Fr μ M) (a s : Nat) : ev_P M a s = ev_P μ a s := by
  obtain ⟨-, e2, -, -⟩ := h.eve hSW
  unfold ev_P
  rw [e2, h.1 5 (by unfold fr_id; omega), h.1 9 (by unfold fr_id; omega)]
theorem Fr.pd {μ M : ro_Mem} (hSW : iv_SW μ) (h : Fr μ M) (N a g : Nat) : pd_ M N a g = pd_ μ N a g := by
  obtain ⟨v1, -, -, -, -, -, -, v8⟩ := h.wt hSW N
  unfold pd_
  rw [v8, v1, h.P hSW]
/-- only letters and stack of the law differ -/
def LsC (μ m : ro_Mem) : Prop := ∀ o, ¬ o = ro_rf μ 1 2 + 7 → ¬ o = ro_rf μ 1 2 + 8 → m o = μ o
theorem LsC.fr {μ m : ro_Mem} (hSW : iv_SW μ) (h : LsC μ m) : Fr μ m := by
  have hL := (cg_rf hSW).2
  exact Fr.of (fun o => o = ro_rf μ 1 2 + 7 ∨ o = ro_rf μ 1 2 + 8) (fun o ho => h o (by omega) (by omega)) (fun o ho => by unfold fr_id; omega)
theorem rt_paidCi {m : ro_Mem} {N : Nat} (hw : Wd m N) (h65 : ∀ a s, a < 4 → s < 96 → m 65 (96 * a + s) = nI (ev_W m N a s)) {v3 : Int32} {a x : Nat} (ha : a < 4) {m1 : ro_Mem} (h1 : LsC m m1) : ∃ m', LsC m m' ∧ fl_X11_paidFor_37 v3 (nI a) (nI x, 0, m1) = some (nI (x + sp_sum (fun g => pd_ m N a g) 10), m') := by
  have hL := (cg_rf hw.2.1).2
  have hN : N ≤ 32 := hw.2.2.2.2.2
  unfold fl_X11_paidFor_37
  refine rt_cnt (fun i m' => (nI (x + sp_sum (fun g => pd_ m N a g) i), nI i, m')) (fun m' => (nI (x + sp_sum (fun g => pd_ m N a g) 10), m')) 10 (fun _ m' => LsC m m') ?_ ?_ ro_FU (by decide) m1 h1
  · intro g hg rec m' hP
    show ∃ s', _ ∧ fb_X11_paidFor_37 v3 (nI a) rec (nI (x + sp_sum (fun g => pd_ m N a g) g)) (nI g) m' = rec (nI (x + (sp_sum (fun g => pd_ m N a g) g + pd_ m N a g)), nI (g + 1), s')
    have hfr := hP.fr hw.2.1
    obtain ⟨s1, s2, -, -⟩ := hw.st ha hg
    have e11 : m' 11 (10 * a + g) = nI (st_ m a g) := by rw [hP 11 (by omega) (by omega)]; exact s1
    have e65 : m' 65 = m 65 := hP 65 (by omega) (by omega)
    unfold fb_X11_paidFor_37
    rw [if_neg (show ¬ (10 : Int32) ≤ nI g from nI_ge (b := 10) hg (by decide)), rt_e10, if_pos (rt_in (n := 40) (by omega) (by decide)), nI_clamp (by omega), e11, ro_lt, nI_1]
    rcases s2 with e | e
    · refine ⟨m', hP, ?_⟩
      have z : pd_ m N a g = 0 := by unfold pd_; rw [if_neg (by omega)]
      rw [e, if_pos (show (96 : Int32) ≤ nI 255 by decide), z]
      rfl
    · have hwt := ev_wt_le m 0 hN a (st_ m a g)
      rw [if_neg (show ¬ (96 : Int32) ≤ nI _ from nI_ge (b := 96) e (by decide)), rt_e96, if_pos (rt_in (n := 384) (by omega) (by decide)), nI_clamp (by omega), e65, h65 a _ ha e, ev_W_wt]
      by_cases c : ev_wt m 0 N a (st_ m a g) = 0
      · obtain ⟨m2, p1, p2⟩ := rt_payFor (hw.fr hfr) e ha
        rw [if_pos (show nI (ev_wt m 0 N a (st_ m a g)) = 0 by rw [c]; rfl), p1, Option.bind_some, ro_lt, nI_add, hfr.P hw.2.1]
        rw [hfr.rf.2] at p2
        refine ⟨m2, fun o q1 q2 => by rw [p2 o q1 q2, hP o q1 q2], ?_⟩
        have z : pd_ m N a g = ev_P m a (st_ m a g) := by unfold pd_; rw [if_pos ⟨e, c⟩]
        rw [z, Nat.add_assoc]
      · refine ⟨m', hP, ?_⟩
        have z : pd_ m N a g = 0 := by unfold pd_; rw [if_neg (fun h => c h.2)]
        rw [if_neg (nI_ne0 (by omega) (by omega)), z]
        rfl
  · intro rec m' _
    rfl
theorem rt_paidCo {m : ro_Mem} {N : Nat} (hw : Wd m N) (h65 : ∀ a s, a < 4 → s < 96 → m 65 (96 * a + s) = nI (ev_W m N a s)) {i0 n : Nat} (h1 : 1 ≤ n) (h4 : i0 + n ≤ 4) : ∃ m', LsC m m' ∧ fl_X11_paidFor_28 (nI (i0 + n - 1)) (0, nI i0, m) = some (nI (sp_sum (fun i => sp_sum (fun g => pd_ m N (i0 + i) g) 10) n), m') := by
  unfold fl_X11_paidFor_28
  refine rt_cnt (fun i m' => (nI (sp_sum (fun i => sp_sum (fun g => pd_ m N (i0 + i) g) 10) i), nI (i0 + i), m')) (fun m' => (nI (sp_sum (fun i => sp_sum (fun g => pd_ m N (i0 + i) g) 10) n), m')) n (fun _ m' => LsC m m') ?_ ?_ ro_FU (Nat.lt_of_le_of_lt (show n ≤ 4 by omega) (by decide)) m (fun _ _ _ => rfl)
  · intro i hi rec m' hP
    show ∃ s', _ ∧ fb_X11_paidFor_28 (nI (i0 + n - 1)) rec (nI (sp_sum (fun i => sp_sum (fun g => pd_ m N (i0 + i) g) 10) i)) (nI (i0 + i)) m' = rec (nI (sp_sum (fun i => sp_sum (fun g => pd_ m N (i0 + i) g) 10) i + sp_sum (fun g => pd_ m N (i0 + i) g) 10), nI (i0 + (i + 1)), s')
    obtain ⟨m2, p1, p2⟩ := rt_paidCi (v3 := nI (i0 + n - 1)) (a := i0 + i) (x := sp_sum (fun i => sp_sum (fun g => pd_ m N (i0 + i) g) 10) i) hw h65 (by omega) hP
    unfold fb_X11_paidFor_28
    rw [if_neg (nI_nlt (by omega) (by omega)), p2, Option.bind_some, nI_1]
    exact ⟨m2, p1, rfl⟩
  · intro rec m' _
    show fb_X11_paidFor_28 (nI (i0 + n - 1)) rec (nI (sp_sum (fun i => sp_sum (fun g => pd_ m N (i0 + i) g) 10) n)) (nI (i0 + n)) m' = _
    unfold fb_X11_paidFor_28
    rw [if_pos (nI_lt (by omega) (by omega))]
theorem rt_paidC {m : ro_Mem} {N : Nat} (hw : Wd m N) (h65 : ∀ a s, a < 4 → s < 96 → m 65 (96 * a + s) = nI (ev_W m N a s)) {a : Nat} (ha : a < 4) : ∃ m', LsC m m' ∧ fn_X11_paidFor (nI a) m = some (nI (sp_sum (fun g => pd_ m N a g) 10), m') := by
  obtain ⟨m', p1, p2⟩ := rt_paidCo hw h65 (i0 := a) (n := 1) (by decide) (by omega)
  refine ⟨m', p1, ?_⟩
  rw [Nat.add_sub_cancel] at p2
  unfold fn_X11_paidFor fj_X11_paidFor_10 fj_X11_paidFor_21
  rw [if_neg (rt_not4 ha), if_neg (rt_not4 ha), p2, Option.bind_some]
  show some (nI (0 + sp_sum (fun g => pd_ m N (a + 0) g) 10), m') = _
  rw [Nat.zero_add, Nat.add_zero]
theorem rt_paidC4 {m : ro_Mem} {N : Nat} (hw : Wd m N) (h65 : ∀ a s, a < 4 → s < 96 → m 65 (96 * a + s) = nI (ev_W m N a s)) : ∃ m', LsC m m' ∧ fn_X11_paidFor 4 m = some (nI (sp_sum (fun a => sp_sum (fun g => pd_ m N a g) 10) 4), m') := by
  obtain ⟨m', p1, p2⟩ := rt_paidCo hw h65 (i0 := 0) (n := 4) (by decide) (by omega)
  refine ⟨m', p1, ?_⟩
  rw [sp_sum_cg (g := fun a => sp_sum (fun g => pd_ m N a g) 10) (fun i _ => by rw [Nat.zero_add]), show nI (0 + 4 - 1) = 3 from rfl, nI_0] at p2
  unfold fn_X11_paidFor fj_X11_paidFor_10 fj_X11_paidFor_21
  rw [if_pos rfl, if_pos rfl, p2, Option.bind_some]
/-- only the reference's stack and facts differ -/
def FsM (μ m : ro_Mem) : Prop := ∀ o, ¬ o = 239 → ¬ o = 240 → m o = μ o
theorem rt_payM {m m1 : ro_Mem} {N : Nat} (hw : Wd m N) (hof : ∀ o, 207 ≤ o → ¬ (239 ≤ o ∧ o ≤ 246) → m1 o = m o) {s a : Nat} (hs : s < 96) (ha : a < 4) : ∃ m9 m', fn_X12_feels (nI s) m1 = some m9 ∧ fn_X12_byLaw 113 999 (ro_set (ro_set m9 240 6 (nI a)) 240 7 (ro_set m9 240 6 (nI a) 214 a)) = some (nI (ev_P m a s), m') ∧ FsM m1 m' := by
  have hR := hw.1.2.2.2.2.1 a ha
  have hMo := hw.1.2.2.1 s hs
  have hW := hw.2.2.2.1
  have e5 : m1 210 s = m 5 s := by rw [hof 210 (by omega) (by omega)]; exact hMo.1
  refine ⟨ro_arr m1 240 (upd (upd (upd (rt_mix (fun _ => 0) (m1 240) 12) 8 (nI s / 12)) 9 (ro_rem (nI s) 12)) 10 (m 5 s)), ?_⟩
  rw [rt_feels hs, e5]
  obtain ⟨g0, eg0⟩ : ∃ g0, g0 = upd (upd (upd (rt_mix (fun _ => 0) (m1 240) 12) 8 (nI s / 12)) 9 (ro_rem (nI s) 12)) 10 (m 5 s) := ⟨_, rfl⟩
  have e9 : m1 214 a = m 9 a := by rw [hof 214 (by omega) (by omega)]; exact hR.1
  obtain ⟨m', r1, r2⟩ := rt_byLaw (μ := ro_arr m1 240 (upd (upd g0 6 (nI a)) 7 (m 9 a))) (W := iv_lw m) (lt := upd (upd g0 6 (nI a)) 7 (m 9 a)) (kind := 3) (most := 999) (by decide) (by decide) (by decide) (by
    have e1 : iv_mw (ro_arr m1 240 (upd (upd g0 6 (nI a)) 7 (m 9 a))) = iv_mw m := cg_mw (fun o a b => by rw [ro_arr_ne _ _ (by omega)]; exact hof o (by omega) (by omega))
    rw [e1, ro_arr_ne _ _ (by decide), hof 207 (by omega) (by omega)]
    exact hW) (ro_arr_same _ _ _)
  refine ⟨m', rfl, ?_, fun o h1 h2 => by rw [r2 o h1, ro_arr_ne _ _ h2]⟩
  rw [← eg0, ro_arr_set, ro_arr_ne _ _ (show ¬ 214 = 240 by decide), e9, ro_arr_set]
  have r1 : fn_X12_byLaw 113 999 (ro_arr m1 240 (upd (upd g0 6 (nI a)) 7 (m 9 a))) = some (sp_amt (iv_lw m) (upd (upd g0 6 (nI a)) 7 (m 9 a)) (nI 3) (nI 999), m') := r1
  rw [r1, sp_amt_cg (lt := pl_ (m 5) (m 9) a s) (by
    intro j hj
    rw [eg0]
    unfold pl_
    have : j = 0 ∨ j = 1 ∨ j = 2 ∨ j = 3 ∨ j = 4 ∨ j = 5 ∨ j = 6 ∨ j = 7 ∨ j = 8 ∨ j = 9 ∨ j = 10 ∨ j = 11 := by omega
    rcases this with rfl | rfl | rfl | rfl | rfl | rfl | rfl | rfl | rfl | rfl | rfl | rfl <;> rfl), (ev_P_eq m a s).1]
theorem rt_paidM {m m2 : ro_Mem} {N : Nat} (hw : Wd m N) (hL : LM m 0 N m2) (hof : ∀ o, 207 ≤ o → ¬ (239 ≤ o ∧ o ≤ 246) → m2 o = m o) {a : Nat} (ha : a < 4) {m1 : ro_Mem} (h1 : FsM m2 m1) : ∃ m', FsM m2 m' ∧ fn_X12_paidFor (nI a) m1 = some (nI (sp_sum (fun g => pd_ m N a g) 10), m') := by
  have hN : N ≤ 32 := hw.2.2.2.2.2
  have key : ∃ m', FsM m2 m' ∧ fl_X12_paidFor_4 (nI a) (0, 0, m1) = some (nI (sp_sum (fun g => pd_ m N a g) 10), m') := by
    unfold fl_X12_paidFor_4
    refine rt_cnt (fun i m' => (nI (sp_sum (fun g => pd_ m N a g) i), nI i, m')) (fun m' => (nI (sp_sum (fun g => pd_ m N a g) 10), m')) 10 (fun _ m' => FsM m2 m') ?_ ?_ ro_FU (by decide) m1 h1
    · intro g hg rec m' hP
      show ∃ s', _ ∧ fb_X12_paidFor_4 (nI a) rec (nI (sp_sum (fun g => pd_ m N a g) g)) (nI g) m' = rec (nI (sp_sum (fun g => pd_ m N a g) g + pd_ m N a g), nI (g + 1), s')
      obtain ⟨s1, s2, s3, s4⟩ := hw.st ha hg
      have hof' : ∀ o, 207 ≤ o → ¬ (239 ≤ o ∧ o ≤ 246) → m' o = m o := fun o hg ho => by rw [hP o (by omega) (by omega), hof o hg ho]
      have hL' : LM m 0 N m' := hL.put (fun o ho => hP o (by omega) (by omega)) (by rw [hP 207 (by omega) (by omega)])
      have g2 : m' 207 2 = m 2 11 := by rw [hof' 207 (by omega) (by omega)]; exact hw.gst
      unfold fb_X12_paidFor_4
      rw [if_neg (show ¬ (10 : Int32) ≤ nI g from nI_ge (b := 10) hg (by decide)), rt_guestM hg, g2, Option.bind_some]
      have skip : ¬ st_ m a g < 96 → ∃ s', FsM m2 s' ∧ rec (nI (sp_sum (fun g => pd_ m N a g) g), nI g + 1, m') = rec (nI (sp_sum (fun g => pd_ m N a g) g + pd_ m N a g), nI (g + 1), s') := fun h => by
        have z : pd_ m N a g = 0 := by unfold pd_; rw [if_neg (fun q => h q.1)]
        refine ⟨m', hP, ?_⟩
        rw [z, nI_1]
        rfl
      by_cases ht : bt (m 2 11) g = true
      · rw [if_pos ht, if_neg rt_10, rt_e10', if_pos (rt_in (n := 40) (by omega) (by decide)), nI_clamp (by omega), hof' 216 (by omega) (by omega), s3 ht]
        unfold fj_X12_paidFor_35
        rcases s2 with e | e
        · rw [if_pos (show nI (st_ m a g) = 255 by rw [e]; rfl)]
          exact skip (by omega)
        · have hwt := ev_wt_le m 0 hN a (st_ m a g)
          rw [if_neg (rt_255 e), rt_wetOn hw hL' ha e, Option.bind_some]
          by_cases c : ev_wt m 0 N a (st_ m a g) = 0
          · obtain ⟨m9, m3, f1, f2, f3⟩ := rt_payM hw hof' e ha
            have z : pd_ m N a g = ev_P m a (st_ m a g) := by unfold pd_; rw [if_pos ⟨e, c⟩]
            rw [if_pos (show nI (ev_wt m 0 N a (st_ m a g)) ≤ 0 by rw [c]; exact Int32.le_refl _), f1, Option.bind_some, ro_lt, if_pos (rt_in ha (by decide)), nI_clamp (by omega), ro_lt]
            show ∃ s', _ ∧ ((fn_X12_byLaw 113 999 (ro_set (ro_set m9 240 6 (nI a)) 240 7 (ro_set m9 240 6 (nI a) 214 a))).bind _) = _
            rw [f2, Option.bind_some, ro_lt, nI_add, nI_1, z]
            exact ⟨m3, fun o q1 q2 => by rw [f3 o q1 q2, hP o q1 q2], rfl⟩
          · have z : pd_ m N a g = 0 := by unfold pd_; rw [if_neg (fun h => c h.2)]
            rw [if_neg (nI_nle (by omega) (by omega)), z, nI_1]
            exact ⟨m', hP, rfl⟩
      · rw [if_neg ht, if_pos rfl]
        unfold fj_X12_paidFor_35
        rw [if_pos rfl]
        exact skip (by have := s4 (by simpa using ht); omega)
    · intro rec m' _
      rfl
  obtain ⟨m', k1, k2⟩ := key
  refine ⟨m', k1, ?_⟩
  unfold fn_X12_paidFor
  rw [k2, Option.bind_some]
theorem rt_paidAll {m m2 : ro_Mem} {N : Nat} (hw : Wd m N) (hL : LM m 0 N m2) (hof : ∀ o, 207 ≤ o → ¬ (239 ≤ o ∧ o ≤ 246) → m2 o = m o) : ∃ m', FsM m2 m' ∧ fn_X12_paidAll m2 = some (nI (sp_sum (fun a => sp_sum (fun g => pd_ m N a g) 10) 4), m') := by
  have key : ∃ m', FsM m2 m' ∧ fl_X12_paidAll_4 (0, 0, m2) = some (nI (sp_sum (fun a => sp_sum (fun g => pd_ m N a g) 10) 4), m') := by
    unfold fl_X12_paidAll_4
    refine rt_cnt (fun i m' => (nI (sp_sum (fun a => sp_sum (fun g => pd_ m N a g) 10) i), nI i, m')) (fun m' => (nI (sp_sum (fun a => sp_sum (fun g => pd_ m N a g) 10) 4), m')) 4 (fun _ m' => FsM m2 m') ?_ ?_ ro_FU (by decide) m2 (fun _ _ _ => rfl)
    · intro a ha rec m' hP
      show ∃ s', _ ∧ fb_X12_paidAll_4 rec (nI (sp_sum (fun a => sp_sum (fun g => pd_ m N a g) 10) a)) (nI a) m' = rec (nI (sp_sum (fun a => sp_sum (fun g => pd_ m N a g) 10) a + sp_sum (fun g => pd_ m N a g) 10), nI (a + 1), s')
      obtain ⟨m3, p1, p2⟩ := rt_paidM hw hL hof ha hP
      unfold fb_X12_paidAll_4
      rw [if_neg (show ¬ (4 : Int32) ≤ nI a from nI_ge (b := 4) ha (by decide)), p2, Option.bind_some, ro_lt, nI_add, nI_1]
      exact ⟨m3, p1, rfl⟩
    · intro rec m' _
      rfl
  obtain ⟨m', k1, k2⟩ := key
  refine ⟨m', k1, ?_⟩
  unfold fn_X12_paidAll
  rw [k2, Option.bind_some]
theorem op_paid (a : Int32) (μ : ro_Mem) (hI : Inv μ) : ∃ r μ1 μ2, fn_X11_paid a μ = some (r, μ1) ∧ fn_X12_paid a μ1 = some (r, μ2) ∧ Inv μ2 := by
  obtain ⟨N, hw⟩ := hI.wd
  rcases rt_ix a 5 (by decide) with hc | ⟨j, hj, rfl⟩
  · obtain ⟨a1, a2⟩ := rt_aoaN hc
    refine ⟨-1, μ, μ, ?_, ?_, hI⟩
    · unfold fn_X11_paid; rw [a1, Option.bind_some, if_pos rfl]
    · unfold fn_X12_paid; rw [a2, Option.bind_some, if_pos rfl]
  · obtain ⟨a1, a2⟩ := rt_aoaY hj
    obtain ⟨m, e, hI1, hw1, hE, hof, -⟩ := rt_fresh hI hw
    have hL1 := (cg_rf hw1.2.1).2
    have go : ∀ m', LsC m m' → Inv m' ∧ Wd m' N ∧ Fr m m' := fun m' h => ⟨hI1.scr (fun o ho => h o (fun q => ho (by unfold qy_s; omega)) (fun q => ho (by unfold qy_s; omega))), hw1.fr (h.fr hw1.2.1), h.fr hw1.2.1⟩
    have fin : ∀ m2 m3, Inv m2 → FsM m2 m3 → Inv m3 := fun m2 m3 hi h => hi.scr (fun o ho => h o (fun q => ho (by unfold qy_s; omega)) (fun q => ho (by unfold qy_s; omega)))
    by_cases j4 : j < 4
    · obtain ⟨m', p1, p2⟩ := rt_paidC hw1 hE.2.2.2.2.1 j4
      obtain ⟨hI', hw', hf'⟩ := go m' p1
      obtain ⟨m2, e2, hI2, hL, hof2⟩ := rt_laid hI' hw'
      obtain ⟨m3, q1, q2⟩ := rt_paidM hw' hL (fun o _ ho => hof2 o (by omega)) j4 (fun _ _ _ => rfl)
      have es : sp_sum (fun g => pd_ m' N j g) 10 = sp_sum (fun g => pd_ m N j g) 10 := sp_sum_cg (fun g _ => hf'.pd hw1.2.1 N j g)
      rw [es] at q2
      refine ⟨nI (sp_sum (fun g => pd_ m N j g) 10), m', m3, ?_, ?_, fin m2 m3 hI2 q1⟩
      · unfold fn_X11_paid
        rw [a1, Option.bind_some, if_neg rt_10, e, Option.bind_some, p2, Option.bind_some]
      · unfold fn_X12_paid
        rw [a2, Option.bind_some, if_neg rt_10, e2, Option.bind_some, if_neg (rt_not4 j4), q2, Option.bind_some]
    · have : j = 4 := by omega
      subst this
      obtain ⟨m', p1, p2⟩ := rt_paidC4 hw1 hE.2.2.2.2.1
      obtain ⟨hI', hw', hf'⟩ := go m' p1
      obtain ⟨m2, e2, hI2, hL, hof2⟩ := rt_laid hI' hw'
      obtain ⟨m3, q1, q2⟩ := rt_paidAll hw' hL (fun o _ ho => hof2 o (by omega))
      have es : sp_sum (fun a => sp_sum (fun g => pd_ m' N a g) 10) 4 = sp_sum (fun a => sp_sum (fun g => pd_ m N a g) 10) 4 := sp_sum_cg (fun a _ => sp_sum_cg (fun g _ => hf'.pd hw1.2.1 N a g))
      rw [es] at q2
      refine ⟨nI (sp_sum (fun a => sp_sum (fun g => pd_ m N a g) 10) 4), m', m3, ?_, ?_, fin m2 m3 hI2 q1⟩
      · unfold fn_X11_paid
        rw [a1, Option.bind_some, if_neg rt_10, e, Option.bind_some, show nI 4 = 4 from rfl, p2, Option.bind_some]
      · unfold fn_X12_paid
        rw [a2, Option.bind_some, if_neg rt_10, e2, Option.bind_some, if_pos (show nI 4 = 4 from rfl), q2, Option.bind_some]
