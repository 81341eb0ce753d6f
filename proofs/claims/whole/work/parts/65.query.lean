-- ===== queries: the class's evening, then the reference's drops =====
def qy_s (o : Nat) : Prop := (28 ≤ o ∧ o ≤ 30) ∨ o = 58 ∨ o = 59 ∨ (68 ≤ o ∧ o ≤ 206) ∨ (223 ≤ o ∧ o ≤ 233) ∨ (239 ≤ o ∧ o ≤ 256) ∨ o = 260
theorem Inv.scr {m m2 : ro_Mem} (hI : Inv m) (h : ∀ o, ¬ qy_s o → m2 o = m o) : Inv m2 := by
  have hf : Fr m m2 := Fr.of qy_s h (fun o ho => by unfold qy_s at ho; unfold fr_id; omega)
  have g : ∀ o, (o ≤ 27 ∨ (31 ≤ o ∧ o ≤ 57) ∨ (60 ≤ o ∧ o ≤ 67) ∨ (207 ≤ o ∧ o ≤ 222)) → m2 o = m o := fun o ho => h o (by unfold qy_s; omega)
  refine hI.fr hf ?_ ?_ ?_
  · rw [g 61 (by omega), g 217 (by omega), g 60 (by omega), g 207 (by omega)]; exact hI.2.2.1
  · rw [g 0 (by omega)]
    rcases hI.2.2.2.2.2.2.1 with e | ⟨e, he⟩
    · exact Or.inl e
    · exact Or.inr ⟨e, cg_eve hI.2.2.2.1 (g 1 (by omega)) (by rw [g 2 (by omega)]) (by rw [g 2 (by omega)]) (fun o a b => g o (by omega)) (fun o a b => g o (by omega)) (fun o a b => g o (by omega)) (fun o a b => g o (by omega)) he⟩
  · rw [g 207 (by omega)]; exact hI.2.2.2.2.2.2.2
theorem EVC.self {μ m : ro_Mem} {N : Nat} (hw : Wd μ N) (hE : EVC μ N m) : EVC m N m := by
  have hf := hE.fr hw
  obtain ⟨v1, v2, v3⟩ := hf.ev hw.2.1
  have f3 : m 3 = μ 3 := hf.1 3 (by unfold fr_id; omega)
  have f4 : m 4 = μ 4 := hf.1 4 (by unfold fr_id; omega)
  have f6 : m 6 = μ 6 := hf.1 6 (by unfold fr_id; omega)
  obtain ⟨-, -, h3, h4, h5, h6, h7⟩ := hE
  refine ⟨fun _ _ _ _ _ => rfl, fun _ _ => rfl, h3, by rw [v1, v2]; exact h4, ?_, ?_, ?_⟩
  · unfold ev_W; rw [v1, v2, f3, f4, f6]; exact h5
  · unfold ev_N; rw [v1, v2, f3, f4, f6]; exact h6
  · unfold ev_K; rw [v1, v2, f3, f4, f6]; exact h7
/-- the class's refresh: what it leaves is an evening of its own memory -/
theorem rt_fresh {μ : ro_Mem} {N : Nat} (hI : Inv μ) (hw : Wd μ N) : ∃ m, fn_X11_refresh μ = some m ∧ Inv m ∧ Wd m N ∧ EVC m N m ∧ (∀ o, ¬ o = 0 → ¬ (28 ≤ o ∧ o ≤ 29) → ¬ (58 ≤ o ∧ o ≤ 59) → ¬ (63 ≤ o ∧ o ≤ 68) → m o = μ o) ∧ (∀ k, ¬ k = 7 → m 0 k = μ 0 k) := by
  obtain ⟨m, e, hE⟩ := rt_refresh hI hw
  have hf := hE.fr hw
  have hL := (cg_rf hw.2.1).2
  have hof : ∀ o, ¬ o = 0 → ¬ (28 ≤ o ∧ o ≤ 29) → ¬ (58 ≤ o ∧ o ≤ 59) → ¬ (63 ≤ o ∧ o ≤ 68) → m o = μ o := fun o h0 h1 h2 h3 => hE.1 o h0 (by omega) (by omega) h3
  refine ⟨m, e, hI.fr hf ?_ (Or.inr ⟨hE.2.2.1, hE.eve hw⟩) ?_, hw.fr hf, hE.self hw, hof, hE.2.1⟩
  · rw [hof 61 (by omega) (by omega) (by omega) (by omega), hof 217 (by omega) (by omega) (by omega) (by omega), hof 60 (by omega) (by omega) (by omega) (by omega), hof 207 (by omega) (by omega) (by omega) (by omega)]; exact hI.2.2.1
  · rw [hof 207 (by omega) (by omega) (by omega) (by omega)]; exact hI.2.2.2.2.2.2.2
theorem rt_laid {m : ro_Mem} {N : Nat} (hI : Inv m) (hw : Wd m N) : ∃ m2, fn_X12_laysDrops m = some m2 ∧ Inv m2 ∧ LM m 0 N m2 ∧ (∀ o, ¬ (239 ≤ o ∧ o ≤ 242) → m2 o = m o) := by
  obtain ⟨m2, e, hP⟩ := rt_lays hw hI.2.2.2.2.2.2.2
  refine ⟨m2, e, hI.scr (fun o ho => hP.1 o (fun q => ho (by unfold qy_s; omega)) (fun q => ho (by unfold qy_s; omega)) (fun q => ho (by unfold qy_s; omega)) (fun q => ho (by unfold qy_s; omega))), hP.lm, fun o ho => hP.1 o (by omega) (by omega) (by omega) (by omega)⟩
/-- the reference's evening -/
theorem rt_played {m : ro_Mem} {N : Nat} (hI : Inv m) (hw : Wd m N) : ∃ m2, fn_X12_evening m = some m2 ∧ Inv m2 ∧ LM m 0 N m2 ∧ (∀ o, ¬ (239 ≤ o ∧ o ≤ 246) → m2 o = m o) ∧ (∀ a s, a < 4 → s < 96 → m2 244 (96 * a + s) = nI (ev_W m N a s)) ∧ Nt (ev_N m N) 32 (m2 245) ∧ Nt (ev_K m N) 16 (m2 246) := by
  obtain ⟨m2, e, hP, hB⟩ := rt_evening hw hI.2.2.2.2.2.2.2
  refine ⟨m2, e, hI.scr (fun o ho => hP.1 o (fun q => ho (by unfold qy_s; omega))), ?_, hP.1, fun a s ha hs => ?_, hB.2.1.cg (fun i _ => ev_BN_4.symm), hB.2.2.cg (fun k hk => (ev_BS_4 hk hw.2.2.2.2.2).symm)⟩
  · refine ⟨fun i k hi hk => ?_, hP.1 _ (by decide), hP.1 _ (by decide), hP.1 _ (by decide), hP.1 _ (by decide), by rw [hP.1 207 (by decide)]⟩
    have := hP.2 (16 * i + k) (by omega)
    rwa [show (16 * i + k) / 16 = i by omega, show (16 * i + k) % 16 = k by omega] at this
  · rw [hB.1 a s ha hs, if_pos ha]
    rfl
theorem rt_aoaN {v : Int32} (h : v < 0 ∨ nI 5 ≤ v) : fn_X11_isActOrAll v = some 0 ∧ fn_X12_in v 0 4 = some 0 := by
  refine ⟨?_, rt_inO 0 5 (by decide) (by decide) h⟩
  unfold fn_X11_isActOrAll
  rcases h with h | h
  · rw [if_pos h]
  · by_cases c : v < 0
    · rw [if_pos c]
    · rw [if_neg c, if_pos (by rw [fa_lt]; rw [fa_le] at h; have h5 : (nI 5).toInt = 5 := by decide
                               have h4 : (4 : Int32).toInt = 4 := by decide
                               omega)]
theorem rt_aoaY {j : Nat} (h : j < 5) : fn_X11_isActOrAll (nI j) = some 1 ∧ fn_X12_in (nI j) 0 4 = some 1 := by
  constructor
  · unfold fn_X11_isActOrAll
    rw [if_neg (nI_pos (by omega)), if_neg (show ¬ (4 : Int32) < nI j from nI_nlt (a := 4) (by omega) (by decide))]
  · have := rt_inI (a := 0) (n := 5) (j := j) (by decide) h
    rwa [Nat.zero_add] at this
theorem rt_e96 (a s : Nat) : nI a * 96 + nI s = nI (96 * a + s) := by
  show nI a * nI 96 + nI s = _
  rw [pk_mul, nI_add, Nat.mul_comm]
theorem rt_e96' (a s : Nat) : (96 : Int32) * nI a + nI s = nI (96 * a + s) := by
  show nI 96 * nI a + nI s = _
  rw [pk_mul, nI_add]
theorem rt_e10 (a s : Nat) : nI a * 10 + nI s = nI (10 * a + s) := by
  show nI a * nI 10 + nI s = _
  rw [pk_mul, nI_add, Nat.mul_comm]
theorem rt_e10' (a s : Nat) : (10 : Int32) * nI a + nI s = nI (10 * a + s) := by
  show nI 10 * nI a + nI s = _
  rw [pk_mul, nI_add]
theorem rt_e16 (a s : Nat) : nI a * 16 + nI s = nI (16 * a + s) := by
  show nI a * nI 16 + nI s = _
  rw [pk_mul, nI_add, Nat.mul_comm]
theorem rt_e16' (a s : Nat) : (16 : Int32) * nI a + nI s = nI (16 * a + s) := by
  show nI 16 * nI a + nI s = _
  rw [pk_mul, nI_add]
theorem rt_e12 (a s : Nat) : nI a * 12 + nI s = nI (12 * a + s) := by
  show nI a * nI 12 + nI s = _
  rw [pk_mul, nI_add, Nat.mul_comm]
theorem rt_e12' (a s : Nat) : (12 : Int32) * nI a + nI s = nI (12 * a + s) := by
  show nI 12 * nI a + nI s = _
  rw [pk_mul, nI_add]
theorem rt_sum4 (f : Nat → Nat) : sp_sum f 4 = f 0 + f 1 + f 2 + f 3 := by
  show 0 + f 0 + f 1 + f 2 + f 3 = _
  rw [Nat.zero_add]
theorem rt_seatWet {m : ro_Mem} {N : Nat} (h : EVC m N m) {s a : Nat} (hs : s < 96) (ha : a < 4) : fn_X0_seatWet (nI s) (nI a) m = some (nI (ev_wt m 0 N a s)) := by
  unfold fn_X0_seatWet
  rw [if_neg (show ¬ (4 : Int32) ≤ nI a from nI_ge (b := 4) ha (by decide)), rt_e96, if_pos (rt_in (n := 384) (by omega) (by decide)), nI_clamp (by omega), h.2.2.2.2.1 a s ha hs]
  rfl
theorem rt_seatWet4w {m : ro_Mem} {f : Nat → Nat → Nat} (h : ∀ a s, a < 4 → s < 96 → m 65 (96 * a + s) = nI (f a s)) {s : Nat} (hs : s < 96) : fn_X0_seatWet (nI s) 4 m = some (nI (sp_sum (fun a => f a s) 4)) := by
  unfold fn_X0_seatWet
  have e1 : (96 : Int32) + nI s = nI (96 + s) := nI_add 96 s
  have e2 : (192 : Int32) + nI s = nI (192 + s) := nI_add 192 s
  have e3 : (288 : Int32) + nI s = nI (288 + s) := nI_add 288 s
  have h0 := h 0 s (by decide) hs
  have h1 := h 1 s (by decide) hs
  have h2 := h 2 s (by decide) hs
  have h3 := h 3 s (by decide) hs
  rw [show 96 * 0 + s = s by omega] at h0
  rw [show 96 * 1 + s = 96 + s by omega] at h1
  rw [show 96 * 2 + s = 192 + s by omega] at h2
  rw [show 96 * 3 + s = 288 + s by omega] at h3
  rw [if_pos (show (4 : Int32) ≤ 4 by decide), e1, e2, e3, if_pos (rt_in (n := 384) (by omega) (by decide)), if_pos (rt_in (n := 384) (by omega) (by decide)), if_pos (rt_in (n := 384) (by omega) (by decide)), if_pos (rt_in (n := 384) (by omega) (by decide)), nI_clamp (by omega), nI_clamp (by omega), nI_clamp (by omega), nI_clamp (by omega), h0, h1, h2, h3, nI_add, nI_add, nI_add, rt_sum4]
theorem rt_seatWet4 {m : ro_Mem} {N : Nat} (h : EVC m N m) {s : Nat} (hs : s < 96) : fn_X0_seatWet (nI s) 4 m = some (nI (sp_sum (fun a => ev_wt m 0 N a s) 4)) := rt_seatWet4w (f := fun a s => ev_W m N a s) h.2.2.2.2.1 hs
theorem rt_wogL {m : ro_Mem} {S f : Nat → Nat → Nat} (hst : ∀ a g, a < 4 → g < 10 → m 11 (10 * a + g) = nI (S a g) ∧ (S a g = 255 ∨ S a g < 96)) (h65 : ∀ a s, a < 4 → s < 96 → m 65 (96 * a + s) = nI (f a s)) {g i0 n : Nat} (hg : g < 10) (h1 : 1 ≤ n) (h4 : i0 + n ≤ 4) : fl_X11_wetOfGuest_29 (nI g) (nI (i0 + n - 1)) m (0, nI i0) = some (nI (sp_sum (fun i => if S (i0 + i) g < 96 then f (i0 + i) (S (i0 + i) g) else 0) n)) := by
  unfold fl_X11_wetOfGuest_29
  have key := rt_sumL (b := fun rec s => fb_X11_wetOfGuest_29 (nI g) (nI (i0 + n - 1)) m rec s.1 s.2) (fun i => if S (i0 + i) g < 96 then f (i0 + i) (S (i0 + i) g) else 0) i0 n 0 (by omega) (fun i hi rec x => by
    show fb_X11_wetOfGuest_29 (nI g) (nI (i0 + n - 1)) m rec (nI x) (nI (i0 + i)) = _
    obtain ⟨s1, s2⟩ := hst (i0 + i) g (by omega) hg
    unfold fb_X11_wetOfGuest_29
    rw [if_neg (nI_nlt (by omega) (by omega)), rt_e10, if_pos (rt_in (n := 40) (by omega) (by decide)), nI_clamp (by omega), s1, ro_lt, nI_1]
    rcases s2 with e | e
    · rw [e, if_pos (show (96 : Int32) ≤ nI 255 by decide), if_neg (show ¬ 255 < 96 by decide), ro_lt, Int32.add_zero]
      rfl
    · rw [if_neg (show ¬ (96 : Int32) ≤ nI _ from nI_ge (b := 96) e (by decide)), if_pos e, rt_e96, if_pos (rt_in (n := 384) (by omega) (by decide)), nI_clamp (by omega), h65 _ _ (by omega) e, ro_lt, nI_add]) (fun rec x => by
    show fb_X11_wetOfGuest_29 (nI g) (nI (i0 + n - 1)) m rec (nI x) (nI (i0 + n)) = _
    unfold fb_X11_wetOfGuest_29
    rw [if_pos (nI_lt (by omega) (by omega))])
  rw [Nat.zero_add] at key
  exact key
theorem rt_wogG {m : ro_Mem} {S f : Nat → Nat → Nat} (hst : ∀ a g, a < 4 → g < 10 → m 11 (10 * a + g) = nI (S a g) ∧ (S a g = 255 ∨ S a g < 96)) (h65 : ∀ a s, a < 4 → s < 96 → m 65 (96 * a + s) = nI (f a s)) {g a : Nat} (hg : g < 10) (ha : a < 4) : fn_X11_wetOfGuest (nI g) (nI a) m = some (nI (if S a g < 96 then f a (S a g) else 0)) := by
  have hne : ¬ nI a = 4 := fun e => by
    have := (nI_eq (a := a) (b := 4) (by omega) (by decide)).mp e
    omega
  have h := rt_wogL hst h65 (i0 := a) (n := 1) hg (by decide) (by omega)
  rw [Nat.add_sub_cancel] at h
  unfold fn_X11_wetOfGuest fj_X11_wetOfGuest_10 fj_X11_wetOfGuest_21
  rw [if_neg hne, if_neg hne, h, Option.bind_some]
  show some (nI (0 + (if S (a + 0) g < 96 then f (a + 0) (S (a + 0) g) else 0))) = _
  rw [Nat.zero_add, Nat.add_zero]
theorem rt_wogG4 {m : ro_Mem} {S f : Nat → Nat → Nat} (hst : ∀ a g, a < 4 → g < 10 → m 11 (10 * a + g) = nI (S a g) ∧ (S a g = 255 ∨ S a g < 96)) (h65 : ∀ a s, a < 4 → s < 96 → m 65 (96 * a + s) = nI (f a s)) {g : Nat} (hg : g < 10) : fn_X11_wetOfGuest (nI g) 4 m = some (nI (sp_sum (fun a => if S a g < 96 then f a (S a g) else 0) 4)) := by
  have h := rt_wogL hst h65 (i0 := 0) (n := 4) hg (by decide) (by omega)
  have h : fl_X11_wetOfGuest_29 (nI g) 3 m (0, 0) = _ := h
  unfold fn_X11_wetOfGuest fj_X11_wetOfGuest_10 fj_X11_wetOfGuest_21
  rw [if_pos rfl, if_pos rfl, h, Option.bind_some, sp_sum_cg (g := fun a => if S a g < 96 then f a (S a g) else 0) (fun i _ => by rw [Nat.zero_add])]
theorem rt_wog {m : ro_Mem} {N : Nat} (hw : Wd m N) (h65 : ∀ a s, a < 4 → s < 96 → m 65 (96 * a + s) = nI (ev_W m N a s)) {g a : Nat} (hg : g < 10) (ha : a < 4) : fn_X11_wetOfGuest (nI g) (nI a) m = some (nI (gw_ m 0 N a g)) :=
  rt_wogG (S := st_ m) (f := ev_W m N) (fun a g ha hg => ⟨(hw.st ha hg).1, (hw.st ha hg).2.1⟩) h65 hg ha
theorem rt_wog4 {m : ro_Mem} {N : Nat} (hw : Wd m N) (h65 : ∀ a s, a < 4 → s < 96 → m 65 (96 * a + s) = nI (ev_W m N a s)) {g : Nat} (hg : g < 10) : fn_X11_wetOfGuest (nI g) 4 m = some (nI (sp_sum (fun a => gw_ m 0 N a g) 4)) :=
  rt_wogG4 (S := st_ m) (f := ev_W m N) (fun a g ha hg => ⟨(hw.st ha hg).1, (hw.st ha hg).2.1⟩) h65 hg
theorem Wd.gst {μ : ro_Mem} {N : Nat} (hw : Wd μ N) : μ 207 2 = μ 2 11 := hw.1.2.2.2.2.2.1.1
theorem op_drops (a b : Int32) (μ : ro_Mem) (hI : Inv μ) : ∃ r μ1 μ2, fn_X11_drops a b μ = some (r, μ1) ∧ fn_X12_drops a b μ1 = some (r, μ2) ∧ Inv μ2 := by
  obtain ⟨N, hw⟩ := hI.wd
  have hn : μ (ro_rf μ 1 1) 5 = nI N := hw.2.2.2.2.1
  have hm : μ 207 18 = nI N := hw.notes.1
  have hN : N ≤ 32 := hw.2.2.2.2.2
  rcases rt_ix a N (by omega) with ha | ⟨i, hi, rfl⟩
  · refine ⟨-1, μ, μ, ?_, ?_, hI⟩
    · unfold fn_X11_drops
      rw [hn, if_pos (rt_sc5 hw.2.1).1]
      exact rt_else ha
    · unfold fn_X12_drops fn_X12_isNote
      rw [hm, rt_else ha, Option.bind_some, if_pos rfl]
  · have c1 : ∀ {x y : Option (Int32 × ro_Mem)}, (if nI i < 0 then x else if ro_sh (ro_rf μ 1 1) = (0, 5) then (if μ (ro_rf μ 1 1) 5 ≤ nI i then x else y) else none) = y := fun {x y} => by
      rw [if_neg (nI_pos (by omega)), if_pos (rt_sc5 hw.2.1).1, hn, if_neg (nI_ge hi (by omega))]
    have c2 : ∀ m : ro_Mem, m 207 18 = nI N → fn_X12_isNote (nI i) m = some 1 := fun m h => by
      unfold fn_X12_isNote
      rw [h, if_neg (nI_pos (by omega)), if_neg (nI_ge hi (by omega))]
    rcases rt_ix b 16 (by decide) with hb | ⟨k, hk, rfl⟩
    · refine ⟨-1, μ, μ, ?_, ?_, hI⟩
      · unfold fn_X11_drops
        rw [c1, (rt_slateN hb).1, Option.bind_some, if_pos rfl]
      · unfold fn_X12_drops
        rw [c2 μ hm, Option.bind_some, if_neg rt_10, (rt_slateN hb).2, Option.bind_some, if_pos rfl]
    · by_cases ht : bt (μ 2 6) k = true
      · obtain ⟨m, e, hI1, hw1, hE, hof, -⟩ := rt_fresh hI hw
        obtain ⟨m2, d1, d2, d3, d4⟩ := rt_dropsM hw1 hI1.2.2.2.2.2.2.2 hi hk
        have ht1 : bt (m 2 6) k = true := by rw [hof 2 (by omega) (by omega) (by omega) (by omega)]; exact ht
        refine ⟨nI (ev_D m 0 i k), m, m2, ?_, ?_, hI1.scr (fun o ho => d2 o (fun q => ho (by unfold qy_s; omega)) (fun q => ho (by unfold qy_s; omega)))⟩
        · unfold fn_X11_drops
          rw [c1, rt_slateC hk, Option.bind_some, if_pos ht, if_neg rt_10, e, Option.bind_some, rt_e16, if_pos (rt_in (n := 512) (by omega) (by decide)), nI_clamp (by omega), (hE.2.2.2.1 i k hi hk).1]
        · unfold fn_X12_drops
          rw [c2 m hw1.notes.1, Option.bind_some, if_neg rt_10, rt_slateI hw1.1.2.2.2.1 hk, if_pos ht1, Option.bind_some, if_neg rt_10, d1, Option.bind_some]
      · refine ⟨-1, μ, μ, ?_, ?_, hI⟩
        · unfold fn_X11_drops
          rw [c1, rt_slateC hk, Option.bind_some, if_neg ht, if_pos rfl]
        · unfold fn_X12_drops
          rw [c2 μ hm, Option.bind_some, if_neg rt_10, rt_slateI hw.1.2.2.2.1 hk, if_neg ht, Option.bind_some, if_pos rfl]
theorem rt_place (a b : Int32) : ((fn_X11_seatNumber a b = some (-1) ∧ fn_X12_isPlace a b = some 0) ∨ ∃ r p, r < 8 ∧ p < 12 ∧ a = nI r ∧ b = nI p ∧ fn_X11_seatNumber a b = some (nI (12 * r + p)) ∧ fn_X12_isPlace a b = some 1) := by
  by_cases hp : (a < 0 ∨ (8 : Int32) ≤ a) ∨ (b < 0 ∨ (12 : Int32) ≤ b)
  · exact Or.inl ⟨rt_seatNumber_no hp, rt_isPlace_no hp⟩
  · right
    have ha : ∃ r, r < 8 ∧ a = nI r := by
      rcases rt_ix a 8 (by decide) with h | h
      · exact absurd (Or.inl h) hp
      · exact h
    have hb : ∃ p, p < 12 ∧ b = nI p := by
      rcases rt_ix b 12 (by decide) with h | h
      · exact absurd (Or.inr h) hp
      · exact h
    obtain ⟨r, hr, rfl⟩ := ha
    obtain ⟨p, hpp, rfl⟩ := hb
    exact ⟨r, p, hr, hpp, rfl, rfl, rt_seatNumber hr hpp, rt_isPlace hr hpp⟩
theorem rt_not4 {j : Nat} (h : j < 4) : ¬ nI j = 4 := fun e => by
  have := (nI_eq (a := j) (b := 4) (by omega) (by decide)).mp e
  omega
theorem op_wet (a b c : Int32) (μ : ro_Mem) (hI : Inv μ) : ∃ r μ1 μ2, fn_X11_wet a b c μ = some (r, μ1) ∧ fn_X12_wet a b c μ1 = some (r, μ2) ∧ Inv μ2 := by
  obtain ⟨N, hw⟩ := hI.wd
  rcases rt_place a b with ⟨h1, h2⟩ | ⟨r, p, hr, hp, rfl, rfl, h1, h2⟩
  · refine ⟨-1, μ, μ, ?_, ?_, hI⟩
    · unfold fn_X11_wet; rw [h1, Option.bind_some, if_pos rfl]
    · unfold fn_X12_wet; rw [h2, Option.bind_some, if_pos rfl]
  · have hs : 12 * r + p < 96 := by omega
    rcases rt_ix c 5 (by decide) with hc | ⟨j, hj, rfl⟩
    · obtain ⟨a1, a2⟩ := rt_aoaN hc
      refine ⟨-1, μ, μ, ?_, ?_, hI⟩
      · unfold fn_X11_wet; rw [h1, Option.bind_some, if_neg (rt_m1 (by omega)), a1, Option.bind_some, if_pos rfl]
      · unfold fn_X12_wet; rw [h2, Option.bind_some, if_neg rt_10, a2, Option.bind_some, if_pos rfl]
    · obtain ⟨a1, a2⟩ := rt_aoaY hj
      obtain ⟨m, e, hI1, hw1, hE, hof, -⟩ := rt_fresh hI hw
      obtain ⟨m2, e2, hI2, hL, hof2⟩ := rt_laid hI1 hw1
      by_cases j4 : j < 4
      · refine ⟨nI (ev_wt m 0 N j (12 * r + p)), m, m2, ?_, ?_, hI2⟩
        · unfold fn_X11_wet
          rw [h1, Option.bind_some, if_neg (rt_m1 (by omega)), a1, Option.bind_some, if_neg rt_10, e, Option.bind_some, rt_seatWet hE hs j4, Option.bind_some]
        · unfold fn_X12_wet
          rw [h2, Option.bind_some, if_neg rt_10, a2, Option.bind_some, if_neg rt_10, e2, Option.bind_some, if_neg (rt_not4 j4), rt_e12', rt_wetOn hw1 hL j4 hs, Option.bind_some]
      · have : j = 4 := by omega
        subst this
        refine ⟨nI (sp_sum (fun a => ev_wt m 0 N a (12 * r + p)) 4), m, m2, ?_, ?_, hI2⟩
        · unfold fn_X11_wet
          rw [h1, Option.bind_some, if_neg (rt_m1 (by omega)), a1, Option.bind_some, if_neg rt_10, e, Option.bind_some, show nI 4 = 4 from rfl, rt_seatWet4 hE hs, Option.bind_some]
        · unfold fn_X12_wet
          rw [h2, Option.bind_some, if_neg rt_10, a2, Option.bind_some, if_neg rt_10, e2, Option.bind_some, if_pos (show nI 4 = 4 from rfl), rt_e12', rt_wetAll hw1 hL hs, Option.bind_some]
theorem rt_isG {μ : ro_Mem} {N : Nat} (hw : Wd μ N) (v : Int32) : (fn_X1_isGuest 2 v μ = some 0 ∧ fn_X12_isGuest v μ = some 0) ∨ ∃ g, g < 10 ∧ v = nI g ∧ bt (μ 2 11) g = true ∧ fn_X1_isGuest 2 v μ = some 1 ∧ fn_X12_isGuest v μ = some 1 := by
  rcases rt_ix v 10 (by decide) with h | ⟨g, hg, rfl⟩
  · exact Or.inl (rt_guestN h)
  · by_cases c : bt (μ 2 11) g = true
    · refine Or.inr ⟨g, hg, rfl, c, ?_, ?_⟩
      · rw [rt_guestC hg, if_pos c]
      · rw [rt_guestM hg, hw.gst, if_pos c]
    · refine Or.inl ⟨?_, ?_⟩
      · rw [rt_guestC hg, if_neg c]
      · rw [rt_guestM hg, hw.gst, if_neg c]
theorem op_guestWet (a c : Int32) (μ : ro_Mem) (hI : Inv μ) : ∃ r μ1 μ2, fn_X11_guestWet a c μ = some (r, μ1) ∧ fn_X12_guestWet a c μ1 = some (r, μ2) ∧ Inv μ2 := by
  obtain ⟨N, hw⟩ := hI.wd
  rcases rt_isG hw a with ⟨h1, h2⟩ | ⟨g, hg, rfl, ht, h1, h2⟩
  · refine ⟨-1, μ, μ, ?_, ?_, hI⟩
    · unfold fn_X11_guestWet; rw [h1, Option.bind_some, if_pos rfl]
    · unfold fn_X12_guestWet; rw [h2, Option.bind_some, if_pos rfl]
  · rcases rt_ix c 5 (by decide) with hc | ⟨j, hj, rfl⟩
    · obtain ⟨a1, a2⟩ := rt_aoaN hc
      refine ⟨-1, μ, μ, ?_, ?_, hI⟩
      · unfold fn_X11_guestWet; rw [h1, Option.bind_some, if_neg rt_10, a1, Option.bind_some, if_pos rfl]
      · unfold fn_X12_guestWet; rw [h2, Option.bind_some, if_neg rt_10, a2, Option.bind_some, if_pos rfl]
    · obtain ⟨a1, a2⟩ := rt_aoaY hj
      obtain ⟨m, e, hI1, hw1, hE, hof, -⟩ := rt_fresh hI hw
      obtain ⟨m2, e2, hI2, hL, hof2⟩ := rt_laid hI1 hw1
      have ht1 : bt (m 2 11) g = true := by rw [hof 2 (by omega) (by omega) (by omega) (by omega)]; exact ht
      have h2' : fn_X12_isGuest (nI g) m = some 1 := by rw [rt_guestM hg, hw1.gst, if_pos ht1]
      by_cases j4 : j < 4
      · refine ⟨nI (gw_ m 0 N j g), m, m2, ?_, ?_, hI2⟩
        · unfold fn_X11_guestWet
          rw [h1, Option.bind_some, if_neg rt_10, a1, Option.bind_some, if_neg rt_10, e, Option.bind_some, rt_wog hw1 hE.2.2.2.2.1 hg j4, Option.bind_some]
        · unfold fn_X12_guestWet
          rw [h2', Option.bind_some, if_neg rt_10, a2, Option.bind_some, if_neg rt_10, e2, Option.bind_some, if_neg (rt_not4 j4), rt_e10', if_pos (rt_in (n := 40) (by omega) (by decide)), nI_clamp (by omega), rt_wetSt hw1 hL j4 hg ht1 (hof2 216 (by omega)), Option.bind_some]
      · have : j = 4 := by omega
        subst this
        refine ⟨nI (sp_sum (fun a => gw_ m 0 N a g) 4), m, m2, ?_, ?_, hI2⟩
        · unfold fn_X11_guestWet
          rw [h1, Option.bind_some, if_neg rt_10, a1, Option.bind_some, if_neg rt_10, e, Option.bind_some, show nI 4 = 4 from rfl, rt_wog4 hw1 hE.2.2.2.2.1 hg, Option.bind_some]
        · unfold fn_X12_guestWet
          rw [h2', Option.bind_some, if_neg rt_10, a2, Option.bind_some, if_neg rt_10, e2, Option.bind_some, if_pos (show nI 4 = 4 from rfl), rt_guestWetAll hw1 hL hg ht1 (hof2 216 (by omega)), Option.bind_some]
