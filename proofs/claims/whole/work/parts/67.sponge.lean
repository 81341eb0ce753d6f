-- ===== a sponge =====
def rk_ (m : ro_Mem) (g : Nat) : Nat := nn (m 10 g)
theorem Wd.rk {m : ro_Mem} {N : Nat} (hw : Wd m N) {g : Nat} (hg : g < 10) (ht : bt (m 2 11) g = true) : m 10 g = nI (rk_ m g) ∧ m 215 g = nI (rk_ m g) ∧ rk_ m g ≤ 99 ∧ 1 ≤ rk_ m g := by
  obtain ⟨-, -, h3, -⟩ := hw.1.2.2.2.2.2.1
  obtain ⟨e, n, h1, h2, en⟩ := h3 g hg ht
  unfold rk_
  rw [e, en, nn_nI (by omega)]
  exact ⟨rfl, rfl, h2, h1⟩
theorem Wd.one {m : ro_Mem} {N : Nat} (hw : Wd m N) {a g g' : Nat} (ha : a < 4) (hg : g < 10) (hg' : g' < 10) (h : st_ m a g = st_ m a g') (h9 : st_ m a g < 96) : g = g' := by
  obtain ⟨-, -, -, -, -, h6⟩ := hw.1.2.2.2.2.2.1
  obtain ⟨e1, -⟩ := hw.st ha hg
  obtain ⟨e2, -⟩ := hw.st ha hg'
  refine h6 a g g' ha hg hg' (by rw [e1, e2, h]) ?_
  rw [e1]
  exact rt_255 h9
def who_ (m : ro_Mem) (a s : Nat) : Option Nat := sp_who (m 11) a s
theorem Wd.who_some {m : ro_Mem} {N : Nat} (hw : Wd m N) {a s g : Nat} (ha : a < 4) (hs : s < 96) (h : who_ m a s = some g) : g < 10 ∧ st_ m a g = s ∧ bt (m 2 11) g = true := by
  obtain ⟨-, h2, h3, -⟩ := sp_first_some h
  have hg : g < 10 := by omega
  have h3 := of_decide_eq_true h3
  obtain ⟨e1, e2, e3, e4⟩ := hw.st ha hg
  rw [e1] at h3
  have h3 := (nI_eq (by omega) (by omega)).mp h3
  refine ⟨hg, h3, ?_⟩
  by_cases c : bt (m 2 11) g = true
  · exact c
  · have := e4 (by simpa using c)
    omega
theorem Wd.who_none {m : ro_Mem} {N : Nat} (hw : Wd m N) {a s : Nat} (ha : a < 4) (h : who_ m a s = none) {g : Nat} (hg : g < 10) : ¬ st_ m a g = s := by
  have := sp_first_none h g (by omega) (by omega)
  have := of_decide_eq_false this
  obtain ⟨e1, -⟩ := hw.st ha hg
  intro e
  exact this (by rw [e1, e])
theorem Wd.who_sum {m : ro_Mem} {N : Nat} (hw : Wd m N) {a s : Nat} (ha : a < 4) (hs : s < 96) (h : Nat → Nat) : sp_sum (fun g => if st_ m a g = s then h g else 0) 10 = match who_ m a s with
    | none => 0
    | some g => h g := by
  cases e : who_ m a s with
  | none => exact sp_sum_zero (fun g hg => if_neg (hw.who_none ha e hg))
  | some g =>
    obtain ⟨h1, h2, h3⟩ := hw.who_some ha hs e
    rw [sp_sum_single h1 (fun g' hg' hne => if_neg (fun q => hne (hw.one ha hg' h1 (by rw [q, h2]) (by omega)))), if_pos h2]
/-- wet with a sponge of n on seat q -/
def wq_ (m : ro_Mem) (N q n a g : Nat) : Nat := if st_ m a g < 96 then ev_al m 0 N a (st_ m a g) - (nn (m 4 (st_ m a g)) + (if st_ m a g = q then n else 0)) else 0
theorem rt_weighed {m m2 : ro_Mem} {N : Nat} (hw : Wd m N) (hL : LM m 0 N m2) (hof : ∀ o, ¬ (239 ≤ o ∧ o ≤ 242) → m2 o = m o) {v : Int32} {q n : Nat} (hn : n ≤ 99) (hv : ∀ s, s < 96 → ((nI s = v) ↔ s = q)) : fn_X12_weighed v (nI n) m2 = some (nI (sp_sum (fun a => sp_sum (fun g => rk_ m g * wq_ m N q n a g) 10) 4)) := by
  have hN : N ≤ 32 := hw.2.2.2.2.2
  have inner : ∀ a x, a < 4 → fl_X12_weighed_14 v (nI n) (nI a) m2 (nI x, 0) = some (nI (x + sp_sum (fun g => rk_ m g * wq_ m N q n a g) 10)) := by
    intro a x ha
    have key := rt_sumL (b := fun rec s => fb_X12_weighed_14 v (nI n) (nI a) m2 rec s.1 s.2) (fun g => rk_ m g * wq_ m N q n a g) 0 10 x (by omega) (fun g hg rec x => by
      rw [Nat.zero_add]
      show fb_X12_weighed_14 v (nI n) (nI a) m2 rec (nI x) (nI g) = _
      obtain ⟨s1, s2, s3, s4⟩ := hw.st ha hg
      have g2 : m2 207 2 = m 2 11 := by rw [hof 207 (by omega)]; exact hw.gst
      unfold fb_X12_weighed_14 wq_
      rw [if_neg (show ¬ (10 : Int32) ≤ nI g from nI_ge (b := 10) hg (by decide)), rt_guestM hg, g2, Option.bind_some]
      have skip : ¬ st_ m a g < 96 → rec (nI x, nI g + 1) = rec (nI (x + rk_ m g * (if st_ m a g < 96 then ev_al m 0 N a (st_ m a g) - (nn (m 4 (st_ m a g)) + (if st_ m a g = q then n else 0)) else 0)), nI (g + 1)) := fun h => by
        rw [if_neg h, Nat.mul_zero, Nat.add_zero, nI_1]
      by_cases ht : bt (m 2 11) g = true
      · obtain ⟨k1, k2, k3, k4⟩ := hw.rk hg ht
        rw [if_pos ht, if_neg rt_10, rt_e10', if_pos (rt_in (n := 40) (by omega) (by decide)), nI_clamp (by omega), hof 216 (by omega), s3 ht]
        unfold fj_X12_weighed_49
        rcases s2 with e | e
        · rw [if_pos (show nI (st_ m a g) = 255 by rw [e]; rfl)]
          exact skip (by omega)
        · obtain ⟨b1, b2, b3⟩ := hw.bu e
          have hal := ev_al_le m 0 hN a (st_ m a g)
          have eb : m2 209 (st_ m a g) = nI (nn (m 4 (st_ m a g))) := by rw [hof 209 (by omega), b3]; exact b1
          rw [if_neg (rt_255 e), if_pos (rt_in hg (by decide)), rt_allOn hw hL ha (by omega), Option.bind_some, if_pos (rt_in e (by decide)), nI_clamp (show st_ m a g < 2 ^ 31 by omega), nI_clamp (show g < 2 ^ 31 by omega), hof 215 (by omega), eb, k2, if_pos e]
          unfold fj_X12_weighed_95
          by_cases c : st_ m a g = q
          · rw [if_pos ((hv _ e).mpr c), if_pos c, Int32.sub_sub, nI_add, rt_maxs (by omega) (by omega), Option.bind_some, pk_mul, nI_add, ro_lt, nI_1]
          · rw [if_neg (fun h => c ((hv _ e).mp h)), if_neg c, Int32.sub_zero, rt_maxs (by omega) (by omega), Option.bind_some, pk_mul, nI_add, ro_lt, nI_1]
            rfl
      · rw [if_neg ht, if_pos rfl]
        unfold fj_X12_weighed_49
        rw [if_pos rfl]
        exact skip (by have := s4 (by simpa using ht); omega)) (fun rec x => rfl)
    exact key
  have key := rt_sumL (b := fun rec s => fb_X12_weighed_5 v (nI n) m2 rec s.1 s.2) (fun a => sp_sum (fun g => rk_ m g * wq_ m N q n a g) 10) 0 4 0 (by omega) (fun a ha rec x => by
    rw [Nat.zero_add]
    show fb_X12_weighed_5 v (nI n) m2 rec (nI x) (nI a) = _
    unfold fb_X12_weighed_5
    rw [if_neg (show ¬ (4 : Int32) ≤ nI a from nI_ge (b := 4) ha (by decide)), inner a x ha, Option.bind_some, nI_1]) (fun rec x => rfl)
  rw [Nat.zero_add] at key
  have key : fl_X12_weighed_5 v (nI n) m2 (0, 0) = _ := key
  unfold fn_X12_weighed
  rw [key, Option.bind_some]
/-- what a sponge of n on seat q is worth -/
def sw_ (m : ro_Mem) (N n q : Nat) : Nat := sp_sum (fun a => match who_ m a q with
  | none => 0
  | some g => min n (ev_wt m 0 N a q) * rk_ m g) 4
theorem rt_mnn {x y : Nat} (hx : x < 2 ^ 30) (hy : y < 2 ^ 30) : ro_mn (nI x) (nI y) = nI (min x y) := by
  unfold ro_mn
  by_cases h : y < x
  · rw [if_pos (nI_lt h (by omega)), Nat.min_eq_right (by omega)]
  · rw [if_neg (nI_nlt (by omega) (by omega)), Nat.min_eq_left (by omega)]
theorem rt_spongeWorth {m : ro_Mem} {N : Nat} (hw : Wd m N) (hE : EVC m N m) {q n : Nat} (hq : q < 96) (hn : n ≤ 99) : fn_X11_spongeWorth (nI q) (nI n) m = some (nI (sw_ m N n q)) := by
  have hN : N ≤ 32 := hw.2.2.2.2.2
  have key := rt_sumL (b := fun rec s => fb_X11_spongeWorth_5 (nI q) (nI n) m rec s.1 s.2) (fun a => match who_ m a q with
    | none => 0
    | some g => min n (ev_wt m 0 N a q) * rk_ m g) 0 4 0 (by omega) (fun a ha rec x => by
    rw [Nat.zero_add]
    show fb_X11_spongeWorth_5 (nI q) (nI n) m rec (nI x) (nI a) = _
    have hwt := ev_wt_le m 0 hN a q
    unfold fb_X11_spongeWorth_5
    rw [if_neg (show ¬ (4 : Int32) ≤ nI a from nI_ge (b := 4) ha (by decide)), rt_e96, if_pos (rt_in (n := 384) (by omega) (by decide)), nI_clamp (by omega), hE.2.2.2.2.1 a q ha hq, ev_W_wt, rt_mnn (by omega) (by omega), ro_lt]
    unfold fj_X11_spongeWorth_54
    by_cases c : min n (ev_wt m 0 N a q) = 0
    · rw [if_pos (show nI (min n (ev_wt m 0 N a q)) ≤ 0 by rw [c]; exact Int32.le_refl _), if_pos rfl, ro_lt, Int32.add_zero, nI_1, c]
      cases who_ m a q with
      | none => rfl
      | some g =>
        show _ = rec (nI (x + 0 * rk_ m g), _)
        rw [Nat.zero_mul]
        rfl
    · rw [if_neg (nI_nle (by omega) (by omega)), rt_guestOn ha hq, Option.bind_some, show sp_who (m 11) a q = who_ m a q from rfl]
      cases hwho : who_ m a q with
      | none =>
        show (if (-1 : Int32) = -1 then _ else _) = _
        rw [if_pos rfl, ro_lt, Int32.add_zero, nI_1]
        rfl
      | some g =>
        obtain ⟨h1, h2, h3⟩ := hw.who_some ha hq hwho
        obtain ⟨k1, k2, k3, k4⟩ := hw.rk h1 h3
        show (if nI g = -1 then _ else if ro_in (nI g) 10 then _ else _) = _
        rw [if_neg (rt_m1 (by omega)), if_pos (rt_in h1 (by decide)), show (sp_wv (some g)).toNatClampNeg = g from nI_clamp (by omega), k1, pk_mul, nI_add, ro_lt, nI_1]) (fun rec x => rfl)
  rw [Nat.zero_add] at key
  have key : fl_X11_spongeWorth_5 (nI q) (nI n) m (0, 0) = some (nI (sw_ m N n q)) := key
  unfold fn_X11_spongeWorth
  rw [key, Option.bind_some]
theorem sw_eq {m : ro_Mem} {N : Nat} (hw : Wd m N) {q n : Nat} (hq : q < 96) : sp_sum (fun a => sp_sum (fun g => rk_ m g * wq_ m N q n a g) 10) 4 + sw_ m N n q = sp_sum (fun a => sp_sum (fun g => rk_ m g * gw_ m 0 N a g) 10) 4 := by
  unfold sw_
  rw [← sp_sum_add]
  refine sp_sum_cg (fun a ha => ?_)
  have h1 := hw.who_sum ha hq (fun g => min n (ev_wt m 0 N a q) * rk_ m g)
  rw [← h1, ← sp_sum_add]
  refine sp_sum_cg (fun g hg => ?_)
  unfold wq_ gw_ ev_wt
  by_cases c : st_ m a g < 96
  · rw [if_pos c, if_pos c]
    by_cases e : st_ m a g = q
    · rw [if_pos e, if_pos e, e, Nat.mul_comm (min _ _), ← Nat.mul_add]
      congr 1
      omega
    · rw [if_neg e, if_neg e, Nat.add_zero, Nat.add_zero]
  · rw [if_neg c, if_neg c, if_neg (by omega), Nat.mul_zero]
theorem wq_0 {m : ro_Mem} {N a g : Nat} : wq_ m N 1000 0 a g = gw_ m 0 N a g := by
  unfold wq_ gw_ ev_wt
  by_cases c : st_ m a g < 96
  · rw [if_pos c, if_pos c, if_neg (by omega), Nat.add_zero]
  · rw [if_neg c, if_neg c]
theorem gw_le {m : ro_Mem} {N : Nat} (hN : N ≤ 32) (sh : Int32) (a g : Nat) : gw_ m sh N a g ≤ 50688 := by
  unfold gw_
  by_cases c : st_ m a g < 96
  · rw [if_pos c]; exact ev_wt_le m sh hN _ _
  · rw [if_neg c]; omega
theorem sw_all {m : ro_Mem} {N : Nat} (hw : Wd m N) : sp_sum (fun a => sp_sum (fun g => rk_ m g * gw_ m 0 N a g) 10) 4 ≤ 4 * (10 * (99 * 50688)) := by
  have hN : N ≤ 32 := hw.2.2.2.2.2
  refine sp_sum_bd (fun a ha => sp_sum_bd (fun g hg => ?_))
  by_cases ht : bt (m 2 11) g = true
  · obtain ⟨k1, k2, k3, k4⟩ := hw.rk hg ht
    exact Nat.mul_le_mul k3 (gw_le hN 0 a g)
  · have : gw_ m 0 N a g = 0 := by
      unfold gw_
      have := (hw.st ha hg).2.2.2 (by simpa using ht)
      rw [if_neg (by omega)]
    rw [this]; omega
/-- whose seat it is, in one of the first acts -/
theorem rt_some {m m2 : ro_Mem} {N : Nat} (hw : Wd m N) (hof : ∀ o, ¬ (239 ≤ o ∧ o ≤ 242) → m2 o = m o) {v1 v2 v3 v4 v5 : Int32} {q : Nat} (hq : q < 96) : ∃ b : Bool, fl_X12_sponge_56 v1 v2 v3 v4 v5 (nI q) m2 (0, 0) = some (if b = true then 1 else 0) ∧ (b = false → ∀ a, a < 4 → who_ m a q = none) := by
  have hG : iv_G (m 10) (m 11) (m 215) (m2 216) (m 2 11) (m2 207 2) := by
    rw [hof 216 (by omega), hof 207 (by omega)]; exact hw.1.2.2.2.2.2.1
  have key : ∀ n i b fuel, i + n = 4 → n < fuel → (b = false → ∀ a, a < i → who_ m a q = none) → ∃ b' : Bool, ro_loop (fun rec (s : Int32 × Int32) => fb_X12_sponge_56 v1 v2 v3 v4 v5 (nI q) m2 rec s.1 s.2) fuel ((if b = true then 1 else 0), nI i) = some (if b' = true then 1 else 0) ∧ (b' = false → ∀ a, a < 4 → who_ m a q = none) := by
    intro n
    induction n with
    | zero =>
      intro i b fuel hi hf hb
      cases fuel with
      | zero => omega
      | succ f =>
        have : i = 4 := by omega
        subst this
        exact ⟨b, rfl, hb⟩
    | succ n ih =>
      intro i b fuel hi hf hb
      cases fuel with
      | zero => omega
      | succ f =>
        have step : ∀ b' : Bool, (b' = (b || (who_ m i q).isSome)) → ro_loop (fun rec (s : Int32 × Int32) => fb_X12_sponge_56 v1 v2 v3 v4 v5 (nI q) m2 rec s.1 s.2) (f + 1) ((if b = true then 1 else 0), nI i) = ro_loop (fun rec (s : Int32 × Int32) => fb_X12_sponge_56 v1 v2 v3 v4 v5 (nI q) m2 rec s.1 s.2) f ((if b' = true then 1 else 0), nI (i + 1)) := by
          intro b' hb'
          show fb_X12_sponge_56 v1 v2 v3 v4 v5 (nI q) m2 (ro_loop _ f) (if b = true then 1 else 0) (nI i) = _
          unfold fb_X12_sponge_56
          rw [if_neg (show ¬ (4 : Int32) ≤ nI i from nI_ge (b := 4) (by omega) (by decide)), rt_whoOn hG (by omega) hq, nI_1]
          subst hb'
          cases b with
          | true =>
            rw [if_pos rfl, if_neg rt_10]
            rfl
          | false =>
            rw [if_neg (show ¬ false = true by decide), if_pos rfl, Option.bind_some]
            show (if sp_wv (who_ m i q) = -1 then _ else _) = _
            cases hwho : who_ m i q with
            | none => rfl
            | some g =>
              obtain ⟨h1, -⟩ := hw.who_some (by omega) hq hwho
              show (if nI g = -1 then _ else _) = _
              rw [if_neg (rt_m1 (by omega))]
              rfl
        rw [step _ rfl]
        refine ih (i + 1) _ f (by omega) (by omega) (fun h a ha => ?_)
        obtain ⟨h1, h2⟩ := Bool.or_eq_false_iff.mp h
        by_cases e : a = i
        · subst e
          cases hwho : who_ m a q with
          | none => rfl
          | some g => rw [hwho] at h2; cases h2
        · exact hb h1 a (by omega)
  exact key 4 0 false ro_FU (by omega) (by decide) (fun _ a h => absurd h (by omega))
def sg_b (w : Nat → Nat) : Nat → Nat × Nat
  | 0 => (0, 0)
  | q + 1 => if w q ≤ (sg_b w q).2 then sg_b w q else (q, w q)
theorem sg_b_le {w : Nat → Nat} {B : Nat} : ∀ q, (∀ i, i < q → w i ≤ B) → (sg_b w q).2 ≤ B ∧ (sg_b w q).1 ≤ q := by
  intro q
  induction q with
  | zero => intro _; exact ⟨Nat.zero_le _, Nat.le_refl _⟩
  | succ q ih =>
    intro h
    obtain ⟨h1, h2⟩ := ih (fun i hi => h i (by omega))
    unfold sg_b
    by_cases c : w q ≤ (sg_b w q).2
    · rw [if_pos c]; exact ⟨h1, by omega⟩
    · rw [if_neg c]; exact ⟨h q (by omega), by show q ≤ q + 1; omega⟩
theorem op_sponge (a b : Int32) (μ : ro_Mem) (hI : Inv μ) : ∃ r μ1 μ2, fn_X11_sponge a b μ = some (r, μ1) ∧ fn_X12_sponge a b μ1 = some (r, μ2) ∧ Inv μ2 := by
  obtain ⟨N, hw⟩ := hI.wd
  rcases rt_rng a 1 99 (by decide) with ha | ⟨n', hn', rfl⟩
  · refine ⟨-1, μ, μ, ?_, ?_, hI⟩
    · unfold fn_X11_sponge
      rcases ha with h | h
      · rw [if_pos (show a < 1 from h)]
      · by_cases c : a < 1
        · rw [if_pos c]
        · rw [if_neg c, if_pos (by rw [fa_lt]; rw [fa_le] at h; have h5 : (nI (1 + 99)).toInt = 100 := by decide
                                   have h4 : (99 : Int32).toInt = 99 := by decide
                                   omega)]
    · unfold fn_X12_sponge
      rw [show fn_X12_in a 1 99 = some 0 from rt_inO 1 99 (by decide) (by decide) ha, Option.bind_some, if_pos rfl]
  · have i99 : fn_X12_in (nI (1 + n')) 1 99 = some 1 := rt_inI (a := 1) (n := 99) (j := n') (by decide) hn'
    have c1 : ∀ {x y : Option (Int32 × ro_Mem)}, (if nI (1 + n') < 1 then x else if 99 < nI (1 + n') then x else y) = y := fun {x y} => by
      rw [if_neg (show ¬ nI (1 + n') < 1 from nI_nlt (b := 1) (by omega) (by omega)), if_neg (show ¬ (99 : Int32) < nI (1 + n') from nI_nlt (a := 99) (by omega) (by decide))]
    generalize hnn : 1 + n' = n at *
    have hn : n ≤ 99 := by omega
    rcases rt_ix b 2 (by decide) with hb | ⟨j, hj, rfl⟩
    · refine ⟨-1, μ, μ, ?_, ?_, hI⟩
      · unfold fn_X11_sponge
        rw [c1]
        rcases hb with h | h
        · rw [if_pos h]
        · by_cases c : b < 0
          · rw [if_pos c]
          · rw [if_neg c, if_neg (by rw [fa_le] at *; have h5 : (nI 2).toInt = 2 := by decide
                                     have h4 : (1 : Int32).toInt = 1 := by decide
                                     omega)]
      · unfold fn_X12_sponge
        rw [i99, Option.bind_some, if_neg rt_10, show fn_X12_in b 0 1 = some 0 from rt_inO 0 2 (by decide) (by decide) hb, Option.bind_some, if_pos rfl]
    · have i1 : fn_X12_in (nI j) 0 1 = some 1 := by
        have := rt_inI (a := 0) (n := 2) (j := j) (by decide) hj
        rwa [Nat.zero_add] at this
      obtain ⟨m, e, hI1, hw1, hE, hof, -⟩ := rt_fresh hI hw
      obtain ⟨m2, e2, hI2, hL, hof2⟩ := rt_laid hI1 hw1
      obtain ⟨whole, hwh⟩ : ∃ x, x = sp_sum (fun a => sp_sum (fun g => rk_ m g * gw_ m 0 N a g) 10) 4 := ⟨_, rfl⟩
      have hall : whole ≤ 4 * (10 * (99 * 50688)) := by rw [hwh]; exact sw_all hw1
      have hsw : ∀ q, q < 96 → sp_sum (fun a => sp_sum (fun g => rk_ m g * wq_ m N q n a g) 10) 4 + sw_ m N n q = whole := fun q hq => by rw [hwh]; exact sw_eq hw1 hq
      have hle : ∀ q, q < 96 → sw_ m N n q ≤ whole := fun q hq => by have := hsw q hq; omega
      have w0 : fn_X12_weighed (-1) 0 m2 = some (nI whole) := by
        have := rt_weighed hw1 hL hof2 (v := -1) (q := 1000) (n := 0) (by omega) (fun s hs => ⟨fun h => absurd h (rt_m1 (by omega)), fun h => by omega⟩)
        rw [hwh]
        simp only [wq_0] at this
        exact this
      have hm := fun q (hq : q ≤ 96) => sg_b_le (w := sw_ m N n) (B := whole) q (fun i hi => hle i (by omega))
      have lC : fl_X11_sponge_34 (nI n) (nI j) m (0, 0, 0) = some (nI (sg_b (sw_ m N n) 96).1, nI (sg_b (sw_ m N n) 96).2) := by
        have key := rt_loop (b := fun rec (s : Int32 × Int32 × Int32) => fb_X11_sponge_34 (nI n) (nI j) m rec s.1 s.2.1 s.2.2) (fun q => (nI (sg_b (sw_ m N n) q).1, nI (sg_b (sw_ m N n) q).2, nI q)) 96 (e := some (nI (sg_b (sw_ m N n) 96).1, nI (sg_b (sw_ m N n) 96).2)) (fun q hq rec => by
          show fb_X11_sponge_34 (nI n) (nI j) m rec (nI (sg_b (sw_ m N n) q).1) (nI (sg_b (sw_ m N n) q).2) (nI q) = rec (nI (sg_b (sw_ m N n) (q + 1)).1, nI (sg_b (sw_ m N n) (q + 1)).2, nI (q + 1))
          have h1 := hm q (by omega)
          have h2 := hle q hq
          unfold fb_X11_sponge_34
          rw [if_neg (show ¬ (96 : Int32) ≤ nI q from nI_ge (b := 96) hq (by decide)), rt_spongeWorth hw1 hE hq hn, Option.bind_some, nI_1]
          show _ = rec (nI (if sw_ m N n q ≤ (sg_b (sw_ m N n) q).2 then sg_b (sw_ m N n) q else (q, sw_ m N n q)).1, nI (if sw_ m N n q ≤ (sg_b (sw_ m N n) q).2 then sg_b (sw_ m N n) q else (q, sw_ m N n q)).2, nI (q + 1))
          by_cases c : sw_ m N n q ≤ (sg_b (sw_ m N n) q).2
          · rw [if_pos (nI_le c (by omega)), if_pos c]
          · rw [if_neg (nI_ge (by omega) (by omega)), if_neg c]) (fun rec => rfl) ro_FU (by decide)
        exact key
      have lM : fl_X12_sponge_43 (nI n) (nI j) (nI whole) m2 (0, 1000000000, 0) = some (nI (sg_b (sw_ m N n) 96).1, nI (whole - (sg_b (sw_ m N n) 96).2)) := by
        have key := rt_loop (b := fun rec (s : Int32 × Int32 × Int32) => fb_X12_sponge_43 (nI n) (nI j) (nI whole) m2 rec s.1 s.2.1 s.2.2) (fun q => (nI (sg_b (sw_ m N n) q).1, (if q = 0 then nI 1000000000 else nI (whole - (sg_b (sw_ m N n) q).2)), nI q)) 96 (e := some (nI (sg_b (sw_ m N n) 96).1, nI (whole - (sg_b (sw_ m N n) 96).2))) (fun q hq rec => by
          show fb_X12_sponge_43 (nI n) (nI j) (nI whole) m2 rec (nI (sg_b (sw_ m N n) q).1) (if q = 0 then nI 1000000000 else nI (whole - (sg_b (sw_ m N n) q).2)) (nI q) = rec (nI (sg_b (sw_ m N n) (q + 1)).1, (if q + 1 = 0 then nI 1000000000 else nI (whole - (sg_b (sw_ m N n) (q + 1)).2)), nI (q + 1))
          have h1 := hm q (by omega)
          have h2 := hle q hq
          unfold fb_X12_sponge_43
          obtain ⟨bb, eb, hb⟩ := rt_some (v1 := nI n) (v2 := nI j) (v3 := nI whole) (v4 := nI (sg_b (sw_ m N n) q).1) (v5 := if q = 0 then nI 1000000000 else nI (whole - (sg_b (sw_ m N n) q).2)) hw1 hof2 hq
          rw [if_neg (show ¬ (96 : Int32) ≤ nI q from nI_ge (b := 96) hq (by decide)), eb, Option.bind_some]
          have wq : fn_X12_weighed (nI q) (nI n) m2 = some (nI (whole - sw_ m N n q)) := by
            have := rt_weighed hw1 hL hof2 (v := nI q) (q := q) (n := n) hn (fun s hs => nI_eq (by omega) (by omega))
            rw [this]
            have := hsw q hq
            congr 2
            omega
          have fin : fj_X12_sponge_108 rec (nI n) (nI j) (nI whole) (nI (sg_b (sw_ m N n) q).1) (if q = 0 then nI 1000000000 else nI (whole - (sg_b (sw_ m N n) q).2)) (nI q) (nI (whole - sw_ m N n q)) m2 = rec (nI (sg_b (sw_ m N n) (q + 1)).1, (if q + 1 = 0 then nI 1000000000 else nI (whole - (sg_b (sw_ m N n) (q + 1)).2)), nI (q + 1)) := by
            unfold fj_X12_sponge_108
            rw [if_neg (show ¬ q + 1 = 0 by omega), nI_1]
            show _ = rec (nI (if sw_ m N n q ≤ (sg_b (sw_ m N n) q).2 then sg_b (sw_ m N n) q else (q, sw_ m N n q)).1, nI (whole - (if sw_ m N n q ≤ (sg_b (sw_ m N n) q).2 then sg_b (sw_ m N n) q else (q, sw_ m N n q)).2), nI (q + 1))
            by_cases q0 : q = 0
            · subst q0
              rw [if_pos rfl, if_pos (nI_lt (by omega) (by decide))]
              by_cases c : sw_ m N n 0 ≤ (sg_b (sw_ m N n) 0).2
              · have c' : sw_ m N n 0 ≤ 0 := c
                rw [if_pos c, show sw_ m N n 0 = 0 by omega]
                rfl
              · rw [if_neg c]
            · rw [if_neg q0]
              by_cases c : sw_ m N n q ≤ (sg_b (sw_ m N n) q).2
              · rw [if_neg (nI_nlt (by omega) (by omega)), if_pos c]
              · rw [if_pos (nI_lt (by omega) (by omega)), if_neg c]
          cases bb with
          | true =>
            rw [if_pos rfl, if_neg rt_10, wq, Option.bind_some]
            exact fin
          | false =>
            have z : sw_ m N n q = 0 := by
              unfold sw_
              exact sp_sum_zero (fun a ha => by rw [hb rfl a ha])
            rw [if_neg (show ¬ false = true by decide), if_pos rfl]
            rw [z, Nat.sub_zero] at fin
            exact fin) (fun rec => rfl) ro_FU (by decide)
        exact key
      have h96 := hm 96 (Nat.le_refl _)
      have cls : fn_X11_sponge (nI n) (nI j) μ = if nI j = 0 then some (nI (sg_b (sw_ m N n) 96).1, m) else some (nI (sg_b (sw_ m N n) 96).2, m) := by
        unfold fn_X11_sponge
        rw [c1, if_neg (nI_pos (by omega)), if_pos (show nI j ≤ 1 from nI_le (b := 1) (by omega) (by decide)), e, Option.bind_some, lC, Option.bind_some]
      have md : fn_X12_sponge (nI n) (nI j) m = if nI j = 0 then some (nI (sg_b (sw_ m N n) 96).1, m2) else some (nI whole - nI (whole - (sg_b (sw_ m N n) 96).2), m2) := by
        unfold fn_X12_sponge
        rw [i99, Option.bind_some, if_neg rt_10, i1, Option.bind_some, if_neg rt_10, e2, Option.bind_some, w0, Option.bind_some, lM, Option.bind_some]
      by_cases cj : nI j = 0
      · rw [if_pos cj] at cls md
        exact ⟨_, _, _, cls, md, hI2⟩
      · rw [if_neg cj] at cls md
        rw [pk_sub (by omega), show whole - (whole - (sg_b (sw_ m N n) 96).2) = (sg_b (sw_ m N n) 96).2 by omega] at md
        exact ⟨_, _, _, cls, md, hI2⟩
