theorem SQ.cg {n : Nat} {F F' : Nat → Nat → Nat} {fr fr' to to' sm : Nat → Nat} {μ : ro_Mem} (h : SQ n F fr to sm μ) (h1 : ∀ t, t < n → F' t = F t) (h2 : ∀ t, t < n → fr' t = fr t) (h3 : ∀ t, t < n → to' t = to t) : SQ n F' fr' to' sm μ := ⟨h.1, h.2.1, fun t ht => by rw [h1 t ht, h2 t ht, h3 t ht]; exact h.2.2 t ht⟩
theorem RQ.cg {bs n : Nat} {F F' : Nat → Nat → Nat} {wt wt' bu bu' : Nat → Nat} {M : ro_Mem} (h : RQ bs n F wt bu M) (h1 : ∀ t, t < n → F' t = F t) (h2 : ∀ t, t < n → wt' t = wt t) (h3 : ∀ t, t < n → bu' t = bu t) : RQ bs n F' wt' bu' M := ⟨h.1, fun t ht => by rw [h1 t ht, h2 t ht, h3 t ht]; exact h.2 t ht⟩
theorem rt_e2 (t : Nat) : (2 : Int32) * nI t = nI (2 * t) := by
  show nI 2 * nI t = _
  rw [pk_mul]
theorem op_sung (a b c : Int32) (μ : ro_Mem) (hI : Inv μ) : ∃ r μ1 μ2, fn_X11_sung a b c μ = some (r, μ1) ∧ fn_X12_sung a b c μ1 = some (r, μ2) ∧ Inv μ2 := by
  obtain ⟨N, hw⟩ := hI.wd
  obtain ⟨t1, ⟨T, hT, t2⟩, t3⟩ := hI.2.2.1
  obtain ⟨A, hA4, hA1, hA2, -, hA3⟩ := hw.acts
  have hsc5 := (rt_sc5 hw.2.1).1
  have inA : ∀ M : ro_Mem, M 207 20 = nI A → (∀ v : Int32, (v < 0 ∨ nI A ≤ v) → fn_X12_in v 0 (M 207 20 - 1) = some 0) ∧ ∀ j, j < A → fn_X12_in (nI j) 0 (M 207 20 - 1) = some 1 := fun M hM => by
    refine ⟨fun v hv => ?_, fun j hj => ?_⟩
    · rw [hM]
      rcases Nat.eq_zero_or_pos A with q | q
      · rw [q, rt_inn]
        by_cases c0 : v < 0
        · rw [if_pos (Or.inl c0)]
        · rw [if_pos (Or.inr (by
            rw [fa_lt]
            rw [fa_lt] at c0
            have e1 : (nI 0 - 1).toInt = -1 := by decide
            have e0 : (0 : Int32).toInt = 0 := by decide
            omega))]
      · have := rt_inO (v := v) 0 A (by omega) q (by rw [Nat.zero_add]; exact hv)
        rw [Nat.zero_add] at this
        rw [show nI A - 1 = nI (A - 1) from pk_sub (b := 1) q]
        exact this
    · rw [hM]
      have := rt_inI (a := 0) (n := A) (j := j) (by omega) hj
      rw [Nat.zero_add, Nat.zero_add] at this
      rw [show nI A - 1 = nI (A - 1) from pk_sub (b := 1) (by omega)]
      exact this
  rcases rt_ix a A (by omega) with ha | ⟨j, hj, rfl⟩
  · refine ⟨-1, μ, μ, ?_, ?_, hI⟩
    · unfold fn_X11_sung
      rw [hA2, if_pos hsc5]
      exact rt_else ha
    · unfold fn_X12_sung
      rw [(inA μ hA1).1 a ha, Option.bind_some, if_pos rfl]
  · have ca : ∀ {x y : Option (Int32 × ro_Mem)}, (if nI j < 0 then x else if ro_sh (ro_rf μ 1 1) = (0, 5) then (if μ (ro_rf μ 1 1) 7 ≤ nI j then x else y) else none) = y := fun {x y} => by
      rw [if_neg (nI_pos (by omega)), if_pos hsc5, hA2, if_neg (nI_ge hj (by omega))]
    rcases rt_rng b 1 20 (by decide) with hb | ⟨n', hn', rfl⟩
    · refine ⟨-1, μ, μ, ?_, ?_, hI⟩
      · unfold fn_X11_sung
        rw [ca]
        rcases hb with h | h
        · rw [if_pos (show b < 1 from h)]
        · by_cases c0 : b < 1
          · rw [if_pos c0]
          · rw [if_neg c0, if_pos (by rw [fa_lt]; rw [fa_le] at h; have h5 : (nI (1 + 20)).toInt = 21 := by decide
                                      have h4 : (20 : Int32).toInt = 20 := by decide
                                      omega)]
      · unfold fn_X12_sung
        rw [(inA μ hA1).2 j hj, Option.bind_some, if_neg rt_10, show fn_X12_in b 1 20 = some 0 from rt_inO 1 20 (by decide) (by decide) hb, Option.bind_some, if_pos rfl]
    · have i20 : fn_X12_in (nI (1 + n')) 1 20 = some 1 := rt_inI (a := 1) (n := 20) (j := n') (by decide) hn'
      have cb : ∀ {x y : Option (Int32 × ro_Mem)}, (if nI (1 + n') < 1 then x else if 20 < nI (1 + n') then x else y) = y := fun {x y} => by
        rw [if_neg (show ¬ nI (1 + n') < 1 from nI_nlt (b := 1) (by omega) (by omega)), if_neg (show ¬ (20 : Int32) < nI (1 + n') from nI_nlt (a := 20) (by omega) (by decide))]
      generalize hne : 1 + n' = n at *
      have hn1 : 1 ≤ n := by omega
      have hn20 : n ≤ 20 := by omega
      rcases rt_ix c 3 (by decide) with hc | ⟨w, hw3, rfl⟩
      · refine ⟨-1, μ, μ, ?_, ?_, hI⟩
        · unfold fn_X11_sung
          rw [ca, cb]
          rcases hc with h | h
          · rw [if_pos h]
          · by_cases c0 : c < 0
            · rw [if_pos c0]
            · rw [if_neg c0, if_pos (by rw [fa_lt]; rw [fa_le] at h; have h5 : (nI 3).toInt = 3 := by decide
                                        have h4 : (2 : Int32).toInt = 2 := by decide
                                        omega)]
        · unfold fn_X12_sung
          rw [(inA μ hA1).2 j hj, Option.bind_some, if_neg rt_10, i20, Option.bind_some, if_neg rt_10, show fn_X12_in c 0 2 = some 0 from rt_inO 0 3 (by decide) (by decide) hc, Option.bind_some, if_pos rfl]
      · have i2 : fn_X12_in (nI w) 0 2 = some 1 := by
          have := rt_inI (a := 0) (n := 3) (j := w) (by decide) hw3
          rwa [Nat.zero_add] at this
        have cc : ∀ {x y : Option (Int32 × ro_Mem)}, (if nI w < 0 then x else if 2 < nI w then x else y) = y := fun {x y} => by
          rw [if_neg (nI_pos (by omega)), if_neg (show ¬ (2 : Int32) < nI w from nI_nlt (a := 2) (by omega) (by decide))]
        by_cases cT : 2 * n ≤ T
        · -- the class
          obtain ⟨q1, q2⟩ := (hI.ivt hw).eat
          obtain ⟨m, e, g1, g2, hE, hof⟩ := rt_fresht q1
          have hwm := g1.1
          have hfm : Fr μ m := q2.trans g2
          have hnt5 : ∀ i, nt_ m 5 i = nt_ μ 5 i := fun i => by unfold nt_; rw [(hfm.eve hw.2.1).1]
          obtain ⟨i, hi, hia⟩ := hA3 j hj
          obtain ⟨i0, i1, fb, bs, hAct⟩ := hwm.act (a := j) ⟨i, hi, by rw [hnt5]; exact hia⟩
          have hbs : bs ≤ 12 := by have := hAct.2.2.2.2.2.2.1; omega
          obtain ⟨M0, s1, s2, s3, s4, s5, s6⟩ := rt_sStart hwm hAct (show j < 4 by omega)
          have b61 : ∀ q, q < 220 → m 61 q = nI (nn (μ 61 q)) ∧ nn (μ 61 q) < 256 := fun q hq => by
            obtain ⟨-, x, hx, ex⟩ := t3 q hq
            rw [hof 61 (by omega) (by omega) (by omega) (by omega), ro_set_ne _ _ _ (by decide), ex, nn_nI (by omega)]
            exact ⟨rfl, hx⟩
          obtain ⟨Sq, eSq⟩ : ∃ Sq : Nat → Nat, Sq = fun t => nn (μ 61 (2 * t)) := ⟨_, rfl⟩
          obtain ⟨Wq, eWq⟩ : ∃ Wq : Nat → Nat, Wq = fun t => nn (μ 61 (2 * t + 1)) := ⟨_, rfl⟩
          obtain ⟨F, eF⟩ : ∃ F : Nat → Nat → Nat, F = fun t => Fb m j fb (Sq t) N := ⟨_, rfl⟩
          obtain ⟨bu, ebu⟩ : ∃ bu : Nat → Nat, bu = fun t => nn (m 4 (Sq t)) := ⟨_, rfl⟩
          have hS256 : ∀ t, t < 20 → m 61 (2 * t) = nI (Sq t) ∧ Sq t < 256 := fun t ht => by rw [eSq]; exact b61 (2 * t) (by omega)
          have hW256 : ∀ t, t < 20 → m 61 (2 * t + 1) = nI (Wq t) ∧ Wq t < 256 := fun t ht => by rw [eWq]; exact b61 (2 * t + 1) (by omega)
          have hN32 : N ≤ 32 := hwm.2.2.2.2.2
          have lC := rt_findP (b := fun rec (s : Int32 × ro_Mem) => fb_X11_sung_83 (nI n) (nI w) rec s.1 s.2) (fun t => decide (96 ≤ Sq t)) n (fun t M => (∀ o, ¬ (199 ≤ o ∧ o ≤ 203) → M o = m o) ∧ M 199 3 = nI j ∧ M 199 4 = nI fb ∧ M 199 5 = nI bs ∧ SQ t F (fun t => if Wq t = 0 then 0 else bu t + Wq t) (fun t => bu t + Wq t) (fun _ => 0) M) (fun M => (Sum.inl M : ro_Mem ⊕ ro_Mem)) (fun M => Sum.inr M) (fun t ht rec M hP => by
            obtain ⟨p1, p2, p3, p4, p5⟩ := hP
            have ht20 : t < 20 := by omega
            obtain ⟨z1, z2⟩ := hS256 t ht20
            obtain ⟨z3, z4⟩ := hW256 t ht20
            have f1 : fb_X11_sung_83 (nI n) (nI w) rec (nI t) M = if nI (Sq t) < 96 then ((fn_X7_add (nI (Sq t)) (nI (Wq t)) M).bind fun q22 => rec (nI (t + 1), q22)) else some (Sum.inl M) := by
              unfold fb_X11_sung_83
              rw [if_neg (nI_ge ht (by omega)), rt_e2, if_pos (rt_in (n := 220) (by omega) (by decide)), nI_clamp (show 2 * t < 2 ^ 31 by omega), p1 61 (by omega), z1, ro_lt, nI_1, nI_1, if_pos (rt_in (n := 220) (by omega) (by decide)), nI_clamp (show 2 * t + 1 < 2 ^ 31 by omega), z3]
            refine ⟨fun hp => ?_, fun hp => ?_⟩
            · have hp := of_decide_eq_true hp
              show fb_X11_sung_83 (nI n) (nI w) rec (nI t) M = _
              rw [f1, if_neg (show ¬ nI (Sq t) < 96 from nI_nlt (b := 96) hp (by omega))]
            · have hp : Sq t < 96 := by have := of_decide_eq_false hp; omega
              obtain ⟨M', a1, a2, a3, a4⟩ := rt_sAdd (x := Wq t) hwm hE hAct (by omega) (fun o ho => p1 o (by omega)) p5 p2 p3 ht20 hp z4
              refine ⟨M', ⟨fun o ho => by rw [a2 o ho, p1 o ho], by rw [a3 3 (by decide), p2], by rw [a3 4 (by decide), p3], by rw [a3 5 (by decide), p4], a4.cg (fun u hu => ?_) (fun u hu => ?_) (fun u hu => ?_)⟩, ?_⟩
              · by_cases eu : u = t
                · rw [eu, ex_n, eF]
                · rw [ex_ne eu]
              · by_cases eu : u = t
                · rw [eu, ex_n, ebu]
                · rw [ex_ne eu]
              · by_cases eu : u = t
                · rw [eu, ex_n, ebu]
                · rw [ex_ne eu]
              · show fb_X11_sung_83 (nI n) (nI w) rec (nI t) M = _
                rw [f1, if_pos (show nI (Sq t) < 96 from nI_lt (b := 96) hp (by decide)), a1, Option.bind_some]) (fun rec M _ => by
            show fb_X11_sung_83 (nI n) (nI w) rec (nI n) M = _
            unfold fb_X11_sung_83
            rw [if_pos (Int32.le_refl _)]) ro_FU (Nat.lt_of_le_of_lt hn20 (by decide)) M0 ⟨fun o ho => s2 o (by omega), s3, s4, s5, s6, by omega, fun t h => absurd h (by omega)⟩
          -- the reference, over whatever the class leaves
          have refM : ∀ M1 : ro_Mem, (∀ o, ¬ (199 ≤ o ∧ o ≤ 203) → M1 o = m o) → ∃ q13, fn_X12_laysDrops (ro_set M1 207 13 0) = some q13 ∧ Inv q13 ∧ fn_X12_firstBar (nI j) q13 = some (nI fb) ∧ fn_X12_barsIn (nI j) q13 = some (nI bs) ∧ M1 207 20 = nI A ∧ M1 207 13 = nI T ∧ ((∃ t M', t < n ∧ 96 ≤ Sq t ∧ Inv M' ∧ fl_X12_sung_71 (nI j) (nI n) (nI w) (nI fb) (nI bs) (0, q13) = some (Sum.inl M')) ∨ ((∀ t, t < n → Sq t < 96) ∧ ∃ M', Inv M' ∧ RQ bs n F Wq bu M' ∧ fl_X12_sung_71 (nI j) (nI n) (nI w) (nI fb) (nI bs) (0, q13) = some (Sum.inr M'))) := by
            intro M1 hM1
            have hT1 := g1.put (M := M1) (fun o ho _ => hM1 o (fun q => ho (by unfold qy_t qy_s; omega))) (fun k _ => by rw [hM1 207 (by omega)])
            obtain ⟨w1, w2⟩ := hT1.1.eatM
            obtain ⟨q13, e13, x1, x2, hL, hof2⟩ := rt_laidt w1
            have base : ∀ o, ¬ (199 ≤ o ∧ o ≤ 203) → ¬ (239 ≤ o ∧ o ≤ 242) → ¬ o = 207 → q13 o = m o := fun o h1 h2 h3 => by rw [hof2 o h2, ro_set_ne _ _ _ h3, hM1 o h1]
            have b207 : ∀ k, ¬ k = 13 → q13 207 k = m 207 k := fun k hk => by rw [hof2 207 (by omega), ro_set_same, pk_un hk, hM1 207 (by omega)]
            have hInv : Inv q13 := by
              refine hI.eaten x1 (((hfm.trans hT1.2).trans w2).trans x2) ?_ ?_ ?_ ?_
              · rw [base 61 (by omega) (by omega) (by omega), hof 61 (by omega) (by omega) (by omega) (by omega), ro_set_ne _ _ _ (by decide)]
              · rw [base 217 (by omega) (by omega) (by omega), hof 217 (by omega) (by omega) (by omega) (by omega), ro_set_ne _ _ _ (by decide)]
              · rw [base 60 (by omega) (by omega) (by omega), hof 60 (by omega) (by omega) (by omega) (by omega), ro_set_same, pk_us]
              · rw [hof2 207 (by omega), ro_set_same, pk_us]
            have hfr2 : Fr m (ro_set M1 207 13 0) := hT1.2.trans w2
            have hLm : LM m 0 N q13 := by
              obtain ⟨y1, y2, y3, y4, y5, y6⟩ := hL
              obtain ⟨v1, v2, v3⟩ := hfr2.ev hwm.2.1
              have vS : ∀ i k, ev_S (ro_set M1 207 13 0) 0 i k = ev_S m 0 i k := fun i k => by
                unfold ev_S
                rw [v3, (hfr2.eve hwm.2.1).2.1]
              refine ⟨fun i k hi hk => by have := y1 i k hi hk; rw [v1, vS] at this; exact this, base 222 (by omega) (by omega) (by omega), base 211 (by omega) (by omega) (by omega), base 208 (by omega) (by omega) (by omega), base 209 (by omega) (by omega) (by omega), b207 18 (by decide)⟩
            have h20 : M1 207 20 = nI A := by rw [hM1 207 (by omega), hof 207 (by omega) (by omega) (by omega) (by omega), ro_set_ne _ _ _ (by decide)]; exact hA1
            have h13 : M1 207 13 = nI T := by rw [hM1 207 (by omega), hof 207 (by omega) (by omega) (by omega) (by omega), ro_set_ne _ _ _ (by decide), t1, t2]
            refine ⟨q13, e13, hInv, rt_firstBar hwm hAct (by omega) (b207 18 (by decide)) (base 221 (by omega) (by omega) (by omega)) (base 222 (by omega) (by omega) (by omega)), rt_barsIn hwm hAct (by omega) (b207 18 (by decide)) (base 221 (by omega) (by omega) (by omega)) (base 222 (by omega) (by omega) (by omega)), h20, h13, ?_⟩
            have hInvP : ∀ M', (∀ o, ¬ (254 ≤ o ∧ o ≤ 256) → M' o = q13 o) → Inv M' := fun M' h => hInv.scr (fun o ho => h o (fun q => ho (by unfold qy_s; omega)))
            have b217 : ∀ q, q < 220 → (q13 217 q &&& 255) = m 61 q := fun q hq => by
              rw [base 217 (by omega) (by omega) (by omega), hof 217 (by omega) (by omega) (by omega) (by omega), ro_set_ne _ _ _ (by decide), hof 61 (by omega) (by omega) (by omega) (by omega), ro_set_ne _ _ _ (by decide)]
              exact (t3 q hq).1
            have lM := rt_findP (b := fun rec (s : Int32 × ro_Mem) => fb_X12_sung_71 (nI j) (nI n) (nI w) (nI fb) (nI bs) rec s.1 s.2) (fun t => decide (96 ≤ Sq t)) n (fun t M => (∀ o, ¬ (254 ≤ o ∧ o ≤ 256) → M o = q13 o) ∧ RQ bs t F Wq bu M) (fun M => (Sum.inl M : ro_Mem ⊕ ro_Mem)) (fun M => Sum.inr M) (fun t ht rec M hP => by
              obtain ⟨p1, p5⟩ := hP
              have ht20 : t < 20 := by omega
              obtain ⟨z1, z2⟩ := hS256 t ht20
              obtain ⟨z3, z4⟩ := hW256 t ht20
              have y0 : (M 217 (2 * t) &&& 255) = nI (Sq t) := by rw [p1 217 (by omega), b217 _ (by omega), z1]
              have y1 : (M 217 (2 * t + 1) &&& 255) = nI (Wq t) := by rw [p1 217 (by omega), b217 _ (by omega), z3]
              refine ⟨fun hp => ?_, fun hp => ?_⟩
              · have hp := of_decide_eq_true hp
                show fb_X12_sung_71 (nI j) (nI n) (nI w) (nI fb) (nI bs) rec (nI t) M = _
                unfold fb_X12_sung_71
                rw [if_neg (nI_ge ht (by omega)), rt_e2, if_pos (rt_in (n := 220) (by omega) (by decide)), nI_clamp (show 2 * t < 2 ^ 31 by omega), y0, ro_lt, if_neg (show ¬ nI (Sq t) < 96 from nI_nlt (b := 96) hp (by omega))]
              · have hp : Sq t < 96 := by have := of_decide_eq_false hp; omega
                obtain ⟨M', a1, a2, a3⟩ := rt_row (x := Wq t) (v2 := nI n) (v3 := nI w) hwm hAct (by omega) hLm p1 (base 221 (by omega) (by omega) (by omega)) p5 ht20 hp z4
                refine ⟨M', ⟨a2, a3.cg (fun u hu => ?_) (fun u hu => ?_) (fun u hu => ?_)⟩, ?_⟩
                · by_cases eu : u = t
                  · rw [eu, ex_n, eF]
                  · rw [ex_ne eu]
                · by_cases eu : u = t
                  · rw [eu, ex_n]
                  · rw [ex_ne eu]
                · by_cases eu : u = t
                  · rw [eu, ex_n, ebu]
                  · rw [ex_ne eu]
                · show fb_X12_sung_71 (nI j) (nI n) (nI w) (nI fb) (nI bs) rec (nI t) M = _
                  have e209 : ro_set M 255 t (nI (Wq t)) 209 (Sq t) = nI (nn (m 4 (Sq t))) := by
                    obtain ⟨u1, u2, u3⟩ := hwm.bu hp
                    rw [ro_set_ne _ _ _ (by decide), p1 209 (by omega), base 209 (by omega) (by omega) (by omega), u3]
                    exact u1
                  unfold fb_X12_sung_71
                  rw [if_neg (nI_ge ht (by omega)), rt_e2, if_pos (rt_in (n := 220) (by omega) (by decide)), nI_clamp (show 2 * t < 2 ^ 31 by omega), y0, ro_lt, if_pos (show nI (Sq t) < 96 from nI_lt (b := 96) hp (by decide)), nI_1, if_pos (rt_in (n := 220) (by omega) (by decide)), nI_clamp (show 2 * t + 1 < 2 ^ 31 by omega), y1, if_pos (rt_in ht20 (by decide)), nI_clamp (show t < 2 ^ 31 by omega), ro_lt, if_pos (rt_in hp (by decide)), nI_clamp (show Sq t < 2 ^ 31 by omega), e209, ro_lt, nI_1]
                  cases hl : fl_X12_sung_141 (nI j) (nI n) (nI w) (nI fb) (nI bs) (nI t) (nI (Sq t)) (0, ro_set (ro_set M 255 t (nI (Wq t))) 256 t (nI (nn (m 4 (Sq t))))) with
                  | none => rw [hl] at a1; cases a1
                  | some q35 =>
                    rw [hl, Option.bind_some] at a1
                    rw [Option.bind_some, a1, Option.bind_some]) (fun rec M _ => by
              show fb_X12_sung_71 (nI j) (nI n) (nI w) (nI fb) (nI bs) rec (nI n) M = _
              unfold fb_X12_sung_71
              rw [if_pos (Int32.le_refl _)]) ro_FU (Nat.lt_of_le_of_lt hn20 (by decide)) q13 ⟨fun _ _ => rfl, by omega, fun t h => absurd h (by omega)⟩
            rcases lM with ⟨t, M', l1, l2, l3, l4⟩ | ⟨l1, M', l2, l3⟩
            · exact Or.inl ⟨t, M', l1, of_decide_eq_true l2, hInvP M' l3.1, l4⟩
            · exact Or.inr ⟨fun t ht => by have := of_decide_eq_false (l1 t ht); omega, M', hInvP M' l2.1, l2.2, l3⟩
          have mdl : ∀ M1 q13 : ro_Mem, fn_X12_laysDrops (ro_set M1 207 13 0) = some q13 → fn_X12_firstBar (nI j) q13 = some (nI fb) → fn_X12_barsIn (nI j) q13 = some (nI bs) → M1 207 20 = nI A → M1 207 13 = nI T → fn_X12_sung (nI j) (nI n) (nI w) M1 = ((fl_X12_sung_71 (nI j) (nI n) (nI w) (nI fb) (nI bs) (0, q13)).bind fun q47 => q47.elim (fun e49 => some ((-2), e49)) (fun e50 => (fl_X12_sung_270 (nI n) (nI w) (nI bs) e50 (0, (-2), 4095, 0)).bind fun q60 => if nI w = 0 then (some (q60.1, e50)) else (if q60.1 = 0 then (some ((-2), e50)) else (if nI w = 1 then (some (q60.2.1, e50)) else (some (q60.2.2, e50)))))) := by
            intro M1 q13 h1 h2 h3 h4 h5
            unfold fn_X12_sung
            rw [(inA M1 h4).2 j hj, Option.bind_some, if_neg rt_10, i20, Option.bind_some, if_neg rt_10, i2, Option.bind_some, if_neg rt_10, rt_e2, h5, if_pos (nI_le cT (by omega)), ro_lt, h1, Option.bind_some, h2, Option.bind_some, h3, Option.bind_some]
          have rfm : ro_rf m 1 1 = ro_rf m 1 1 := rfl
          have cls : fn_X11_sung (nI j) (nI n) (nI w) μ = ((fl_X11_sung_83 (nI n) (nI w) (0, M0)).bind fun q24 => q24.elim (fun e26 => some ((-2), e26)) (fun e27 => (fn_X7_solve e27).bind fun q28 => if nI w = 0 then (some (q28 199 0, q28)) else (if (q28 199 0) = 0 then (some ((-2), q28)) else (if nI w = 1 then (some (q28 199 1, q28)) else (some (q28 199 2, q28)))))) := by
            unfold fn_X11_sung
            rw [ca, cb, cc, rt_e2, t2, if_pos (nI_le cT (by omega)), ro_lt, e, Option.bind_some, if_pos (rt_sc5 hwm.2.1).1, s1, Option.bind_some]
          rcases lC with ⟨t, M1, l1, l2, l3, l4⟩ | ⟨l1, M1, l2, l3⟩
          · have l4 : fl_X11_sung_83 (nI n) (nI w) (0, M0) = some (Sum.inl M1) := l4
            rw [l4, Option.bind_some] at cls
            obtain ⟨q13, r1, r2, r3, r4, r5, r6, r7⟩ := refM M1 l3.1
            rcases r7 with ⟨t', M', x1, x2, x3, x4⟩ | ⟨x1, -⟩
            · have hm := mdl M1 q13 r1 r3 r4 r5 r6
              rw [x4, Option.bind_some] at hm
              exact ⟨-2, M1, M', cls, hm, x3⟩
            · have := x1 t l1
              have := of_decide_eq_true l2
              omega
          · have l3 : fl_X11_sung_83 (nI n) (nI w) (0, M0) = some (Sum.inr M1) := l3
            rw [l3, Option.bind_some] at cls
            obtain ⟨p1, p2, p3, p4, p5⟩ := l2
            -- solve
            obtain ⟨p, ep⟩ : ∃ p, p = gd_ n F (fun t => if Wq t = 0 then 0 else bu t + Wq t) (fun t => bu t + Wq t) := ⟨_, rfl⟩
            have hpow : (2 : Nat) ^ bs ≤ 2 ^ 12 := Nat.pow_le_pow_right (by decide) hbs
            have h12 : (2 : Nat) ^ 12 = 4096 := rfl
            have hF12 : ∀ t, sp_sum (F t) 12 < 2 ^ 20 := fun t => by rw [eF]; exact Fb_12 hN32
            obtain ⟨m5, e5⟩ : ∃ m5, m5 = ro_set (ro_set (ro_set M1 199 0 0) 199 1 0) 199 2 0 := ⟨_, rfl⟩
            have n5 : ∀ o, ¬ o = 199 → m5 o = M1 o := fun o h => by rw [e5, ro_set_ne _ _ _ h, ro_set_ne _ _ _ h, ro_set_ne _ _ _ h]
            have k5 : ∀ k, 3 ≤ k → m5 199 k = M1 199 k := fun k hk => by rw [e5, ro_set_same, pk_un (by omega), ro_set_same, pk_un (by omega), ro_set_same, pk_un (by omega)]
            have z5 : m5 199 0 = 0 ∧ m5 199 1 = 0 ∧ m5 199 2 = 0 := by
              rw [e5]
              refine ⟨?_, ?_, ?_⟩
              · rw [ro_set_same, pk_un (by decide), ro_set_same, pk_un (by decide), ro_set_same, pk_us]
              · rw [ro_set_same, pk_un (by decide), ro_set_same, pk_us]
              · rw [ro_set_same, pk_us]
            have hQ5 : SQ n F (fun t => if Wq t = 0 then 0 else bu t + Wq t) (fun t => bu t + Wq t) (fun _ => 0) m5 := p5.put (fun o h1 _ => n5 o h1) (k5 6 (by decide)) (fun t ht => by rw [n5 202 (by decide)]; exact (p5.2.2 t ht).2.2.1)
            obtain ⟨M2, v1, v2, v3, v4, v5⟩ := rt_sSearch (n := n) (F := F) (fr := fun t => if Wq t = 0 then 0 else bu t + Wq t) (to := fun t => bu t + Wq t) bs hbs 199 (by omega) 0 (fun _ => 0) m5 (by omega) hQ5 (fun t ht => ⟨by rw [Nat.mul_zero]; exact (gq_0.1).symm, by show 0 + sp_sum (F t) bs < 2 ^ 20; have := sp_sum_12 hbs (hF12 t); omega⟩) (by rw [Nat.mul_zero]; exact z5)
            have hsolve : fn_X7_solve M1 = some M2 := by
              unfold fn_X7_solve
              rw [ro_lt, ro_lt, ro_lt, ← e5, k5 5 (by decide), p4]
              have v1 : fn_X7_search (nI bs) 0 m5 = some M2 := v1
              rw [v1, Option.bind_some]
            rw [Nat.mul_zero, Nat.zero_add, ← ep] at v5
            obtain ⟨y0, y1, y2⟩ := v5
            have cls : fn_X11_sung (nI j) (nI n) (nI w) μ = (if nI w = 0 then (some (nI (sf_ p (2 ^ bs)).1, M2)) else (if nI (sf_ p (2 ^ bs)).1 = 0 then (some ((-2), M2)) else (if nI w = 1 then (some (nI (sf_ p (2 ^ bs)).2.1, M2)) else (some (nI (sf_ p (2 ^ bs)).2.2, M2))))) := by
              rw [cls]
              show ((fn_X7_solve M1).bind _) = _
              rw [hsolve, Option.bind_some, y0, y1, y2]
            have hM2 : ∀ o, ¬ (199 ≤ o ∧ o ≤ 203) → M2 o = m o := fun o ho => by rw [v2 o (by omega) (by omega), n5 o (by omega), p1 o ho]
            obtain ⟨q13, r1, r2, r3, r4, r5, r6, r7⟩ := refM M2 hM2
            rcases r7 with ⟨t', M', x1, x2, -, -⟩ | ⟨x1, M', x2, x3, x4⟩
            · have := of_decide_eq_false (l1 t' x1)
              omega
            · have hm := mdl M2 q13 r1 r3 r4 r5 r6
              have hset := rt_sets x3 hbs (fun t _ => hF12 t) ep (v3 := nI w)
              have hm : fn_X12_sung (nI j) (nI n) (nI w) M2 = (if nI w = 0 then (some (nI (sf_ p (2 ^ bs)).1, M')) else (if nI (sf_ p (2 ^ bs)).1 = 0 then (some ((-2), M')) else (if nI w = 1 then (some ((if (sf_ p (2 ^ bs)).1 = 0 then -2 else nI (sf_ p (2 ^ bs)).2.1), M')) else (some ((if (sf_ p (2 ^ bs)).1 = 0 then 4095 else nI (sf_ p (2 ^ bs)).2.2), M'))))) := by
                rw [hm, x4, Option.bind_some]
                show ((fl_X12_sung_270 (nI n) (nI w) (nI bs) M' (0, (-2), 4095, 0)).bind _) = _
                rw [hset, Option.bind_some]
              have hle := (sf_le p (2 ^ bs)).1
              by_cases w0 : nI w = 0
              · rw [if_pos w0] at cls hm
                exact ⟨_, M2, M', cls, hm, x2⟩
              · rw [if_neg w0] at cls hm
                by_cases c0 : (sf_ p (2 ^ bs)).1 = 0
                · have z0 : nI (sf_ p (2 ^ bs)).1 = 0 := by rw [c0]; rfl
                  rw [if_pos z0] at cls hm
                  exact ⟨_, M2, M', cls, hm, x2⟩
                · have z0 : ¬ nI (sf_ p (2 ^ bs)).1 = 0 := nI_ne0 (by omega) (by omega)
                  rw [if_neg z0] at cls hm
                  rw [if_neg c0, if_neg c0] at hm
                  by_cases w1 : nI w = 1
                  · rw [if_pos w1] at cls hm
                    exact ⟨_, M2, M', cls, hm, x2⟩
                  · rw [if_neg w1] at cls hm
                    exact ⟨_, M2, M', cls, hm, x2⟩
        · refine ⟨-1, μ, μ, ?_, ?_, hI⟩
          · unfold fn_X11_sung
            rw [ca, cb, cc, rt_e2, t2, if_neg (nI_ge (by omega) (by omega))]
          · unfold fn_X12_sung
            rw [(inA μ hA1).2 j hj, Option.bind_some, if_neg rt_10, i20, Option.bind_some, if_neg rt_10, i2, Option.bind_some, if_neg rt_10, rt_e2, t1, t2, if_neg (nI_ge (by omega) (by omega))]
