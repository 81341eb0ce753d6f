-- ===== law =====
theorem op_law (a : Int32) (μ : ro_Mem) (hI : Inv μ) : ∃ r μ1 μ2, fn_X11_law a μ = some (r, μ1) ∧ fn_X12_law a μ1 = some (r, μ2) ∧ Inv μ2 := by
  obtain ⟨t1, ⟨T, hT, t2⟩, t3⟩ := hI.2.2.1
  rcases rt_rng a 1 200 (by decide) with ha | ⟨j, hj, rfl⟩
  · refine ⟨-1, μ, μ, ?_, ?_, hI⟩
    · unfold fn_X11_law
      rcases ha with h | h
      · rw [if_pos (show a < 1 from h)]
      · by_cases c0 : a < 1
        · rw [if_pos c0]
        · rw [if_neg c0, if_pos (by rw [fa_lt]; rw [fa_le] at h; have h5 : (nI (1 + 200)).toInt = 201 := by decide
                                    have h4 : (200 : Int32).toInt = 200 := by decide
                                    omega)]
    · unfold fn_X12_law
      rw [show fn_X12_in a 1 200 = some 0 from rt_inO 1 200 (by decide) (by decide) ha, Option.bind_some, if_pos rfl]
  · have i200 : fn_X12_in (nI (1 + j)) 1 200 = some 1 := rt_inI (a := 1) (n := 200) (j := j) (by decide) hj
    generalize hne : 1 + j = n at *
    have hc : ∀ {x y : Option (Int32 × ro_Mem)}, (if nI n < 1 then x else if 200 < nI n then x else y) = y := fun {x y} => by
      rw [if_neg (show ¬ nI n < 1 from nI_nlt (b := 1) (by omega) (by omega)), if_neg (show ¬ (200 : Int32) < nI n from nI_nlt (a := 200) (by omega) (by decide))]
    by_cases cT : n ≤ T
    · obtain ⟨b, eb⟩ : ∃ b : Nat → Nat, b = fun i => nn (μ 61 i) := ⟨_, rfl⟩
      have hb : ∀ i, i < n → μ 61 i = nI (b i) ∧ b i < 256 := fun i hi => by
        obtain ⟨-, x, hx, ex⟩ := t3 i (by omega)
        rw [eb]
        show μ 61 i = nI (nn (μ 61 i)) ∧ nn (μ 61 i) < 256
        rw [ex, nn_nI (by omega)]
        exact ⟨rfl, hx⟩
      have hSW := hI.2.2.2.1
      obtain ⟨hwS, ⟨w, hw, u1, u0⟩⟩ := hI.2.2.2.1
      obtain ⟨o0, eo⟩ : ∃ o0, o0 = 72 - w := ⟨_, rfl⟩
      have ho : o0 + 6 < 60 := by omega
      have ho2 : (o0 = 21 ∨ o0 = 51) ∧ 72 - o0 = w ∧ ¬ o0 = w := by omega
      have shW : ro_sh w = (0, 2) := by rcases hw with e | e <;> rw [e] <;> decide +kernel
      have shO : ro_sh o0 = (0, 2) := by rcases ho2.1 with e | e <;> rw [e] <;> decide +kernel
      rw [← eo] at u0
      -- the class
      obtain ⟨q4, e4⟩ : ∃ q4, q4 = ro_set (ro_set (ro_set μ 60 2 0) 60 3 (nI n)) 60 4 0 := ⟨_, rfl⟩
      have n4 : ∀ o, ¬ o = 60 → q4 o = μ o := fun o h => by rw [e4, ro_set_ne _ _ _ h, ro_set_ne _ _ _ h, ro_set_ne _ _ _ h]
      have hst : fn_X8_startReading (nI n) μ = some q4 := by
        unfold fn_X8_startReading
        rw [ro_lt, ro_set_same, pk_un (show ¬ 1 = 2 by decide), t2, rt_mnn (by omega) (by omega), Nat.min_eq_left cT, ro_lt, ro_lt, e4]
      have hTp : Tp b n q4 := ⟨by rw [e4, ro_set_same, pk_un (by decide), ro_set_same, pk_us], by omega, fun i hi => by rw [n4 61 (by decide)]; exact hb i hi⟩
      have hSp : Sp0 o0 q4 := ⟨ho2.1, by rw [n4 50 (by decide)]; exact u0⟩
      have rfOf : ∀ M : ro_Mem, M 1 2 = nI w → ro_rf M 1 2 = w := fun M h => by
        show (M 1 2).toNatClampNeg = w
        rw [h, nI_clamp (by omega)]
      have hcls : fn_X11_law (nI n) μ = ((fn_X3_readLaw q4).bind fun q6 => ro_lt (ro_set q6.2 60 1 0) fun m8 => if q6.1 ≤ 0 then (some (q6.1, m8)) else (if ro_sh (ro_rf m8 1 2) = (0, 2) then (if ro_sh (ro_rf m8 50 0) = (0, 2) then (ro_lt (ro_set m8 1 2 (nI (ro_rf m8 50 0))) fun m13 => ro_lt (ro_set m13 50 0 (nI (ro_rf m8 1 2))) fun m15 => ro_lt (ro_set m15 0 7 1) fun m17 => some (q6.1, m17)) else none) else none)) := by
        unfold fn_X11_law
        rw [hc, t2, if_pos (nI_le cT (by omega)), hst, Option.bind_some]
      have h2 : q4 60 2 = 0 := by rw [e4, ro_set_same, pk_un (by decide), ro_set_same, pk_un (by decide), ro_set_same, pk_us]
      have h4 : q4 60 4 = 0 := by rw [e4, ro_set_same, pk_us]
      -- the reference, over whatever the class leaves
      have href : ∀ M1 : ro_Mem, M1 207 = μ 207 → M1 217 = μ 217 → ∃ m7, RT b n m7 ∧ RK m7 sx0 0 (fun _ _ => 0) m7 ∧ (∀ o, ¬ o = 207 → m7 o = M1 o) ∧ (∀ k, ¬ k = 14 → ¬ k = 15 → ¬ k = 35 → ¬ k = 37 → m7 207 k = μ 207 k) ∧ fn_X12_law (nI n) M1 = (((fn_X12_readsClause m7).bind fun q13 => fl_X12_law_46 (q13.1, q13.2)).bind fun q23 => fj_X12_law_86 q23.1 q23.2) := by
        intro M1 h1 h3
        refine ⟨ro_set (ro_set (ro_set (ro_set M1 207 14 0) 207 15 (nI n)) 207 35 0) 207 37 0, ⟨by rw [ro_set_same, pk_un (by decide), ro_set_same, pk_un (by decide), ro_set_same, pk_us], by omega, fun i hi => ?_⟩, ⟨XFr.refl _, ?_, ?_, fun k hk => absurd hk (Nat.not_lt_zero _), by rw [ro_set_same, pk_us]; rfl, fun c hc => absurd hc (Nat.not_lt_zero _)⟩, fun o ho => by rw [ro_set_ne _ _ _ ho, ro_set_ne _ _ _ ho, ro_set_ne _ _ _ ho, ro_set_ne _ _ _ ho], fun k k1 k2 k3 k4 => by rw [ro_set_same, pk_un k4, ro_set_same, pk_un k3, ro_set_same, pk_un k2, ro_set_same, pk_un k1, h1], ?_⟩
        · rw [ro_set_ne _ _ _ (by decide), ro_set_ne _ _ _ (by decide), ro_set_ne _ _ _ (by decide), ro_set_ne _ _ _ (by decide), h3, (t3 i (by omega)).1]
          exact hb i hi
        · rw [ro_set_same, pk_un (by decide), ro_set_same, pk_un (by decide), ro_set_same, pk_un (by decide), ro_set_same, pk_us]; rfl
        · rw [ro_set_same, pk_un (by decide), ro_set_same, pk_us]; rfl
        · unfold fn_X12_law
          rw [i200, Option.bind_some, if_neg rt_10, h1, t1, t2, if_pos (nI_le cT (by omega)), ro_lt, ro_lt, ro_lt, ro_lt, Option.bind_assoc]
      have hiC := hI.2.2.2.2.1
      have hiW := hI.2.2.2.2.2.1
      have hiE := hI.2.2.2.2.2.2.1
      rcases rt_readLawC hSp hTp h2 h4 with ⟨e, M', x1, x2, x3⟩ | ⟨x, M', x1, x2, x3⟩
      · -- a fault
        have xe : ¬ e = 0 ∧ e ≤ 0 := LR_ok (by omega) _ _ _ _ _ x1 (Nat.zero_le _) (Nat.zero_le _) (fun c hc => absurd hc (Nat.not_lt_zero _)) (fun k hk => absurd hk (Nat.not_lt_zero _))
        rw [x2, Option.bind_some, ro_lt, if_pos xe.2] at hcls
        obtain ⟨m9, e9⟩ : ∃ m9, m9 = ro_set M' 60 1 0 := ⟨_, rfl⟩
        have hcls : fn_X11_law (nI n) μ = some (e, m9) := by rw [e9]; exact hcls
        have n9 : ∀ o, ¬ o = 60 → ¬ (o0 ≤ o ∧ o ≤ o0 + 6) → m9 o = μ o := fun o h1 h3 => by rw [e9, ro_set_ne _ _ _ h1, x3.1 o h1 h3, n4 o h1]
        obtain ⟨m7, r1, r2, r3, r4, r5⟩ := href m9 (n9 207 (by decide) (by omega)) (n9 217 (by decide) (by omega))
        obtain ⟨M2, y2, y3, y4⟩ := rt_lawR r1 x1 r2
        obtain ⟨m11, e11⟩ : ∃ m11, m11 = ro_set M2 207 13 0 := ⟨_, rfl⟩
        have r5 : fn_X12_law (nI n) m9 = some (m11 207 16, m11) := by
          rw [r5, y2, Option.bind_some]
          unfold fj_X12_law_86
          rw [ro_lt, if_pos rfl, e11]
        have h16 : m11 207 16 = e := by rw [e11, ro_set_same, pk_un (by decide)]; exact y4
        rw [h16] at r5
        have n11 : ∀ o, ¬ o = 60 → ¬ (o0 ≤ o ∧ o ≤ o0 + 6) → ¬ o = 207 → ¬ (228 ≤ o ∧ o ≤ 233) → m11 o = μ o := fun o h1 h3 h5 h6 => by rw [e11, ro_set_ne _ _ _ h5, y3.1 o h5 h6, r3 o h5, n9 o h1 h3]
        have k11 : ∀ k, ¬ (13 ≤ k ∧ k ≤ 17) → ¬ (34 ≤ k ∧ k ≤ 37) → m11 207 k = μ 207 k := fun k h1 h3 => by rw [e11, ro_set_same, pk_un (by omega), y3.2 k (by omega) (by omega) (by omega) (by omega), r4 k (by omega) (by omega) (by omega) (by omega)]
        have rf1 : ro_rf m11 1 2 = ro_rf μ 1 2 := by show (m11 1 2).toNatClampNeg = (μ 1 2).toNatClampNeg; rw [n11 1 (by decide) (by omega) (by decide) (by omega)]
        have rfs : ro_rf μ 1 2 = w := rfOf μ u1
        have hlw : iv_lw m11 = iv_lw μ := by
          funext x
          unfold iv_lw
          by_cases c : x ≤ 6
          · rw [if_pos c, if_pos c, rf1, rfs]
            exact n11 _ (by omega) (by omega) (by omega) (by omega)
          · rw [if_neg c, if_neg c]
        have hsc : iv_sc m11 = iv_sc μ := cg_sc hSW (n11 1 (by decide) (by omega) (by decide) (by omega)) (fun o a b => n11 o (by omega) (by omega) (by omega) (by omega)) (fun o a b => n11 o (by omega) (by omega) (by omega) (by omega))
        refine ⟨e, m9, m11, hcls, r5, hI.reread (fun o ho => n11 o (by omega) (by omega) (by omega) (by omega)) (by rw [n11 0 (by decide) (by omega) (by decide) (by omega)]) (fun k hk => k11 k (by omega) (by omega)) ?_ (by rw [e11, ro_set_same, pk_us]) ?_ ?_ ?_ ?_⟩
        · rw [e11, ro_set_ne _ _ _ (by decide), y3.1 60 (by decide) (by omega), r3 60 (by decide), e9, ro_set_same, pk_us]
        · exact cg_SW hSW (by rw [n11 0 (by decide) (by omega) (by decide) (by omega)]) (n11 1 (by decide) (by omega) (by decide) (by omega)) (n11 50 (by decide) (by omega) (by decide) (by omega))
        · rw [hsc, cg_mc (fun o a b => n11 o (by omega) (by omega) (by omega) (by omega)), k11 18 (by omega) (by omega), k11 19 (by omega) (by omega), k11 20 (by omega) (by omega)]
          exact hiC
        · rw [hlw, cg_mw (fun o a b => n11 o (by omega) (by omega) (by omega) (by omega)), k11 38 (by omega) (by omega)]
          exact hiW
        · rw [n11 0 (by decide) (by omega) (by decide) (by omega)]
          rcases hiE with h | ⟨h, he⟩
          · exact Or.inl h
          · refine Or.inr ⟨h, ?_⟩
            unfold iv_eve at *
            have g : ∀ o, ((2 ≤ o ∧ o ≤ 9) ∨ (63 ≤ o ∧ o ≤ 67)) → m11 o = μ o := fun o hh => n11 o (by omega) (by omega) (by omega) (by omega)
            rw [hsc, hlw, g 2 (by omega), g 3 (by omega), g 4 (by omega), g 5 (by omega), g 6 (by omega), g 7 (by omega), g 8 (by omega), g 9 (by omega), g 63 (by omega), g 64 (by omega), g 65 (by omega), g 66 (by omega), g 67 (by omega)]
            exact he
      · -- a law
        have xo : LOK n (.inr x) := LR_ok (by omega) _ _ _ _ _ x1 (Nat.zero_le _) (Nat.zero_le _) (fun c hc => absurd hc (Nat.not_lt_zero _)) (fun k hk => absurd hk (Nat.not_lt_zero _))
        obtain ⟨C, s, T'⟩ := x
        obtain ⟨g1, g2, g3, g4, g5, g6⟩ : 1 ≤ C ∧ C ≤ 14 ∧ s.p ≤ n ∧ s.c ≤ s.p ∧ GT C s T' ∧ AW s := xo
        have x2 : fn_X3_readLaw q4 = some (nI C, M') := x2
        obtain ⟨f0, f2, f3, f4, f5, f6⟩ : CK o0 q4 s C T' M' := x3
        obtain ⟨m9, e9⟩ : ∃ m9, m9 = ro_set M' 60 1 0 := ⟨_, rfl⟩
        have n9 : ∀ o, ¬ o = 60 → m9 o = M' o := fun o h1 => by rw [e9, ro_set_ne _ _ _ h1]
        have m9μ : ∀ o, ¬ o = 60 → ¬ (o0 ≤ o ∧ o ≤ o0 + 6) → m9 o = μ o := fun o h1 h3 => by rw [n9 o h1, f0.1 o h1 h3, n4 o h1]
        have rf9 : ro_rf m9 1 2 = w := rfOf m9 (by rw [m9μ 1 (by decide) (by omega)]; exact u1)
        have rf90 : ro_rf m9 50 0 = o0 := by
          show (m9 50 0).toNatClampNeg = o0
          rw [m9μ 50 (by decide) (by omega), u0, nI_clamp (by omega)]
        obtain ⟨M1, e1⟩ : ∃ M1, M1 = ro_set (ro_set (ro_set m9 1 2 (nI o0)) 50 0 (nI w)) 0 7 1 := ⟨_, rfl⟩
        have hcls : fn_X11_law (nI n) μ = some (nI C, M1) := by
          rw [hcls, x2, Option.bind_some, ro_lt]
          show (if nI C ≤ 0 then some (nI C, ro_set M' 60 1 0) else if ro_sh (ro_rf (ro_set M' 60 1 0) 1 2) = (0, 2) then _ else none) = _
          rw [if_neg (show ¬ nI C ≤ 0 from nI_ge (a := 0) (by omega) (by omega)), ← e9, rf9, if_pos shW, rf90, if_pos shO, ro_lt, ro_lt, ro_lt, ← e1]
        have n1 : ∀ o, ¬ o = 0 → ¬ o = 1 → ¬ o = 50 → M1 o = m9 o := fun o h1 h3 h5 => by rw [e1, ro_set_ne _ _ _ h1, ro_set_ne _ _ _ h5, ro_set_ne _ _ _ h3]
        have M1μ : ∀ o, ¬ o = 0 → ¬ o = 1 → ¬ o = 50 → ¬ o = 60 → ¬ (o0 ≤ o ∧ o ≤ o0 + 6) → M1 o = μ o := fun o h1 h3 h4 h5 h7 => by rw [n1 o h1 h3 h4, m9μ o h5 h7]
        obtain ⟨m7, r1, r2, r3, r4, r5⟩ := href M1 (M1μ 207 (by decide) (by decide) (by decide) (by decide) (by omega)) (M1μ 217 (by decide) (by decide) (by decide) (by decide) (by omega))
        obtain ⟨M2, y2, z0, z1, z2, z3, z4, z5⟩ : ∃ M', ((fn_X12_readsClause m7).bind fun q13 => fl_X12_law_46 (q13.1, q13.2)) = some (1, M') ∧ RK m7 s C T' M' := rt_lawR r1 x1 r2
        obtain ⟨m28, e28⟩ : ∃ m28, m28 = ro_set (ro_set M2 207 13 0) 207 38 (nI C) := ⟨_, rfl⟩
        have n28 : ∀ o, ¬ o = 207 → m28 o = M2 o := fun o h => by rw [e28, ro_set_ne _ _ _ h, ro_set_ne _ _ _ h]
        have k28 : ∀ k, ¬ k = 13 → ¬ k = 38 → m28 207 k = M2 207 k := fun k h1 h3 => by rw [e28, ro_set_same, pk_un h3, ro_set_same, pk_un h1]
        have a38 : m28 207 38 = nI C := by rw [e28, ro_set_same, pk_us]
        have a13 : m28 207 13 = 0 := by rw [e28, ro_set_same, pk_un (by decide), ro_set_same, pk_us]
        obtain ⟨Q1, v1, v2, v3⟩ := rt_copyLaw1 (m := m28) (c := s.c) (by omega) (by rw [k28 35 (by decide) (by decide)]; exact z2)
        obtain ⟨Q, w1, w2, w3⟩ := rt_copyLaw2 (m := Q1) g2 (by rw [v2 207 (by decide), k28 37 (by decide) (by decide)]; exact z4)
        have Q207 : Q 207 = m28 207 := by rw [w2 207 (by omega), v2 207 (by decide)]
        have r5 : fn_X12_law (nI n) M1 = some (nI C, Q) := by
          rw [r5, y2, Option.bind_some]
          unfold fj_X12_law_86
          rw [ro_lt, if_neg rt_10, show ro_set M2 207 13 0 207 37 = nI C by rw [ro_set_same, pk_un (by decide)]; exact z4, ro_lt, ← e28, v1, Option.bind_some, w1, Option.bind_some, Q207, k28 37 (by decide) (by decide), z4]
        have nQ : ∀ o, ¬ o = 207 → ¬ (228 ≤ o ∧ o ≤ 238) → Q o = M1 o := fun o h1 h3 => by rw [w2 o (by omega), v2 o (by omega), n28 o h1, z0.1 o h1 (by omega), r3 o h1]
        have Qμ : ∀ o, ¬ o = 0 → ¬ o = 1 → ¬ o = 50 → ¬ o = 60 → ¬ (o0 ≤ o ∧ o ≤ o0 + 6) → ¬ o = 207 → ¬ (228 ≤ o ∧ o ≤ 238) → Q o = μ o := fun o h1 h3 h4 h5 h7 h8 h9 => by rw [nQ o h8 h9, M1μ o h1 h3 h4 h5 h7]
        have kQ : ∀ k, ¬ (13 ≤ k ∧ k ≤ 17) → ¬ (34 ≤ k ∧ k ≤ 38) → Q 207 k = μ 207 k := fun k h1 h3 => by rw [Q207, k28 k (by omega) (by omega), z0.2 k (by omega) (by omega) (by omega) (by omega), r4 k (by omega) (by omega) (by omega) (by omega)]
        have Q12 : Q 1 2 = nI o0 := by rw [nQ 1 (by decide) (by omega), e1, ro_set_ne _ _ _ (by decide), ro_set_ne _ _ _ (by decide), ro_set_same, pk_us]
        have Q1k : ∀ k, ¬ k = 2 → Q 1 k = μ 1 k := fun k hk => by rw [nQ 1 (by decide) (by omega), e1, ro_set_ne _ _ _ (by decide), ro_set_ne _ _ _ (by decide), ro_set_same, pk_un hk, m9μ 1 (by decide) (by omega)]
        have Q0 : ∀ k, ¬ k = 7 → Q 0 k = μ 0 k := fun k h1 => by rw [nQ 0 (by decide) (by omega), e1, ro_set_same, pk_un h1, ro_set_ne _ _ _ (by decide), ro_set_ne _ _ _ (by decide), m9μ 0 (by decide) (by omega)]
        have Q50 : Q 50 0 = nI w := by rw [nQ 50 (by decide) (by omega), e1, ro_set_ne _ _ _ (by decide), ro_set_same, pk_us]
        have Q07 : Q 0 7 = 1 := by rw [nQ 0 (by decide) (by omega), e1, ro_set_same, pk_us]
        have rfQ : ro_rf Q 1 2 = o0 := by show (Q 1 2).toNatClampNeg = o0; rw [Q12, nI_clamp (by omega)]
        have Qs : ∀ x, x ≤ 6 → iv_lw Q x = M' (o0 + x) := fun x hx => by
          unfold iv_lw
          rw [if_pos hx, rfQ, nQ _ (by omega) (by omega), n1 _ (by omega) (by omega) (by omega), n9 _ (by omega)]
        have hsc : iv_sc Q = iv_sc μ := by
          have hrs : ro_rf Q 1 1 = ro_rf μ 1 1 := by show (Q 1 1).toNatClampNeg = (μ 1 1).toNatClampNeg; rw [Q1k 1 (by decide)]
          have hL := (cg_rf hSW).1
          funext x
          unfold iv_sc
          by_cases c : x ≤ 5
          · rw [if_pos c, if_pos c, hrs]
            exact Qμ _ (by omega) (by omega) (by omega) (by omega) (by omega) (by omega) (by omega)
          · rw [if_neg c, if_neg c]
        refine ⟨nI C, M1, Q, hcls, r5, hI.reread (fun o ho => Qμ o (by omega) (by omega) (by omega) (by omega) (by omega) (by omega) (by omega)) (Q0 2 (by decide)) (fun k hk => kQ k (by omega) (by omega)) ?_ (by rw [Q207]; exact a13) ⟨?_, ⟨o0, ho2.1, Q12, by rw [Q50, ho2.2.1]⟩⟩ ?_ ?_ (Or.inl Q07)⟩
        · rw [nQ 60 (by decide) (by omega), n1 60 (by decide) (by decide) (by decide), e9, ro_set_same, pk_us]
        · rw [Q1k 1 (by decide), Q0 3 (by decide)]
          exact hwS
        · rw [hsc, cg_mc (fun o a b => Qμ o (by omega) (by omega) (by omega) (by omega) (by omega) (by omega) (by omega)), kQ 18 (by omega) (by omega), kQ 19 (by omega) (by omega), kQ 20 (by omega) (by omega)]
          exact hiC
        · have q38 : Q 207 38 = nI C := by rw [Q207]; exact a38
          have i3 : iv_lw Q 0 3 = nI C := by rw [Qs 0 (by omega)]; exact f5
          have iO : ∀ k, k < s.c → iv_lw Q 1 k = opI s k ∧ iv_lw Q 2 k = arI s k := fun k hk => by rw [Qs 1 (by omega), Qs 2 (by omega)]; exact f4 k hk
          refine ⟨by rw [q38, i3], C, g2, i3, fun c hc => ?_⟩
          obtain ⟨d1, d2, d3, d4, d5, N, d6⟩ := g5 c hc
          have tb : ∀ j, j < 4 → iv_lw Q (3 + j) c = nI (T' j c) := fun j hj => by
            rw [Qs (3 + j) (by omega), show o0 + (3 + j) = o0 + 3 + j by omega]
            exact f6 j c hj hc
          obtain ⟨p0, p1, p2, p3⟩ := w3 c hc
          obtain ⟨s0, s1, s2, s3⟩ := z5 c hc
          refine ⟨T' 0 c, T' 1 c, T' 2 c, T' 3 c, d1, d2, d3, by omega, tb 0 (by decide), tb 1 (by decide), tb 2 (by decide), tb 3 (by decide), ?_, ?_, ?_, ?_, fun k k1 k2 => ?_, fun q => ?_, N, ?_⟩
          · show Q 235 c = _; rw [p0, v2 230 (by decide), n28 230 (by decide)]; exact s0
          · show Q 236 c = _; rw [p1, v2 231 (by decide), n28 231 (by decide)]; exact s1
          · show Q 237 c = _; rw [p2, v2 232 (by decide), n28 232 (by decide)]; exact s2
          · show Q 238 c = _; rw [p3, v2 233 (by decide), n28 233 (by decide)]; exact s3
          · have hk : k < s.c := by omega
            refine ⟨s.op k, s.ar k, (g6 k hk).1, (g6 k hk).2, (iO k hk).1, (iO k hk).2, ?_⟩
            show Q 234 k = _
            rw [w2 234 (by omega), v3 k hk, n28 228 (by decide)]
            exact z3 k hk
          · obtain ⟨N', hN'⟩ := d5 q
            exact ⟨N', sg_E_cg (fun k x y => iO k (by omega)) hN'⟩
          · exact sg_C_cg (fun k x y => iO k (by omega)) d6
    · refine ⟨-1, μ, μ, ?_, ?_, hI⟩
      · unfold fn_X11_law
        rw [hc, t2, if_neg (nI_ge (by omega) (by omega))]
      · unfold fn_X12_law
        rw [i200, Option.bind_some, if_neg rt_10, t1, t2, if_neg (nI_ge (by omega) (by omega))]
