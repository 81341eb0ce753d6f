-- ===== score =====
theorem Inv.reread {μ M : ro_Mem} (hI : Inv μ) (hf : ∀ o, ((2 ≤ o ∧ o ≤ 14) ∨ (31 ≤ o ∧ o ≤ 43) ∨ o = 61 ∨ (208 ≤ o ∧ o ≤ 217) ∨ (257 ≤ o ∧ o ≤ 259) ∨ (261 ≤ o ∧ o ≤ 272)) → M o = μ o) (h02 : M 0 2 = μ 0 2) (hs : ∀ k, ¬ (13 ≤ k ∧ k ≤ 38) → M 207 k = μ 207 k) (h60 : M 60 1 = 0) (h13 : M 207 13 = 0) (hSW : iv_SW M) (hC : iv_C (iv_sc M) (iv_mc M) (M 207 18) (M 207 19) (M 207 20)) (hW : iv_W (iv_lw M) (iv_mw M) (M 207 38)) (hE : M 0 7 = 1 ∨ (M 0 7 = 0 ∧ iv_eve M)) : Inv M := by
  obtain ⟨hn, hK, hT, -, -, -, -, hQ⟩ := hI
  refine ⟨?_, cg_kept hK h02 (fun o a b => hf o (by omega)) (fun o a b => hf o (by omega)) (fun k a b => hs k (by omega)), ?_, hSW, hC, hW, hE, by rw [hs 52 (by omega)]; exact hQ⟩
  · unfold iv_now at *
    rw [hf 2 (by omega), hf 3 (by omega), hf 4 (by omega), hf 5 (by omega), hf 6 (by omega), hf 7 (by omega), hf 8 (by omega), hf 9 (by omega), hf 10 (by omega), hf 11 (by omega), hf 12 (by omega), hf 13 (by omega), hf 14 (by omega), hf 208 (by omega), hf 209 (by omega), hf 210 (by omega), hf 211 (by omega), hf 212 (by omega), hf 213 (by omega), hf 214 (by omega), hf 215 (by omega), hf 216 (by omega), hf 257 (by omega), hf 258 (by omega), hf 259 (by omega), hs 0 (by omega), hs 1 (by omega), hs 2 (by omega), hs 70 (by omega), hs 71 (by omega)]
    exact hn
  · rw [hf 61 (by omega), hf 217 (by omega), h60, h13]
    exact ⟨rfl, ⟨0, by omega, rfl⟩, hT.2.2⟩
theorem rt_copyScore {m : ro_Mem} {N : Nat} {R : Nat → Nat → Nat} (hN : N ≤ 32) (h18 : m 207 18 = nI N) (hR : ∀ j i, 1 ≤ j → j ≤ 5 → i < N → m (222 + j) i = nI (R j i)) : ∃ M, fl_X12_score_76 (0, m) = some M ∧ (∀ o, ¬ (218 ≤ o ∧ o ≤ 222) → M o = m o) ∧ ∀ j i, 1 ≤ j → j ≤ 5 → i < N → M (217 + j) i = nI (R j i) := by
  have hl := rt_cnt (b := fun rec (s : Int32 × ro_Mem) => fb_X12_score_76 rec s.1 s.2) (fun i (M : ro_Mem) => (nI i, M)) (fun M => M) N (fun i M => (∀ o, ¬ (218 ≤ o ∧ o ≤ 222) → M o = m o) ∧ ∀ j x, 1 ≤ j → j ≤ 5 → x < i → M (217 + j) x = nI (R j x)) (fun i hi rec M hP => by
    obtain ⟨p1, p2⟩ := hP
    obtain ⟨A1, a1⟩ : ∃ A1, A1 = ro_set M 218 i (nI (R 1 i)) := ⟨_, rfl⟩
    have n1 : ∀ o, ¬ o = 218 → A1 o = M o := fun o h => by rw [a1, ro_set_ne _ _ _ h]
    obtain ⟨A2, a2⟩ : ∃ A2, A2 = ro_set A1 219 i (nI (R 2 i)) := ⟨_, rfl⟩
    have n2 : ∀ o, ¬ o = 219 → A2 o = A1 o := fun o h => by rw [a2, ro_set_ne _ _ _ h]
    obtain ⟨A3, a3⟩ : ∃ A3, A3 = ro_set A2 220 i (nI (R 3 i)) := ⟨_, rfl⟩
    have n3 : ∀ o, ¬ o = 220 → A3 o = A2 o := fun o h => by rw [a3, ro_set_ne _ _ _ h]
    obtain ⟨A4, a4⟩ : ∃ A4, A4 = ro_set A3 221 i (nI (R 4 i)) := ⟨_, rfl⟩
    have n4 : ∀ o, ¬ o = 221 → A4 o = A3 o := fun o h => by rw [a4, ro_set_ne _ _ _ h]
    obtain ⟨A5, a5⟩ : ∃ A5, A5 = ro_set A4 222 i (nI (R 5 i)) := ⟨_, rfl⟩
    have n5 : ∀ o, ¬ o = 222 → A5 o = A4 o := fun o h => by rw [a5, ro_set_ne _ _ _ h]
    have v1 : M 223 i = nI (R 1 i) := by rw [p1 223 (by omega)]; exact hR 1 i (by omega) (by omega) hi
    have v2 : A1 224 i = nI (R 2 i) := by rw [n1 224 (by decide), p1 224 (by omega)]; exact hR 2 i (by omega) (by omega) hi
    have v3 : A2 225 i = nI (R 3 i) := by rw [n2 225 (by decide), n1 225 (by decide), p1 225 (by omega)]; exact hR 3 i (by omega) (by omega) hi
    have v4 : A3 226 i = nI (R 4 i) := by rw [n3 226 (by decide), n2 226 (by decide), n1 226 (by decide), p1 226 (by omega)]; exact hR 4 i (by omega) (by omega) hi
    have v5 : A4 227 i = nI (R 5 i) := by rw [n4 227 (by decide), n3 227 (by decide), n2 227 (by decide), n1 227 (by decide), p1 227 (by omega)]; exact hR 5 i (by omega) (by omega) hi
    have q1 : A5 218 = upd (M 218) i (nI (R 1 i)) := by rw [n5 _ (by decide), n4 _ (by decide), n3 _ (by decide), n2 _ (by decide), a1, ro_set_same]
    have q2 : A5 219 = upd (M 219) i (nI (R 2 i)) := by rw [n5 _ (by decide), n4 _ (by decide), n3 _ (by decide), a2, ro_set_same, n1 _ (by decide)]
    have q3 : A5 220 = upd (M 220) i (nI (R 3 i)) := by rw [n5 _ (by decide), n4 _ (by decide), a3, ro_set_same, n2 _ (by decide), n1 _ (by decide)]
    have q4 : A5 221 = upd (M 221) i (nI (R 4 i)) := by rw [n5 _ (by decide), a4, ro_set_same, n3 _ (by decide), n2 _ (by decide), n1 _ (by decide)]
    have q5 : A5 222 = upd (M 222) i (nI (R 5 i)) := by rw [a5, ro_set_same, n4 _ (by decide), n3 _ (by decide), n2 _ (by decide), n1 _ (by decide)]
    refine ⟨A5, ⟨fun o ho => by rw [n5 o (by omega), n4 o (by omega), n3 o (by omega), n2 o (by omega), n1 o (by omega)]; exact p1 o ho, fun j x j1 j5 hx => ?_⟩, ?_⟩
    · have hA : A5 (217 + j) = upd (M (217 + j)) i (nI (R j i)) := by
        have hj : j = 1 ∨ j = 2 ∨ j = 3 ∨ j = 4 ∨ j = 5 := by omega
        rcases hj with rfl | rfl | rfl | rfl | rfl
        · exact q1
        · exact q2
        · exact q3
        · exact q4
        · exact q5
      rw [hA]
      by_cases c : x = i
      · rw [c, pk_us]
      · rw [pk_un c]; exact p2 j x j1 j5 (by omega)
    · show fb_X12_score_76 rec (nI i) M = _
      unfold fb_X12_score_76
      rw [p1 207 (by omega), h18, if_neg (nI_ge hi (by omega)), if_pos (rt_in (n := 32) (by omega) (by decide)), nI_clamp (show i < 2 ^ 31 by omega), v1, ro_lt, ← a1, v2, ro_lt, ← a2, v3, ro_lt, ← a3, v4, ro_lt, ← a4, v5, ro_lt, ← a5, nI_1]) (fun rec M hP => by
    show fb_X12_score_76 rec (nI N) M = _
    unfold fb_X12_score_76
    rw [hP.1 207 (by omega), h18, if_pos (Int32.le_refl _)]) ro_FU (Nat.lt_of_le_of_lt hN (by decide)) m ⟨fun _ _ => rfl, fun j x _ _ h => absurd h (by omega)⟩
  obtain ⟨M, ⟨m1, m2⟩, m3⟩ := hl
  exact ⟨M, m3, m1, m2⟩
theorem op_score (a : Int32) (μ : ro_Mem) (hI : Inv μ) : ∃ r μ1 μ2, fn_X11_score a μ = some (r, μ1) ∧ fn_X12_score a μ1 = some (r, μ2) ∧ Inv μ2 := by
  obtain ⟨t1, ⟨T, hT, t2⟩, t3⟩ := hI.2.2.1
  rcases rt_rng a 1 200 (by decide) with ha | ⟨j, hj, rfl⟩
  · refine ⟨-1, μ, μ, ?_, ?_, hI⟩
    · unfold fn_X11_score
      rcases ha with h | h
      · rw [if_pos (show a < 1 from h)]
      · by_cases c0 : a < 1
        · rw [if_pos c0]
        · rw [if_neg c0, if_pos (by rw [fa_lt]; rw [fa_le] at h; have h5 : (nI (1 + 200)).toInt = 201 := by decide
                                    have h4 : (200 : Int32).toInt = 200 := by decide
                                    omega)]
    · unfold fn_X12_score
      rw [show fn_X12_in a 1 200 = some 0 from rt_inO 1 200 (by decide) (by decide) ha, Option.bind_some, if_pos rfl]
  · have i200 : fn_X12_in (nI (1 + j)) 1 200 = some 1 := rt_inI (a := 1) (n := 200) (j := j) (by decide) hj
    generalize hne : 1 + j = n at *
    have hc : ∀ {x y : Option (Int32 × ro_Mem)}, (if nI n < 1 then x else if 200 < nI n then x else y) = y := fun {x y} => by
      rw [if_neg (show ¬ nI n < 1 from nI_nlt (b := 1) (by omega) (by omega)), if_neg (show ¬ (200 : Int32) < nI n from nI_nlt (a := 200) (by omega) (by decide))]
    by_cases cT : n ≤ T
    · obtain ⟨b, eb⟩ : ∃ b : Nat → Nat, b = fun i => nn (μ 61 i) := ⟨_, rfl⟩
      have hb : ∀ i, i < n → μ 61 i = nI (b i) ∧ b i < 256 := fun i hi => by
        obtain ⟨-, x, hx, ex⟩ := t3 i (by omega)
        rw [eb]
        show μ 61 i = nI (nn (μ 61 i)) ∧ nn (μ 61 i) < 256
        rw [ex, nn_nI (by omega)]
        exact ⟨rfl, hx⟩
      obtain ⟨⟨s, hs, u1, u0⟩, hwSW⟩ := hI.2.2.2.1
      obtain ⟨o0, eo⟩ : ∃ o0, o0 = 59 - s := ⟨_, rfl⟩
      have ho : o0 + 5 < 60 := by omega
      have ho2 : (o0 = 15 ∨ o0 = 44) ∧ 59 - o0 = s ∧ ¬ o0 = s := by omega
      have shO : ro_sh o0 = (0, 5) := by rcases ho2.1 with e | e <;> rw [e] <;> decide +kernel
      have shS : ro_sh s = (0, 5) := by rcases hs with e | e <;> rw [e] <;> decide +kernel
      rw [← eo] at u0
      -- the class
      obtain ⟨q4, e4⟩ : ∃ q4, q4 = ro_set (ro_set (ro_set μ 60 2 0) 60 3 (nI n)) 60 4 0 := ⟨_, rfl⟩
      have n4 : ∀ o, ¬ o = 60 → q4 o = μ o := fun o h => by rw [e4, ro_set_ne _ _ _ h, ro_set_ne _ _ _ h, ro_set_ne _ _ _ h]
      have hst : fn_X8_startReading (nI n) μ = some q4 := by
        unfold fn_X8_startReading
        rw [ro_lt, ro_set_same, pk_un (show ¬ 1 = 2 by decide), t2, rt_mnn (by omega) (by omega), Nat.min_eq_left cT, ro_lt, ro_lt, e4]
      have hTp : Tp b n q4 := ⟨by rw [e4, ro_set_same, pk_un (by decide), ro_set_same, pk_us], by omega, fun i hi => by rw [n4 61 (by decide)]; exact hb i hi⟩
      have rf4 : ro_rf q4 0 3 = o0 := by
        show (q4 0 3).toNatClampNeg = o0
        rw [n4 0 (by decide), u0, nI_clamp (by omega)]
      have rfOf : ∀ M : ro_Mem, M 1 1 = nI s → ro_rf M 1 1 = s := fun M h => by
        show (M 1 1).toNatClampNeg = s
        rw [h, nI_clamp (by omega)]
      have hcls : fn_X11_score (nI n) μ = ((fn_X5_readFrom o0 q4).bind fun q7 => ro_lt (ro_set q7.2 60 1 0) fun m9 => if q7.1 ≤ 0 then (some (q7.1, m9)) else (if ro_sh (ro_rf m9 1 1) = (0, 5) then (if ro_sh (ro_rf m9 0 3) = (0, 5) then (ro_lt (ro_set m9 1 1 (nI (ro_rf m9 0 3))) fun m14 => ro_lt (ro_set m14 0 3 (nI (ro_rf m9 1 1))) fun m16 => ro_lt (ro_set m16 0 7 1) fun m18 => some (q7.1, m18)) else none) else none)) := by
        unfold fn_X11_score
        rw [hc, t2, if_pos (nI_le cT (by omega)), hst, Option.bind_some, rf4, if_pos shO]
      have h2 : q4 60 2 = 0 := by rw [e4, ro_set_same, pk_un (by decide), ro_set_same, pk_un (by decide), ro_set_same, pk_us]
      have h4 : q4 60 4 = 0 := by rw [e4, ro_set_same, pk_us]
      -- the reference, over whatever the class leaves
      have href : ∀ M1 : ro_Mem, M1 207 = μ 207 → M1 217 = μ 217 → ∃ m7, RT b n m7 ∧ m7 207 14 = 0 ∧ (∀ o, ¬ o = 207 → m7 o = M1 o) ∧ (∀ k, ¬ k = 14 → ¬ k = 15 → m7 207 k = μ 207 k) ∧ fn_X12_score (nI n) M1 = ((fn_X12_readsScore m7).bind fun q9 => ro_lt (ro_set q9.2 207 13 0) fun m11 => if q9.1 = 0 then (some (m11 207 16, m11)) else (ro_lt (ro_set m11 207 18 (m11 207 21)) fun m14 => ro_lt (ro_set m14 207 19 (m14 207 22)) fun m16 => ro_lt (ro_set m16 207 20 (m16 207 23)) fun m18 => (fl_X12_score_76 (0, m18)).bind fun q32 => some (q32 207 18, q32))) := by
        intro M1 h1 h3
        refine ⟨ro_set (ro_set M1 207 14 0) 207 15 (nI n), ⟨by rw [ro_set_same, pk_us], by omega, fun i hi => ?_⟩, by rw [ro_set_same, pk_un (by decide), ro_set_same, pk_us], fun o ho => by rw [ro_set_ne _ _ _ ho, ro_set_ne _ _ _ ho], fun k k1 k2 => by rw [ro_set_same, pk_un k2, ro_set_same, pk_un k1, h1], ?_⟩
        · rw [ro_set_ne _ _ _ (by decide), ro_set_ne _ _ _ (by decide), h3, (t3 i (by omega)).1]
          exact hb i hi
        · unfold fn_X12_score
          rw [i200, Option.bind_some, if_neg rt_10, h1, t1, t2, if_pos (nI_le cT (by omega)), ro_lt, ro_lt]
      have hiC := hI.2.2.2.2.1
      have hiW := hI.2.2.2.2.2.1
      have hiE := hI.2.2.2.2.2.2.1
      rcases rt_readFrom ho hTp h2 h4 with ⟨e, M', x1, x2, x3, x4⟩ | ⟨N, B, A, R, p, M', x1, x2, x3⟩
      · -- a fault
        rw [x2, Option.bind_some, ro_lt, if_pos x4] at hcls
        obtain ⟨m9, e9⟩ : ∃ m9, m9 = ro_set M' 60 1 0 := ⟨_, rfl⟩
        have hcls : fn_X11_score (nI n) μ = some (e, m9) := by rw [e9]; exact hcls
        have n9 : ∀ o, ¬ o = 60 → ¬ (o0 ≤ o ∧ o ≤ o0 + 5) → m9 o = μ o := fun o h1 h3 => by rw [e9, ro_set_ne _ _ _ h1, x3.1 o h1 h3, n4 o h1]
        obtain ⟨m7, r1, r2, r3, r4, r5⟩ := href m9 (n9 207 (by decide) (by omega)) (n9 217 (by decide) (by omega))
        rcases rt_readsScore r1 r2 with ⟨e', M2, y1, y2, y3, y4⟩ | ⟨N, B, A, R, p, M2, y1, -, -⟩
        · rw [x1] at y1
          cases Sum.inl.inj y1
          obtain ⟨m11, e11⟩ : ∃ m11, m11 = ro_set M2 207 13 0 := ⟨_, rfl⟩
          rw [y2, Option.bind_some, ro_lt, if_pos rfl] at r5
          have r5 : fn_X12_score (nI n) m9 = some (m11 207 16, m11) := by rw [e11]; exact r5
          have h16 : m11 207 16 = e := by rw [e11, ro_set_same, pk_un (by decide)]; exact y4
          rw [h16] at r5
          have n11 : ∀ o, ¬ o = 60 → ¬ (o0 ≤ o ∧ o ≤ o0 + 5) → ¬ o = 207 → ¬ (223 ≤ o ∧ o ≤ 227) → m11 o = μ o := fun o h1 h3 h5 h6 => by rw [e11, ro_set_ne _ _ _ h5, y3.1 o h5 h6, r3 o h5, n9 o h1 h3]
          have k11 : ∀ k, ¬ (13 ≤ k ∧ k ≤ 17) → ¬ (21 ≤ k ∧ k ≤ 23) → m11 207 k = μ 207 k := fun k h1 h3 => by rw [e11, ro_set_same, pk_un (by omega), y3.2 k (by omega) (by omega) (by omega) (by omega), r4 k (by omega) (by omega)]
          have rf1 : ro_rf m11 1 1 = ro_rf μ 1 1 := by show (m11 1 1).toNatClampNeg = (μ 1 1).toNatClampNeg; rw [n11 1 (by decide) (by omega) (by decide) (by omega)]
          have rfs : ro_rf μ 1 1 = s := rfOf μ u1
          have hsc : iv_sc m11 = iv_sc μ := by
            funext x
            unfold iv_sc
            by_cases c : x ≤ 5
            · rw [if_pos c, if_pos c, rf1, rfs]
              exact n11 _ (by omega) (by omega) (by omega) (by omega)
            · rw [if_neg c, if_neg c]
          have hlw : iv_lw m11 = iv_lw μ := cg_lw hI.2.2.2.1 (n11 1 (by decide) (by omega) (by decide) (by omega)) (fun o a b => n11 o (by omega) (by omega) (by omega) (by omega)) (fun o a b => n11 o (by omega) (by omega) (by omega) (by omega))
          refine ⟨e, m9, m11, hcls, r5, hI.reread (fun o ho => n11 o (by omega) (by omega) (by omega) (by omega)) (by rw [n11 0 (by decide) (by omega) (by decide) (by omega)]) (fun k hk => k11 k (by omega) (by omega)) ?_ (by rw [e11, ro_set_same, pk_us]) ?_ ?_ ?_ ?_⟩
          · rw [e11, ro_set_ne _ _ _ (by decide), y3.1 60 (by decide) (by omega), r3 60 (by decide), e9, ro_set_same, pk_us]
          · exact cg_SW hI.2.2.2.1 (by rw [n11 0 (by decide) (by omega) (by decide) (by omega)]) (n11 1 (by decide) (by omega) (by decide) (by omega)) (n11 50 (by decide) (by omega) (by decide) (by omega))
          · rw [hsc, cg_mc (fun o a b => n11 o (by omega) (by omega) (by omega) (by omega)), k11 18 (by omega) (by omega), k11 19 (by omega) (by omega), k11 20 (by omega) (by omega)]
            exact hiC
          · rw [hlw, cg_mw (fun o a b => n11 o (by omega) (by omega) (by omega) (by omega)), k11 38 (by omega) (by omega)]
            exact hiW
          · rw [n11 0 (by decide) (by omega) (by decide) (by omega)]
            rcases hiE with h | ⟨h, he⟩
            · exact Or.inl h
            · refine Or.inr ⟨h, ?_⟩
              unfold iv_eve at *
              have g : ∀ o, ((2 ≤ o ∧ o ≤ 9) ∨ (63 ≤ o ∧ o ≤ 67)) → m11 o = μ o := fun o hh => n11 o (by omega) (by omega) (by omega) (by omega)
              rw [hsc, hlw, g 2 (by omega), g 3 (by omega), g 4 (by omega), g 5 (by omega), g 6 (by omega), g 7 (by omega), g 8 (by omega), g 9 (by omega), g 63 (by omega), g 64 (by omega), g 65 (by omega), g 66 (by omega), g 67 (by omega)]
              exact he
        · rw [x1] at y1; cases y1
      · -- a score
        obtain ⟨g1, g2, g3, g4, g5, g6⟩ := ps_ok 33 0 0 1 1 (fun _ _ => 0) N B A R x1 (by omega) (by omega) (by omega) (by omega) (by omega) ⟨fun i h => absurd h (by omega), fun i h => absurd h (by omega)⟩ (fun x h => absurd h (by omega))
        obtain ⟨f0, f1, f5, f6, f7, fR⟩ := x3
        obtain ⟨m9, e9⟩ : ∃ m9, m9 = ro_set M' 60 1 0 := ⟨_, rfl⟩
        have n9 : ∀ o, ¬ o = 60 → m9 o = M' o := fun o h1 => by rw [e9, ro_set_ne _ _ _ h1]
        have m9μ : ∀ o, ¬ o = 60 → ¬ (o0 ≤ o ∧ o ≤ o0 + 5) → m9 o = μ o := fun o h1 h3 => by rw [n9 o h1, f0.1 o h1 h3, n4 o h1]
        have rf9 : ro_rf m9 1 1 = s := rfOf m9 (by rw [m9μ 1 (by decide) (by omega)]; exact u1)
        have rf90 : ro_rf m9 0 3 = o0 := by
          show (m9 0 3).toNatClampNeg = o0
          rw [m9μ 0 (by decide) (by omega), u0, nI_clamp (by omega)]
        obtain ⟨M1, e1⟩ : ∃ M1, M1 = ro_set (ro_set (ro_set m9 1 1 (nI o0)) 0 3 (nI s)) 0 7 1 := ⟨_, rfl⟩
        have hcls : fn_X11_score (nI n) μ = some (nI N, M1) := by
          rw [hcls, x2, Option.bind_some, ro_lt]
          show (if nI N ≤ 0 then some (nI N, ro_set M' 60 1 0) else if ro_sh (ro_rf (ro_set M' 60 1 0) 1 1) = (0, 5) then _ else none) = _
          rw [if_neg (show ¬ nI N ≤ 0 from nI_ge (a := 0) (by omega) (by omega)), ← e9, rf9, if_pos shS, rf90, if_pos shO, ro_lt, ro_lt, ro_lt, ← e1]
        have n1 : ∀ o, ¬ o = 0 → ¬ o = 1 → M1 o = m9 o := fun o h1 h3 => by rw [e1, ro_set_ne _ _ _ h1, ro_set_ne _ _ _ h1, ro_set_ne _ _ _ h3]
        have M1μ : ∀ o, ¬ o = 0 → ¬ o = 1 → ¬ o = 60 → ¬ (o0 ≤ o ∧ o ≤ o0 + 5) → M1 o = μ o := fun o h1 h3 h5 h7 => by rw [n1 o h1 h3, m9μ o h5 h7]
        obtain ⟨m7, r1, r2, r3, r4, r5⟩ := href M1 (M1μ 207 (by decide) (by decide) (by decide) (by omega)) (M1μ 217 (by decide) (by decide) (by decide) (by omega))
        rcases rt_readsScore r1 r2 with ⟨e', M2, y1, -, -, -⟩ | ⟨N', B', A', R', p', M2, y1, y2, y3⟩
        · rw [x1] at y1; cases y1
        · rw [x1] at y1
          have h1 := Prod.mk.inj (Sum.inr.inj y1)
          have h3 := Prod.mk.inj h1.2
          have h5 := Prod.mk.inj h3.2
          rw [← h1.1, ← h3.1, ← h5.1, ← h5.2] at y3
          clear y1 h1 h3 h5
          obtain ⟨z0, z1, z2, z3, z4, z5⟩ := y3
          obtain ⟨m18, e18⟩ : ∃ m18, m18 = ro_set (ro_set (ro_set (ro_set M2 207 13 0) 207 18 (nI N)) 207 19 (nI B)) 207 20 (nI A) := ⟨_, rfl⟩
          have n18 : ∀ o, ¬ o = 207 → m18 o = M2 o := fun o h => by rw [e18, ro_set_ne _ _ _ h, ro_set_ne _ _ _ h, ro_set_ne _ _ _ h, ro_set_ne _ _ _ h]
          have k18 : ∀ k, ¬ k = 13 → ¬ (18 ≤ k ∧ k ≤ 20) → m18 207 k = M2 207 k := fun k h1 h3 => by rw [e18, ro_set_same, pk_un (by omega), ro_set_same, pk_un (by omega), ro_set_same, pk_un (by omega), ro_set_same, pk_un h1]
          have a18 : m18 207 18 = nI N := by rw [e18, ro_set_same, pk_un (by decide), ro_set_same, pk_un (by decide), ro_set_same, pk_us]
          have a19 : m18 207 19 = nI B := by rw [e18, ro_set_same, pk_un (by decide), ro_set_same, pk_us]
          have a20 : m18 207 20 = nI A := by rw [e18, ro_set_same, pk_us]
          have a13 : m18 207 13 = 0 := by rw [e18, ro_set_same, pk_un (by decide), ro_set_same, pk_un (by decide), ro_set_same, pk_un (by decide), ro_set_same, pk_us]
          obtain ⟨Q, w1, w2, w3⟩ := rt_copyScore (m := m18) (R := R) g2 a18 (fun j i j1 j5 hi => by rw [n18 _ (by omega)]; exact z5 j i j1 j5 hi)
          have r5 : fn_X12_score (nI n) M1 = some (nI N, Q) := by
            rw [r5, y2, Option.bind_some, ro_lt]
            show (if (1 : Int32) = 0 then _ else _) = _
            rw [if_neg rt_10]
            show (ro_lt (ro_set (ro_set M2 207 13 0) 207 18 (ro_set M2 207 13 0 207 21)) fun m14 => ro_lt (ro_set m14 207 19 (m14 207 22)) fun m16 => ro_lt (ro_set m16 207 20 (m16 207 23)) fun m18 => (fl_X12_score_76 (0, m18)).bind fun q32 => some (q32 207 18, q32)) = _
            rw [show ro_set M2 207 13 0 207 21 = nI N by rw [ro_set_same, pk_un (by decide)]; exact z2, ro_lt, show ro_set (ro_set M2 207 13 0) 207 18 (nI N) 207 22 = nI B by rw [ro_set_same, pk_un (by decide), ro_set_same, pk_un (by decide)]; exact z3, ro_lt, show ro_set (ro_set (ro_set M2 207 13 0) 207 18 (nI N)) 207 19 (nI B) 207 23 = nI A by rw [ro_set_same, pk_un (by decide), ro_set_same, pk_un (by decide), ro_set_same, pk_un (by decide)]; exact z4, ro_lt, ← e18, w1, Option.bind_some, w2 207 (by omega), a18]
          have nQ : ∀ o, ¬ o = 207 → ¬ (218 ≤ o ∧ o ≤ 227) → Q o = M1 o := fun o h1 h3 => by rw [w2 o (by omega), n18 o h1, z0.1 o h1 (by omega), r3 o h1]
          have Qμ : ∀ o, ¬ o = 0 → ¬ o = 1 → ¬ o = 60 → ¬ (o0 ≤ o ∧ o ≤ o0 + 5) → ¬ o = 207 → ¬ (218 ≤ o ∧ o ≤ 227) → Q o = μ o := fun o h1 h3 h5 h7 h8 h9 => by rw [nQ o h8 h9, M1μ o h1 h3 h5 h7]
          have kQ : ∀ k, ¬ (13 ≤ k ∧ k ≤ 23) → Q 207 k = μ 207 k := fun k hk => by rw [w2 207 (by omega), k18 k (by omega) (by omega), z0.2 k (by omega) (by omega) (by omega) (by omega), r4 k (by omega) (by omega)]
          have Q11 : Q 1 1 = nI o0 := by rw [nQ 1 (by decide) (by omega), e1, ro_set_ne _ _ _ (by decide), ro_set_ne _ _ _ (by decide), ro_set_same, pk_us]
          have Q12 : Q 1 2 = μ 1 2 := by rw [nQ 1 (by decide) (by omega), e1, ro_set_ne _ _ _ (by decide), ro_set_ne _ _ _ (by decide), ro_set_same, pk_un (by decide), m9μ 1 (by decide) (by omega)]
          have Q0 : ∀ k, ¬ k = 3 → ¬ k = 7 → Q 0 k = μ 0 k := fun k h1 h3 => by rw [nQ 0 (by decide) (by omega), e1, ro_set_same, pk_un h3, ro_set_same, pk_un h1, ro_set_ne _ _ _ (by decide), m9μ 0 (by decide) (by omega)]
          have Q03 : Q 0 3 = nI s := by rw [nQ 0 (by decide) (by omega), e1, ro_set_same, pk_un (by decide), ro_set_same, pk_us]
          have Q07 : Q 0 7 = 1 := by rw [nQ 0 (by decide) (by omega), e1, ro_set_same, pk_us]
          have rfQ : ro_rf Q 1 1 = o0 := by show (Q 1 1).toNatClampNeg = o0; rw [Q11, nI_clamp (by omega)]
          have Qs : ∀ x, x ≤ 5 → iv_sc Q x = M' (o0 + x) := fun x hx => by
            unfold iv_sc
            rw [if_pos hx, rfQ, nQ _ (by omega) (by omega), n1 _ (by omega) (by omega), n9 _ (by omega)]
          have Qm : ∀ x, 1 ≤ x → x ≤ 5 → iv_mc Q x = Q (217 + x) := fun x h1 h5 => by unfold iv_mc; rw [if_pos ⟨h1, h5⟩]
          have hlw : iv_lw Q = iv_lw μ := by
            have hrw : ro_rf Q 1 2 = ro_rf μ 1 2 := by show (Q 1 2).toNatClampNeg = (μ 1 2).toNatClampNeg; rw [Q12]
            have hL := (cg_rf hI.2.2.2.1).2
            funext x
            unfold iv_lw
            by_cases c : x ≤ 6
            · rw [if_pos c, if_pos c, hrw]
              exact Qμ _ (by omega) (by omega) (by omega) (by omega) (by omega) (by omega)
            · rw [if_neg c, if_neg c]
          refine ⟨nI N, M1, Q, hcls, r5, hI.reread (fun o ho => Qμ o (by omega) (by omega) (by omega) (by omega) (by omega) (by omega)) (Q0 2 (by decide) (by decide)) (fun k hk => kQ k (by omega)) ?_ (by rw [w2 207 (by omega)]; exact a13) ⟨⟨o0, ho2.1, Q11, by rw [Q03, ho2.2.1]⟩, ?_⟩ ?_ ?_ (Or.inl Q07)⟩
          · rw [nQ 60 (by decide) (by omega), n1 60 (by decide) (by decide), e9, ro_set_same, pk_us]
          · rw [Q12, Qμ 50 (by decide) (by decide) (by decide) (by omega) (by decide) (by omega)]
            exact hwSW
          · have q18 : Q 207 18 = nI N := by rw [w2 207 (by omega), a18]
            have q19 : Q 207 19 = nI B := by rw [w2 207 (by omega), a19]
            have q20 : Q 207 20 = nI A := by rw [w2 207 (by omega), a20]
            have i5 : iv_sc Q 0 5 = nI N := by rw [Qs 0 (by omega)]; exact f5
            have i6 : iv_sc Q 0 6 = nI B := by rw [Qs 0 (by omega)]; exact f6
            have i7 : iv_sc Q 0 7 = nI A := by rw [Qs 0 (by omega)]; exact f7
            have iR : ∀ j i, 1 ≤ j → j ≤ 5 → i < N → iv_sc Q j i = nI (R j i) := fun j i j1 j5 hi => by rw [Qs j j5]; exact fR j i j1 j5 hi
            refine ⟨by rw [q18, i5], by rw [q19, i6], by rw [q20, i7], N, B, A, g2, g3, g4, i5, i6, i7, fun j i j1 j5 hi => by rw [Qm j j1 j5, w3 j i j1 j5 hi, iR j i j1 j5 hi], R 1, R 2, R 3, R 4, R 5, fun i hi => ?_, fun i hi => g5.2 i hi, g6⟩
            obtain ⟨c1, c2, c3, c4, c5, c6⟩ := g5.1 i hi
            exact ⟨iR 1 i (by omega) (by omega) hi, c1, iR 2 i (by omega) (by omega) hi, c2, iR 3 i (by omega) (by omega) hi, c3, c4, iR 4 i (by omega) (by omega) hi, c5, iR 5 i (by omega) (by omega) hi, c6⟩
          · rw [hlw, cg_mw (fun o a b => Qμ o (by omega) (by omega) (by omega) (by omega) (by omega) (by omega)), kQ 38 (by omega)]
            exact hiW
    · refine ⟨-1, μ, μ, ?_, ?_, hI⟩
      · unfold fn_X11_score
        rw [hc, t2, if_neg (nI_ge (by omega) (by omega))]
      · unfold fn_X12_score
        rw [i200, Option.bind_some, if_neg rt_10, t1, t2, if_neg (nI_ge (by omega) (by omega))]
