theorem cn_pos : ∀ G, G < 1024 → ¬ G = 0 → 1 ≤ cn_ G := by decide +kernel
theorem op_seated (a b c d : Int32) (μ : ro_Mem) (hI : Inv μ) : ∃ r μ1 μ2, fn_X11_seated a b c d μ = some (r, μ1) ∧ fn_X12_seated a b c d μ1 = some (r, μ2) ∧ Inv μ2 := by
  obtain ⟨N, hw⟩ := hI.wd
  obtain ⟨t1, ⟨T, hT, t2⟩, t3⟩ := hI.2.2.1
  have hgst := hw.gst
  have hroute : ∃ t0 : Int32, ∀ M, fn_X12_seated a b c d M = fj_X12_seated_39 a b c d t0 M := by
    unfold fn_X12_seated fj_X12_seated_34 fj_X12_seated_38
    by_cases c1 : d = 10
    · exact ⟨1, fun M => if_pos c1⟩
    · by_cases c2 : d = 11
      · exact ⟨1, fun M => by rw [if_neg c1, if_pos c2]⟩
      · cases e : fn_X12_in d 0 9 with
        | none => rw [rt_inn] at e; cases e
        | some q =>
          by_cases c3 : q = 0
          · exact ⟨0, fun M => by rw [if_neg c1, if_neg c2, Option.bind_some, if_pos c3]⟩
          · cases e2 : fn_X12_has b d with
            | none =>
              unfold fn_X12_has at e2
              split at e2 <;> cases e2
            | some q2 =>
              by_cases c4 : q2 = 0
              · exact ⟨0, fun M => by rw [if_neg c1, if_neg c2, Option.bind_some, if_neg c3, Option.bind_some, if_pos c4]⟩
              · exact ⟨1, fun M => by rw [if_neg c1, if_neg c2, Option.bind_some, if_neg c3, Option.bind_some, if_neg c4]⟩
  obtain ⟨s0, hs0⟩ := hroute
  rcases rt_ix a 4 (by decide) with ha | ⟨a, ha, rfl⟩
  · refine ⟨-1, μ, μ, ?_, ?_, hI⟩
    · unfold fn_X11_seated
      rw [(rt_actN ha).1, Option.bind_some, if_pos rfl]
    · rw [hs0]
      unfold fj_X12_seated_39
      rw [(rt_actN ha).2, Option.bind_some, if_pos rfl]
  · by_cases cm : (b &&& (μ 2 11 ^^^ (-1))) = 0
    · obtain ⟨G, hG, rfl, hGt⟩ := rt_guestBits hw.1.2.2.2.2.2.1.2.1 cm
      by_cases c0 : G = 0
      · refine ⟨-1, μ, μ, ?_, ?_, hI⟩
        · unfold fn_X11_seated fn_X11_areGuests
          rw [(rt_actY ha).1, Option.bind_some, if_neg rt_10, c0, if_pos (show nI 0 = 0 from rfl), Option.bind_some, if_pos rfl]
        · rw [hs0]
          unfold fj_X12_seated_39
          rw [(rt_actY ha).2, Option.bind_some, if_neg rt_10, c0, if_pos (show nI 0 < 1 by decide)]
      · have hc1 := cn_pos G hG c0
        have hc16 := cn_le G
        obtain ⟨n, hn⟩ : ∃ n, n = cn_ G := ⟨_, rfl⟩
        have hcb : cb_ G 10 = n := by rw [hn]; exact cb_10 hG
        rw [← hn] at hc1 hc16
        have clsH : fn_X11_seated (nI a) (nI G) c d μ = if c = nI n then (if 8 < c then (some ((-1), μ)) else (if c ≤ (μ 60 1) then (if d < 0 then (fj_X11_seated_68 (nI a) (nI G) c d μ) else (if 10 ≤ d then (fj_X11_seated_68 (nI a) (nI G) c d μ) else (if ((nI G >>> (d &&& 31)) &&& 1) = 1 then (fj_X11_seated_69 (nI a) (nI G) c d 1 μ) else (fj_X11_seated_68 (nI a) (nI G) c d μ)))) else (some ((-1), μ)))) else (some ((-1), μ)) := by
          unfold fn_X11_seated fn_X11_areGuests
          rw [(rt_actY ha).1, Option.bind_some, if_neg rt_10, if_neg (nI_ne0 (by omega) (by omega)), if_pos cm, Option.bind_some, if_neg rt_10, rt_bitCount (by omega), Option.bind_some, ← hn]
        have refH : fj_X12_seated_39 (nI a) (nI G) c d s0 μ = if nI n = c then ((fn_X12_in c 1 8).bind fun q10 => if q10 = 0 then (some ((-1), μ)) else (if s0 = 0 then (some ((-1), μ)) else (if c ≤ (μ 207 13) then fj_X12_seated_39 (nI a) (nI G) c d s0 μ else (some ((-1), μ))))) else (some ((-1), μ)) := by
          by_cases c2 : nI n = c
          · rw [if_pos c2]
            unfold fj_X12_seated_39
            rw [(rt_actY ha).2, Option.bind_some, if_neg rt_10, if_neg (show ¬ nI G < 1 from nI_nlt (b := 1) (by omega) (by omega)), hgst, if_pos cm, rt_bitsM (by omega), Option.bind_some, ← hn, if_pos c2]
            rw [rt_inn, Option.bind_some, Option.bind_some]
            by_cases c3 : (if c < 1 ∨ 8 < c then (0 : Int32) else 1) = 0
            · rw [if_pos c3, if_pos c3]
            · rw [if_neg c3, if_neg c3]
              by_cases c4 : s0 = 0
              · rw [if_pos c4, if_pos c4]
              · rw [if_neg c4, if_neg c4]
                by_cases c5 : c ≤ μ 207 13
                · rw [if_pos c5, if_pos c5]
                · rw [if_neg c5, if_neg c5]
          · rw [if_neg c2]
            unfold fj_X12_seated_39
            rw [(rt_actY ha).2, Option.bind_some, if_neg rt_10, if_neg (show ¬ nI G < 1 from nI_nlt (b := 1) (by omega) (by omega)), hgst, if_pos cm, rt_bitsM (by omega), Option.bind_some, ← hn, if_neg c2]
        by_cases cc : c = nI n
        · subst cc
          rw [if_pos rfl] at clsH refH
          by_cases c8 : n ≤ 8
          · rw [if_neg (show ¬ (8 : Int32) < nI n from nI_nlt (a := 8) c8 (by decide)), t2] at clsH
            have hin : fn_X12_in (nI n) 1 8 = some 1 := by
              have := rt_inI (a := 1) (n := 8) (j := n - 1) (by decide) (by omega)
              rw [show 1 + (n - 1) = n by omega] at this
              exact this
            rw [hin, Option.bind_some, if_neg rt_10, t1, t2] at refH
            by_cases cT : n ≤ T
            · rw [if_pos (nI_le cT (by omega))] at clsH
              -- what is asked for
              have hd : ((d = 10 ∨ d = 11) ∨ ∃ w, w < 10 ∧ d = nI w ∧ G / 2 ^ w % 2 = 1) ∨ (¬ d = 10 ∧ ¬ d = 11 ∧ ∀ w, w < 10 → d = nI w → G / 2 ^ w % 2 = 0) := by
                by_cases c1 : d = 10 ∨ d = 11
                · exact Or.inl (Or.inl c1)
                · by_cases c2 : ∃ w, w < 10 ∧ d = nI w ∧ G / 2 ^ w % 2 = 1
                  · exact Or.inl (Or.inr c2)
                  · refine Or.inr ⟨fun q => c1 (Or.inl q), fun q => c1 (Or.inr q), fun w hw hd => ?_⟩
                    have : ¬ G / 2 ^ w % 2 = 1 := fun q => c2 ⟨w, hw, hd, q⟩
                    omega
              have in9 : ∀ w, w < 10 → fn_X12_in (nI w) 0 9 = some 1 := fun w hw => by
                have := rt_inI (a := 0) (n := 10) (j := w) (by decide) hw
                rwa [Nat.zero_add] at this
              rcases hd with hd | ⟨d1, d2, d3⟩
              · -- the good case
                have hgood : ∃ t0 : Int32, fn_X11_seated (nI a) (nI G) (nI n) d μ = fj_X11_seated_92 (nI a) (nI G) (nI n) d t0 μ ∧ ((t0 = 0 ∧ (d = 10 ∨ d = 11)) ∨ (t0 = 1 ∧ ∃ w, w < 10 ∧ d = nI w ∧ G / 2 ^ w % 2 = 1)) ∧ ∀ M, fn_X12_seated (nI a) (nI G) (nI n) d M = fj_X12_seated_39 (nI a) (nI G) (nI n) d 1 M := by
                  rcases hd with hd | ⟨w, w1, rfl, w2⟩
                  · refine ⟨0, ?_, Or.inl ⟨rfl, hd⟩, fun M => ?_⟩
                    · rw [clsH]
                      unfold fj_X11_seated_68 fj_X11_seated_69
                      rcases hd with rfl | rfl
                      · rw [if_neg (show ¬ (10 : Int32) < 0 by decide), if_pos (show (10 : Int32) ≤ 10 by decide), if_pos rfl]
                      · rw [if_neg (show ¬ (11 : Int32) < 0 by decide), if_pos (show (10 : Int32) ≤ 11 by decide), if_neg (show ¬ (11 : Int32) = 10 by decide), if_pos rfl]
                    · unfold fn_X12_seated fj_X12_seated_34
                      rcases hd with rfl | rfl
                      · rw [if_pos rfl]
                      · rw [if_neg (show ¬ (11 : Int32) = 10 by decide), if_pos rfl]
                  · have n10 : ¬ nI w = 10 := fun q => by have := (nI_eq (a := w) (b := 10) (by omega) (by decide)).mp q; omega
                    have n11 : ¬ nI w = 11 := fun q => by have := (nI_eq (a := w) (b := 11) (by omega) (by decide)).mp q; omega
                    refine ⟨1, ?_, Or.inr ⟨rfl, w, w1, rfl, w2⟩, fun M => ?_⟩
                    · rw [clsH, if_neg (nI_pos (by omega)), if_neg (show ¬ (10 : Int32) ≤ nI w from nI_ge w1 (by decide)), rt_shr1 (by omega) (by omega), w2, if_pos (show nI 1 = 1 from rfl)]
                      unfold fj_X11_seated_69
                      rw [if_neg n10, if_neg n11, if_neg rt_10]
                    · unfold fn_X12_seated fj_X12_seated_34
                      rw [if_neg n10, if_neg n11, in9 w w1, Option.bind_some, if_neg rt_10, rt_has (by omega) (by omega), w2, Option.bind_some, if_neg (show ¬ nI 1 = 0 by decide)]
                obtain ⟨t0, g1, g2, g3⟩ := hgood
                obtain ⟨S, eS⟩ : ∃ S : Nat → Nat, S = fun t => nn (μ 61 t) := ⟨_, rfl⟩
                have hS : ∀ t, t < n → μ 61 t = nI (S t) ∧ S t < 256 := fun t ht => by
                  obtain ⟨-, x, hx, ex⟩ := t3 t (by omega)
                  rw [eS]
                  show μ 61 t = nI (nn (μ 61 t)) ∧ nn (μ 61 t) < 256
                  rw [ex, nn_nI (by omega)]
                  exact ⟨rfl, hx⟩
                obtain ⟨r, M1, m0, e1, he, h0, hf, h61, h217, h60, h13, hC⟩ := rt_seatedC (S := S) hI hw ha hG hcb hc1 c8 hGt hS g2
                obtain ⟨r', M2, e2, k11, k2, hB, hM⟩ := rt_seatedM (S := S) (v4 := d) (T := T) hI hw ha hG hcb hc1 c8 cT hT cm hGt (fun t ht => by
                  rw [(t3 t (by omega)).1]
                  exact hS t ht) h0 hf he h61 h217 h60 (by rw [h13, t1, t2])
                have same : M2 11 = μ 11 → M2 216 = μ 216 → Inv M2 := fun q1 q2 => by
                  have : (fun o => if o = 11 then μ 11 else if o = 216 then μ 216 else M2 o) = M2 := by
                    funext o
                    by_cases z1 : o = 11
                    · rw [if_pos z1, z1, q1]
                    · rw [if_neg z1]
                      by_cases z2 : o = 216
                      · rw [if_pos z2, z2, q2]
                      · rw [if_neg z2]
                  rw [this] at hB
                  exact hB
                rcases hC with ⟨⟨u, u1, u2⟩, rfl, b3⟩ | ⟨b1, hSd, rfl, b3⟩
                · rcases hM with ⟨-, rfl, m3⟩ | ⟨m1, -, -⟩
                  · exact ⟨-2, M1, M2, g1.trans e1, (g3 M1).trans e2, same (k11.trans b3) m3⟩
                  · rw [m1 u u1] at u2; cases u2
                · rcases hM with ⟨⟨u, u1, u2⟩, -, -⟩ | ⟨-, rfl, m3⟩
                  · rw [b1 u u1] at u2; cases u2
                  · refine ⟨_, M1, M2, g1.trans e1, (g3 M1).trans e2, ?_⟩
                    by_cases c11 : d = 11
                    · rw [if_pos c11] at b3 m3
                      rw [b3] at k11
                      have hN : N ≤ 32 := hw.2.2.2.2.2
                      have hr : ∀ h, h < n → rkF μ G h ≤ 99 := fun h hh => by
                        obtain ⟨y1, y2, -⟩ := gE_ok (G := G) (h := h) (by omega)
                        exact (hw.rk y1 (hGt _ y1 y2)).2.2.1
                      have hwt : ∀ q, q < n → wtF μ N a n S q ≤ 50688 := fun q _ => ev_wt_le μ 0 hN a _
                      have hq : ∀ h, h < n → qe_ n (rkF μ G) (wtF μ N a n S) h < n := fun h hh => ((se_ok c8 hr hwt h (by omega)).2.2.1 hh).1
                      have hbd : ∀ t, t < n → bd_ S t = false ∧ tk_ μ a G (S t) = false := fun t ht => Bool.or_eq_false_iff.mp (b1 t ht)
                      have hsF : ∀ h, h < n → ∃ t, t < n ∧ sF μ N a G n S h = S t := fun h hh => hSd.2.1 _ (hq h hh)
                      have hs96 : ∀ h, h < n → sF μ N a G n S h < 96 := fun h hh => by
                        obtain ⟨t, x1, x2⟩ := hsF h hh
                        rw [x2]
                        exact (bd_f (hbd t x1).1).1
                      obtain ⟨iU, iB, iM, iS, iR, iG, iN, iX⟩ := hB.1
                      have iG : iv_G (M2 10) (μ 11) (M2 215) (μ 216) (M2 2 11) (M2 207 2) := iG
                      have iG2 := iG.take (a := a) (s := sF μ N a G n S) ha hcb (by rw [k2]; exact hGt) hs96 (fun i j hi hj hij => by
                        have hqe : qe_ n (rkF μ G) (wtF μ N a n S) i = qe_ n (rkF μ G) (wtF μ N a n S) j := by
                          have hij : sq_ S n (qe_ n (rkF μ G) (wtF μ N a n S) i) = sq_ S n (qe_ n (rkF μ G) (wtF μ N a n S) j) := hij
                          rcases Nat.lt_trichotomy (qe_ n (rkF μ G) (wtF μ N a n S) i) (qe_ n (rkF μ G) (wtF μ N a n S) j) with z | z | z
                          · have := hSd.1 _ _ z (hq j hj); omega
                          · exact z
                          · have := hSd.1 _ _ z (hq i hi); omega
                        rcases Nat.lt_trichotomy i j with z | z | z
                        · exact absurd hqe (qe_inj c8 hr hwt z hj)
                        · exact z
                        · exact absurd hqe.symm (qe_inj c8 hr hwt z hi)) (fun x h hx hh hb hst => by
                        obtain ⟨t, x1, x2⟩ := hsF h hh
                        have h96 := hs96 h hh
                        obtain ⟨-, htk⟩ := hbd t x1
                        rw [← x2] at htk
                        have hsx : st_ μ a x = sF μ N a G n S h := by
                          unfold st_
                          rw [hst, nn_nI (by omega)]
                        unfold tk_ at htk
                        cases ew : who_ μ a (sF μ N a G n S h) with
                        | none => exact hw.who_none ha ew hx hsx
                        | some g =>
                          rw [ew] at htk
                          have htk := of_decide_eq_false htk
                          obtain ⟨y1, y2, -⟩ := hw.who_some ha h96 ew
                          have := hw.one ha y1 hx (y2.trans hsx.symm) (by omega)
                          rw [this] at htk
                          omega)
                      refine hB.calm ⟨iU, iB, iM, iS, iR, ?_, iN, iX⟩ hB.2.2.1 rfl rfl rfl (fun o ho => ?_) (fun k _ => rfl)
                      · rw [k11, m3]; exact iG2
                      · show M2 o = if o = 11 then μ 11 else if o = 216 then μ 216 else M2 o
                        rw [if_neg (by omega), if_neg (by omega)]
                    · rw [if_neg c11] at b3 m3
                      exact same (k11.trans b3) m3
              · refine ⟨-1, μ, μ, ?_, ?_, hI⟩
                · rw [clsH]
                  have e68 : fj_X11_seated_68 (nI a) (nI G) (nI n) d μ = some (-1, μ) := by
                    unfold fj_X11_seated_68 fj_X11_seated_69
                    rw [if_neg d1, if_neg d2, if_pos rfl]
                  rcases rt_ix d 10 (by decide) with h | ⟨w, w1, rfl⟩
                  · rw [e68]
                    exact rt_else h
                  · rw [if_neg (nI_pos (by omega)), if_neg (show ¬ (10 : Int32) ≤ nI w from nI_ge w1 (by decide)), rt_shr1 (by omega) (by omega), d3 w w1 rfl, if_neg (show ¬ nI 0 = 1 by decide), e68]
                · have e39 : fj_X12_seated_38 (nI a) (nI G) (nI n) d μ = some (-1, μ) := by
                    unfold fj_X12_seated_38 fj_X12_seated_39
                    rw [(rt_actY ha).2, Option.bind_some, if_neg rt_10, if_neg (show ¬ nI G < 1 from nI_nlt (b := 1) (by omega) (by omega)), hgst, if_pos cm, rt_bitsM (by omega), Option.bind_some, ← hn, if_pos rfl, hin, Option.bind_some, if_neg rt_10, if_pos rfl]
                  unfold fn_X12_seated
                  rw [if_neg d1, if_neg d2]
                  rcases rt_ix d 10 (by decide) with h | ⟨w, w1, rfl⟩
                  · rw [show fn_X12_in d 0 9 = some 0 from rt_inO 0 10 (by decide) (by decide) h, Option.bind_some, if_pos rfl, e39]
                  · rw [in9 w w1, Option.bind_some, if_neg rt_10, rt_has (by omega) (by omega), d3 w w1 rfl, Option.bind_some, if_pos (show nI 0 = 0 from rfl), e39]
            · refine ⟨-1, μ, μ, ?_, ?_, hI⟩
              · rw [clsH, if_neg (nI_ge (by omega) (by omega))]
              · rw [hs0, refH, if_neg (show ¬ nI n ≤ nI T from nI_ge (by omega) (by omega))]
                by_cases c5 : s0 = 0
                · rw [if_pos c5]
                · rw [if_neg c5]
          · refine ⟨-1, μ, μ, ?_, ?_, hI⟩
            · rw [clsH, if_pos (show (8 : Int32) < nI n from nI_lt (a := 8) (by omega) (by omega))]
            · rw [hs0, refH, show fn_X12_in (nI n) 1 8 = some 0 from rt_innN (Or.inr (show ¬ nI n ≤ 8 from nI_ge (a := 8) (by omega) (by omega))), Option.bind_some, if_pos rfl]
        · refine ⟨-1, μ, μ, ?_, ?_, hI⟩
          · rw [clsH, if_neg cc]
          · rw [hs0, refH, if_neg (fun q => cc q.symm)]
    · refine ⟨-1, μ, μ, ?_, ?_, hI⟩
      · unfold fn_X11_seated fn_X11_areGuests
        rw [(rt_actY ha).1, Option.bind_some, if_neg rt_10]
        by_cases c0 : b = 0
        · rw [if_pos c0, Option.bind_some, if_pos rfl]
        · rw [if_neg c0, if_neg cm, Option.bind_some, if_pos rfl]
      · rw [hs0]
        unfold fj_X12_seated_39
        rw [(rt_actY ha).2, Option.bind_some, if_neg rt_10, hgst]
        by_cases c0 : b < 1
        · rw [if_pos c0]
        · rw [if_neg c0, if_neg cm]
