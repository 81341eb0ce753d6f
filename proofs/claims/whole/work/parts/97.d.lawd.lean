-- ===== the class's numbers, factors, pieces and comparisons =====
def OutX (b : Nat → Nat) (n o0 : Nat) (m : ro_Mem) (t d : Nat) (s : Sx) (x : Option ro_Mem) : Prop := (∃ e M', Pr b n t d s (.inl e) ∧ x = some M' ∧ FE o0 m e M') ∨ ∃ s1 M', Pr b n t d s (.inr s1) ∧ x = some M' ∧ CL o0 m s1 M'
def GoodF (b : Nat → Nat) (n o0 : Nat) (m : ro_Mem) (t d : Nat) (F : ro_Mem → Option ro_Mem) : Prop := ∀ s M, s.p ≤ n → s.c ≤ s.p → CL o0 m s M → OutX b n o0 m t d s (F M)
section
variable {b : Nat → Nat} {n o0 : Nat} {m : ro_Mem}
theorem rt_readNumber {s : Sx} {M : ro_Mem} {d : Nat} (hs : Sp0 o0 m) (hT : Tp b n m) (h : CL o0 m s M) (hp : s.p < n) (hc : s.c ≤ s.p) (hd : ¬ dg_ b n s.p = none) : OutX b n o0 m 9 d s (fn_X3_readNumber M) := by
  have hn := hT.2.1
  have key : ∀ j k M fuel, k + j = 5 → j < fuel → (∀ i, i < k → ¬ dg_ b n (s.p + i) = none) → CL o0 m (s.to (s.p + k)) M → (∃ k' M', k ≤ k' ∧ k' ≤ 5 ∧ (∀ i, i < k' → ¬ dg_ b n (s.p + i) = none) ∧ dg_ b n (s.p + k') = none ∧ ro_loop (fun rec (s : Int32 × Int32 × ro_Mem) => fb_X3_readNumber_4 rec s.1 s.2.1 s.2.2) fuel (nI (nu_ b s.p k), nI k, M) = some (.inl (nI (nu_ b s.p k'), M')) ∧ CL o0 m (s.to (s.p + k')) M') ∨ ((∀ i, i < 6 → ¬ dg_ b n (s.p + i) = none) ∧ ∃ M', ro_loop (fun rec (s : Int32 × Int32 × ro_Mem) => fb_X3_readNumber_4 rec s.1 s.2.1 s.2.2) fuel (nI (nu_ b s.p k), nI k, M) = some (.inr (.inl M')) ∧ CL o0 m (s.to (s.p + 5)) M') := by
    intro j
    induction j with
    | zero =>
      intro k M fuel hk hf hd hM
      have hk : k = 5 := by omega
      subst hk
      cases fuel with
      | zero => omega
      | succ F =>
        have hb : ∀ {rec}, fb_X3_readNumber_4 rec (nI (nu_ b s.p 5)) (nI 5) M = if (0 : Int32) ≤ on_ (dg_ b n (s.p + 5)) then some (.inr (.inl M)) else some (.inl (nI (nu_ b s.p 5), M)) := fun {rec} => by
          unfold fb_X3_readNumber_4
          rw [if_neg (show ¬ (5 : Int32) < nI 5 by decide), rt_peekDigit (hM.1.tp hs hT) hM.2.1 (show s.p + 5 < 2 ^ 30 by omega), Option.bind_some, if_pos (show nI 5 = 5 from rfl)]
          rfl
        rw [show ro_loop (fun rec (s : Int32 × Int32 × ro_Mem) => fb_X3_readNumber_4 rec s.1 s.2.1 s.2.2) (F + 1) (nI (nu_ b s.p 5), nI 5, M) = fb_X3_readNumber_4 (ro_loop (fun rec (s : Int32 × Int32 × ro_Mem) => fb_X3_readNumber_4 rec s.1 s.2.1 s.2.2) F) (nI (nu_ b s.p 5)) (nI 5) M from rfl, hb]
        cases e : dg_ b n (s.p + 5) with
        | none => exact Or.inl ⟨5, M, by omega, by omega, hd, e, if_neg (show ¬ (0 : Int32) ≤ -1 by decide), hM⟩
        | some x =>
          have hx := (dg_lt e).1
          refine Or.inr ⟨fun i hi => ?_, M, if_pos (show (0 : Int32) ≤ nI x from nI_pos' (by omega)), hM⟩
          by_cases c : i = 5
          · rw [c, e]; intro z; cases z
          · exact hd i (by omega)
    | succ j ih =>
      intro k M fuel hk hf hd hM
      cases fuel with
      | zero => omega
      | succ F =>
        have hb : ∀ {rec}, fb_X3_readNumber_4 rec (nI (nu_ b s.p k)) (nI k) M = if (0 : Int32) ≤ on_ (dg_ b n (s.p + k)) then rec ((10 * nI (nu_ b s.p k)) + on_ (dg_ b n (s.p + k)), nI (k + 1), ro_set M 60 2 ((M 60 2) + 1)) else some (.inl (nI (nu_ b s.p k), M)) := fun {rec} => by
          unfold fb_X3_readNumber_4
          rw [if_neg (show ¬ (5 : Int32) < nI k from nI_nlt (a := 5) (by omega) (by decide)), rt_peekDigit (hM.1.tp hs hT) hM.2.1 (show s.p + k < 2 ^ 30 by omega), Option.bind_some, if_neg (show ¬ nI k = 5 from fun z => by have := (nI_eq (a := k) (b := 5) (by omega) (by decide)).mp z; omega), ro_lt, ro_lt, nI_1]
          rfl
        rw [show ro_loop (fun rec (s : Int32 × Int32 × ro_Mem) => fb_X3_readNumber_4 rec s.1 s.2.1 s.2.2) (F + 1) (nI (nu_ b s.p k), nI k, M) = fb_X3_readNumber_4 (ro_loop (fun rec (s : Int32 × Int32 × ro_Mem) => fb_X3_readNumber_4 rec s.1 s.2.1 s.2.2) F) (nI (nu_ b s.p k)) (nI k) M from rfl, hb]
        cases e : dg_ b n (s.p + k) with
        | none => exact Or.inl ⟨k, M, by omega, by omega, hd, e, if_neg (show ¬ (0 : Int32) ≤ -1 by decide), hM⟩
        | some x =>
          obtain ⟨hx, -, hx3⟩ := dg_lt e
          have hd' : ∀ i, i < k + 1 → ¬ dg_ b n (s.p + i) = none := fun i hi => by
            by_cases c : i = k
            · rw [c, e]; intro z; cases z
            · exact hd i (by omega)
          have hr := ih (k + 1) (ro_set M 60 2 ((M 60 2) + 1)) F (by omega) (by omega) hd' (hM.adv hs)
          have env : (10 : Int32) * nI (nu_ b s.p k) + nI x = nI (nu_ b s.p (k + 1)) := by
            show nI 10 * nI (nu_ b s.p k) + nI x = nI (10 * nu_ b s.p k + (b (s.p + k) - 48))
            rw [pk_mul, nI_add, hx3, Nat.add_sub_cancel_left]
          rw [show on_ (some x) = nI x from rfl, if_pos (show (0 : Int32) ≤ nI x from nI_pos' (by omega)), env]
          rcases hr with ⟨k', M', a1, a2, a3, a4, a5, a6⟩ | hr
          · exact Or.inl ⟨k', M', by omega, a2, a3, a4, a5, a6⟩
          · exact Or.inr hr
  have h0 : CL o0 m (s.to (s.p + 0)) M := h
  unfold fn_X3_readNumber
  rcases key 5 0 M ro_FU (by omega) (by decide) (fun i hi => absurd hi (by omega)) h0 with ⟨k', M', a1, a2, a3, a4, a5, a6⟩ | ⟨a1, M', a2, a3⟩
  · have a5 : fl_X3_readNumber_4 (0, 0, M) = some (.inl (nI (nu_ b s.p k'), M')) := a5
    have hk1 : 1 ≤ k' := by
      rcases Nat.eq_zero_or_pos k' with z | z
      · rw [z] at a4; exact absurd a4 hd
      · exact z
    obtain ⟨M'', e1, e2⟩ := rt_emitC (w := 8) (v := nu_ b s.p k') hs a6 (show s.c < 200 by omega)
    have e1 : fn_X2_emit o0 8 (nI (nu_ b s.p k')) M' = some (nI s.c, M'') := e1
    refine Or.inr ⟨_, M'', Pr_num hk1 a2 a3 a4, ?_, e2⟩
    rw [a5, Option.bind_some]
    show fj_X3_readNumber_62 (nI (nu_ b s.p k')) M' = _
    unfold fj_X3_readNumber_62
    rw [a6.1.rf hs, if_pos hs.sh, e1, Option.bind_some]
  · have a2 : fl_X3_readNumber_4 (0, 0, M) = some (.inr (.inl M')) := a2
    obtain ⟨M'', e1, e2⟩ := rt_failX (k := 2) hs a3
    refine Or.inl ⟨_, M'', Pr_numB a1, ?_, e2⟩
    rw [a2, Option.bind_some]
    show ((fn_X8_fail 2 (M' 60 2) M').bind fun q19 => some q19) = _
    rw [e1, Option.bind_some]
theorem rt_factX {d : Nat} {F1 : Int32 → Int32 → ro_Mem → Option ro_Mem} {F2 F3 F4 : Int32 → ro_Mem → Option ro_Mem} (hs : Sp0 o0 m) (hT : Tp b n m) (hd : d ≤ 6) (hC : d < 6 → GoodF b n o0 m 2 (d + 1) (F1 (nI 2) (nI (d + 1)))) : GoodF b n o0 m 9 d (fo_X3_readFactor F1 F2 F3 F4 (nI d)) := by
  intro s M hp hc h
  have hn := hT.2.1
  have hTM := h.1.tp hs hT
  unfold fo_X3_readFactor
  rw [rt_among ix_3 hTM h.2.1 (by omega), Option.bind_some]
  cases e1 : ca_ b n lt_ s.p with
  | some k =>
    obtain ⟨x1, x2⟩ := ca_some e1
    have hk := lt_le x2
    have ha := h.adv hs
    obtain ⟨M', y1, y2⟩ := rt_emitC (w := 9) (v := k) hs ha (show s.c < 200 by omega)
    have y1 : fn_X2_emit o0 9 (nI k) (ro_set M 60 2 (M 60 2 + 1)) = some (nI s.c, M') := y1
    refine Or.inr ⟨_, M', Pr_letter e1, ?_, y2⟩
    rw [show on_ (some k) = nI k from rfl, if_neg (nI_pos (by omega)), ro_lt, ha.1.rf hs, if_pos hs.sh, y1, Option.bind_some]
  | none =>
    rw [show on_ none = -1 from rfl, if_pos (show (-1 : Int32) < 0 by decide), rt_peekDigit hTM h.2.1 (by omega), Option.bind_some]
    cases e2 : dg_ b n s.p with
    | some x =>
      obtain ⟨hx, hxn, -⟩ := dg_lt e2
      rw [show on_ (some x) = nI x from rfl, if_neg (nI_pos (by omega))]
      rcases rt_readNumber (d := d) hs hT h hxn hc (by rw [e2]; intro z; cases z) with ⟨e, M', y1, y2, y3⟩ | ⟨s1, M', y1, y2, y3⟩
      · exact Or.inl ⟨e, M', y1, by rw [y2, Option.bind_some], y3⟩
      · exact Or.inr ⟨s1, M', y1, by rw [y2, Option.bind_some], y3⟩
    | none =>
      rw [show on_ none = -1 from rfl, if_pos (show (-1 : Int32) < 0 by decide), rt_peek hTM h.2.1 (by omega), Option.bind_some]
      by_cases c : s.p < n ∧ b s.p = 91
      · have e91 : ch_ b n s.p = 91 := by unfold ch_; rw [if_pos c.1, c.2]; rfl
        rw [if_pos e91]
        rcases rt_enter hs h hd (by omega) with ⟨cd, M', x1, x2⟩ | ⟨cd, M', x1, x2⟩
        · rw [x1, Option.bind_some, if_neg rt_10, nI_1]
          rcases hC cd s.adv M' (by show s.p + 1 ≤ n; omega) (by show s.c ≤ s.p + 1; omega) x2 with ⟨e, M'', y1, y2, y3⟩ | ⟨s1, M'', y1, y2, y3⟩
          · have y2 : F1 2 (nI (d + 1)) M' = some M'' := y2
            have he := (Pr_go hn _ _ _ _ y1 (by show s.p + 1 ≤ n; omega) (by show s.c ≤ s.p + 1; omega)).1
            obtain ⟨M3, z1, z2⟩ := rt_passXF (v := 93) hs hT y3 he
            refine Or.inl ⟨e, M3, Pr_opE c cd y1, ?_, z2⟩
            show ((F1 2 (nI (d + 1)) M').bind _) = _
            rw [y2, Option.bind_some, z1, Option.bind_some]
          · have y2 : F1 2 (nI (d + 1)) M' = some M'' := y2
            have hg := (Pr_go hn _ _ _ _ y1 (by show s.p + 1 ≤ n; omega) (by show s.c ≤ s.p + 1; omega)).1
            rcases rt_passX (v := 93) hs hT y3 (by have := hg.2.1; omega) (by decide) with ⟨c3, M3, z1, z2⟩ | ⟨c3, M3, z1, z2⟩
            · have z1 : fn_X8_pass 93 M'' = some M3 := z1
              refine Or.inr ⟨_, M3, Pr_opn c cd c3 y1, ?_, z2⟩
              show ((F1 2 (nI (d + 1)) M').bind _) = _
              rw [y2, Option.bind_some, z1, Option.bind_some]
            · have z1 : fn_X8_pass 93 M'' = some M3 := z1
              refine Or.inl ⟨_, M3, Pr_opC c cd c3 y1, ?_, z2⟩
              show ((F1 2 (nI (d + 1)) M').bind _) = _
              rw [y2, Option.bind_some, z1, Option.bind_some]
        · rw [x1, Option.bind_some, if_pos rfl]
          exact Or.inl ⟨_, M', Pr_opD c cd, rfl, x2⟩
      · have e91 : ¬ ch_ b n s.p = 91 := fun z => by
          unfold ch_ at z
          by_cases c1 : s.p < n
          · rw [if_pos c1] at z
            have := (hTM.2.2 _ c1).2
            exact c ⟨c1, (nI_eq (b := 91) (by omega) (by decide)).mp z⟩
          · rw [if_neg c1] at z
            exact absurd z (by decide)
        obtain ⟨M', x1, x2⟩ := rt_failX (k := 1) hs h
        rw [if_neg e91, x1, Option.bind_some]
        exact Or.inl ⟨_, M', Pr_factB e1 e2 c, rfl, x2⟩
theorem rt_compX {d : Nat} {F1 : Int32 → Int32 → ro_Mem → Option ro_Mem} {F2 F3 F4 : Int32 → ro_Mem → Option ro_Mem} (hs : Sp0 o0 m) (hT : Tp b n m) (hC : GoodF b n o0 m 2 d (F1 (nI 2) (nI d))) (hF : ∀ e M, FE o0 m e M → ¬ e = 0 → ∃ M', F1 (nI 2) (nI d) M = some M' ∧ FE o0 m e M') : GoodF b n o0 m 10 d (fo_X3_readComparison F1 F2 F3 F4 (nI d)) := by
  intro s M hp hc h
  have hn := hT.2.1
  have e2 : F1 2 (nI d) = F1 (nI 2) (nI d) := rfl
  unfold fo_X3_readComparison
  rw [e2]
  -- what is left once there is a fault
  have tail : ∀ e M', FE o0 m e M' → ¬ e = 0 → ∃ M'', ((fn_X8_peekAmong 2 M').bind fun q3 => if 4 < q3 then (ro_lt (ro_set M' 60 2 ((M' 60 2) + 1)) fun m6 => (F1 (nI 2) (nI d) m6).bind fun q8 => if ro_sh (ro_rf q8 50 0) = (0, 2) then ((fn_X2_emit (ro_rf q8 50 0) q3 0 q8).bind fun q11 => some q11.2) else none) else ((fn_X8_fail 1 (M' 60 2) M').bind fun q13 => some q13)) = some M'' ∧ FE o0 m e M'' := fun e M' hF' he => by
    obtain ⟨q, eq⟩ := rt_amongF ix_2 (hF'.tp hs hT)
    rw [eq, Option.bind_some]
    by_cases c : 4 < q
    · have h1 := hF'.fm hs (Fm.set (m := M') (M := M') ⟨fun _ _ => rfl, fun _ _ _ => rfl⟩ (Or.inl rfl) (M' 60 2 + 1))
      rw [show ro_set M' 60 2 (M' 60 2 + 1) 60 4 = e by rw [ro_set_same, pk_un (by decide)]; exact hF'.2.2.2.1] at h1
      obtain ⟨M2, y1, y2⟩ := hF e _ h1 he
      obtain ⟨z, M3, z1, z2⟩ := rt_emitF (w := q) (v := 0) hs y2
      rw [if_pos c, ro_lt, y1, Option.bind_some, y2.rf hs, if_pos hs.sh, z1, Option.bind_some]
      exact ⟨M3, rfl, z2⟩
    · rw [if_neg c, rt_failF (by rw [hF'.2.2.2.1]; exact he), Option.bind_some]
      exact ⟨M', rfl, hF'⟩
  rcases hC s M hp hc h with ⟨e, M', x1, x2, x3⟩ | ⟨s1, M', x1, x2, x3⟩
  · have he := (Pr_go hn _ _ _ _ x1 hp hc).1
    obtain ⟨M'', y1, y2⟩ := tail e M' x3 he
    exact Or.inl ⟨e, M'', Pr_cpE x1, by rw [x2, Option.bind_some]; exact y1, y2⟩
  · obtain ⟨hg, -⟩ := Pr_go hn _ _ _ _ x1 hp hc
    have hc1 := hg.c_le hc
    have hp1 := hg.2.1
    rw [x2, Option.bind_some]
    have hTM := x3.1.tp hs hT
    rw [rt_among ix_2 hTM x3.2.1 (by omega), Option.bind_some]
    have hcp : ∀ {w}, ca_ b n cp_ s1.p = some w → on_ (ca_ b n i2_ s1.p) = nI w ∧ 4 < on_ (ca_ b n i2_ s1.p) := fun {w} hw => by
      obtain ⟨z1, z2⟩ := ca_some hw
      obtain ⟨t1, t2⟩ := cp_t _ (hTM.2.2 _ z1).2
      have hne : ¬ cp_ (b s1.p) = none := by rw [z2]; intro z; cases z
      unfold ca_
      rw [if_pos z1]
      exact ⟨by rw [t2 hne, z2]; rfl, t1.mpr hne⟩
    cases e1 : ca_ b n cp_ s1.p with
    | none =>
      have hno : ¬ 4 < on_ (ca_ b n i2_ s1.p) := by
        unfold ca_ at e1 ⊢
        by_cases z1 : s1.p < n
        · rw [if_pos z1] at e1 ⊢
          exact fun z => (cp_t _ (hTM.2.2 _ z1).2).1.mp z e1
        · rw [if_neg z1]
          decide
      obtain ⟨M2, y1, y2⟩ := rt_failX (k := 1) hs x3
      rw [if_neg hno, y1, Option.bind_some]
      exact Or.inl ⟨_, M2, Pr_cpX e1 x1, rfl, y2⟩
    | some w =>
      obtain ⟨z1, z2⟩ := hcp e1
      have hw := cp_le (ca_some e1).2
      have hlt := (ca_some e1).1
      rw [if_pos z2, z1, ro_lt]
      rcases hC s1.adv _ (by show s1.p + 1 ≤ n; omega) (by show s1.c ≤ s1.p + 1; omega) (x3.adv hs) with ⟨e, M2, y1, y2, y3⟩ | ⟨s2, M2, y1, y2, y3⟩
      · obtain ⟨z, M3, u1, u2⟩ := rt_emitF (w := nI w) (v := 0) hs y3
        rw [y2, Option.bind_some, y3.rf hs, if_pos hs.sh, u1, Option.bind_some]
        exact Or.inl ⟨e, M3, Pr_cpF e1 x1 y1, rfl, u2⟩
      · obtain ⟨g2, -⟩ := Pr_go hn _ _ _ _ y1 (show s1.p + 1 ≤ n by omega) (show s1.c ≤ s1.p + 1 by omega)
        have hc2 : s2.c < 200 := by
          have h1 := g2.2.2.2.1
          have h2 := g2.2.1
          have h3 : s1.adv.p = s1.p + 1 := rfl
          have h4 : s1.adv.c = s1.c := rfl
          omega
        obtain ⟨M3, u1, u2⟩ := rt_emitC (w := w) (v := 0) hs y3 hc2
        have u1 : fn_X2_emit o0 (nI w) 0 M2 = some (nI s2.c, M3) := u1
        rw [y2, Option.bind_some, y3.1.rf hs, if_pos hs.sh, u1, Option.bind_some]
        exact Or.inr ⟨_, M3, Pr_cpd e1 x1 y1, rfl, u2⟩
theorem rt_pieceX {d : Nat} {F1 : Int32 → Int32 → ro_Mem → Option ro_Mem} {F2 F3 F4 : Int32 → ro_Mem → Option ro_Mem} (hs : Sp0 o0 m) (hT : Tp b n m) (hd : d ≤ 6) (hP : d < 6 → GoodF b n o0 m 8 (d + 1) (F2 (nI (d + 1)))) (hC : d < 6 → GoodF b n o0 m 0 (d + 1) (F1 (nI 0) (nI (d + 1)))) (hM : GoodF b n o0 m 10 d (F4 (nI d))) : GoodF b n o0 m 8 d (fo_X3_readPiece F1 F2 F3 F4 (nI d)) := by
  intro s M hp hc h
  have hn := hT.2.1
  have hTM := h.1.tp hs hT
  have hch : ∀ x, x < 256 → (ch_ b n s.p = nI x ↔ (s.p < n ∧ b s.p = x)) := fun x hx => by
    unfold ch_
    by_cases c1 : s.p < n
    · rw [if_pos c1]
      have := (hTM.2.2 _ c1).2
      rw [nI_eq (by omega) (by omega)]
      exact ⟨fun z => ⟨c1, z⟩, fun z => z.2⟩
    · rw [if_neg c1]
      exact ⟨fun z => absurd z.symm (rt_m1 (by omega)), fun z => absurd z.1 c1⟩
  have c33 : ch_ b n s.p = (33 : Int32) ↔ (s.p < n ∧ b s.p = 33) := hch 33 (by decide)
  have c40 : ch_ b n s.p = (40 : Int32) ↔ (s.p < n ∧ b s.p = 40) := hch 40 (by decide)
  unfold fo_X3_readPiece
  rw [rt_peek hTM h.2.1 (by omega), Option.bind_some]
  by_cases c1 : s.p < n ∧ b s.p = 33
  · rw [if_pos (c33.mpr c1)]
    rcases rt_enter hs h hd (by omega) with ⟨cd, M', x1, x2⟩ | ⟨cd, M', x1, x2⟩
    · rw [x1, Option.bind_some, if_neg rt_10, nI_1]
      rcases hP cd s.adv M' (by show s.p + 1 ≤ n; omega) (by show s.c ≤ s.p + 1; omega) x2 with ⟨e, M'', y1, y2, y3⟩ | ⟨s1, M'', y1, y2, y3⟩
      · obtain ⟨z, M3, u1, u2⟩ := rt_emitF (w := 10) (v := 0) hs y3
        refine Or.inl ⟨e, M3, Pr_ntE c1 cd y1, ?_, u2⟩
        show ((F2 (nI (d + 1)) M').bind _) = _
        rw [y2, Option.bind_some, y3.rf hs, if_pos hs.sh, u1, Option.bind_some]
      · obtain ⟨g2, -⟩ := Pr_go hn _ _ _ _ y1 (show s.p + 1 ≤ n by omega) (show s.c ≤ s.p + 1 by omega)
        have hc2 : s1.c < 200 := by
          have h1 := g2.2.2.2.1
          have h2 := g2.2.1
          have h3 : s.adv.p = s.p + 1 := rfl
          have h4 : s.adv.c = s.c := rfl
          omega
        obtain ⟨M3, u1, u2⟩ := rt_emitC (w := 10) (v := 0) hs y3 hc2
        have u1 : fn_X2_emit o0 10 0 M'' = some (nI s1.c, M3) := u1
        refine Or.inr ⟨_, M3, Pr_nt c1 cd y1, ?_, u2⟩
        show ((F2 (nI (d + 1)) M').bind _) = _
        rw [y2, Option.bind_some, y3.1.rf hs, if_pos hs.sh, u1, Option.bind_some]
    · rw [x1, Option.bind_some, if_pos rfl]
      exact Or.inl ⟨_, M', Pr_ntD c1 cd, rfl, x2⟩
  · rw [if_neg (fun z => c1 (c33.mp z))]
    by_cases c2 : s.p < n ∧ b s.p = 40
    · rw [if_pos (c40.mpr c2)]
      rcases rt_enter hs h hd (by omega) with ⟨cd, M', x1, x2⟩ | ⟨cd, M', x1, x2⟩
      · rw [x1, Option.bind_some, if_neg rt_10, nI_1]
        rcases hC cd s.adv M' (by show s.p + 1 ≤ n; omega) (by show s.c ≤ s.p + 1; omega) x2 with ⟨e, M'', y1, y2, y3⟩ | ⟨s1, M'', y1, y2, y3⟩
        · have y2 : F1 0 (nI (d + 1)) M' = some M'' := y2
          have he := (Pr_go hn _ _ _ _ y1 (by show s.p + 1 ≤ n; omega) (by show s.c ≤ s.p + 1; omega)).1
          obtain ⟨M3, z1, z2⟩ := rt_passXF (v := 41) hs hT y3 he
          refine Or.inl ⟨e, M3, Pr_paE c2 cd y1, ?_, z2⟩
          show ((F1 0 (nI (d + 1)) M').bind _) = _
          rw [y2, Option.bind_some, z1, Option.bind_some]
        · have y2 : F1 0 (nI (d + 1)) M' = some M'' := y2
          have hg := (Pr_go hn _ _ _ _ y1 (by show s.p + 1 ≤ n; omega) (by show s.c ≤ s.p + 1; omega)).1
          rcases rt_passX (v := 41) hs hT y3 (by have := hg.2.1; omega) (by decide) with ⟨c3, M3, z1, z2⟩ | ⟨c3, M3, z1, z2⟩
          · have z1 : fn_X8_pass 41 M'' = some M3 := z1
            refine Or.inr ⟨_, M3, Pr_par c2 cd c3 y1, ?_, z2⟩
            show ((F1 0 (nI (d + 1)) M').bind _) = _
            rw [y2, Option.bind_some, z1, Option.bind_some]
          · have z1 : fn_X8_pass 41 M'' = some M3 := z1
            refine Or.inl ⟨_, M3, Pr_paC c2 cd c3 y1, ?_, z2⟩
            show ((F1 0 (nI (d + 1)) M').bind _) = _
            rw [y2, Option.bind_some, z1, Option.bind_some]
      · rw [x1, Option.bind_some, if_pos rfl]
        exact Or.inl ⟨_, M', Pr_paD c2 cd, rfl, x2⟩
    · rw [if_neg (fun z => c2 (c40.mp z))]
      have hx : ¬ (s.p < n ∧ (b s.p = 33 ∨ b s.p = 40)) := fun z => z.2.elim (fun y => c1 ⟨z.1, y⟩) (fun y => c2 ⟨z.1, y⟩)
      rcases hM s M hp hc h with ⟨e, M', y1, y2, y3⟩ | ⟨s1, M', y1, y2, y3⟩
      · exact Or.inl ⟨e, M', Pr_cmp hx y1, by rw [y2, Option.bind_some], y3⟩
      · exact Or.inr ⟨s1, M', Pr_cmp hx y1, by rw [y2, Option.bind_some], y3⟩
end
