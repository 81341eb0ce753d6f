-- ===== the class reads a clause =====
section
variable {b : Nat → Nat} {n o0 : Nat} {m M M' : ro_Mem} {s : Sx} {C : Nat} {T : Nat → Nat → Nat}
def X102 (C : Nat) (q27 : ro_Mem) : Option ro_Mem := if ro_sh (ro_rf q27 50 0) = (0, 2) then (ro_lt (ro_set q27 ((ro_rf q27 50 0) + 6) C (q27 (ro_rf q27 50 0) 2)) fun m30 => if ro_sh (ro_rf m30 50 0) = (0, 2) then (ro_lt (ro_set m30 (ro_rf m30 50 0) 3 ((m30 (ro_rf m30 50 0) 3) + 1)) fun m33 => some m33) else none) else none
theorem rt_102s {e : Int32} (hs : Sp0 o0 m) (hC : C < 14) (h : FK o0 m e M) : fj_X3_readClause_102 (nI C) M = ((fn_X8_pass 40 (ro_set M (o0 + 5) C (M o0 2))).bind fun q23 => (fn_X3_readChain 0 1 q23).bind fun q25 => (fn_X8_pass 41 q25).bind (X102 C)) := by
  unfold fj_X3_readClause_102
  rw [h.rf hs, if_pos hs.sh, if_pos (rt_in hC (by decide)), ro_lt, nI_clamp (show C < 2 ^ 31 by omega)]
  rfl
theorem rt_102t {e : Int32} (hs : Sp0 o0 m) (hC : C < 14) (h : FK o0 m e M) : X102 C M = some (ro_set (ro_set M (o0 + 6) C (M o0 2)) o0 3 (M o0 3 + 1)) := by
  have ho := hs.lt
  have h1 := h.set (o := o0 + 6) (by omega) ho C (M o0 2)
  unfold X102
  rw [h.rf hs, if_pos hs.sh, ro_lt, h1.rf hs, if_pos hs.sh, ro_lt, ro_set_ne _ _ _ (show ¬ o0 = o0 + 6 by omega)]
theorem rt_102F {e : Int32} (hs : Sp0 o0 m) (hT : Tp b n m) (hC : C < 14) (he : ¬ e = 0) (h : FK o0 m e M) (h2 : ∃ c, c ≤ 200 ∧ M o0 2 = nI c) : ∃ M', fj_X3_readClause_102 (nI C) M = some M' ∧ FK o0 m e M' := by
  have ho := hs.lt
  rw [rt_102s hs hC h]
  have h1 := h.set (o := o0 + 5) (by omega) ho C (M o0 2)
  obtain ⟨A, eA⟩ : ∃ A, A = ro_set M (o0 + 5) C (M o0 2) := ⟨_, rfl⟩
  rw [← eA] at h1 ⊢
  have f0 : FE o0 A e A := ⟨fun _ _ _ => rfl, fun _ _ _ => rfl, fun _ _ => rfl, h1.2.2, by rw [eA, ro_set_ne _ _ _ (by omega)]; exact h2⟩
  obtain ⟨B, y1, y2⟩ := rt_passXF (v := 40) (h1.sp hs) (h1.tp hs hT) f0 he
  have y3 := rt_chainE (v2 := 0) (v3 := 1) (h1.sp hs) (h1.tp hs hT) y2 he
  obtain ⟨D, z1, z2⟩ := rt_passXF (v := 41) (h1.sp hs) (h1.tp hs hT) y2 he
  have z3 := h1.fe z2
  rw [y1, Option.bind_some, y3, Option.bind_some, z1, Option.bind_some, rt_102t hs hC z3]
  exact ⟨_, rfl, (z3.set (by omega) ho _ _).set (by omega) ho _ _⟩
theorem rt_102 {kd a : Nat} (hs : Sp0 o0 m) (hT : Tp b n m) (hC : C < 14) (hp : s.p ≤ n) (hc : s.c ≤ s.p) (h : CK o0 m s C T M) (hk : M (o0 + 3) C = nI kd) (ha : M (o0 + 4) C = nI a) : (∃ e M', KR b n s (.inl e) ∧ fj_X3_readClause_102 (nI C) M = some M' ∧ FK o0 m e M') ∨ ∃ s1 M', KR b n s (.inr s1) ∧ fj_X3_readClause_102 (nI C) M = some M' ∧ CK o0 m s1 (C + 1) (addT T C kd a s.c s1.c) M' := by
  have ho := hs.lt
  have hn := hT.2.1
  rw [rt_102s hs hC h.1]
  have h0 := h.tab (j := 2) (v := M o0 2) ho (by decide)
  obtain ⟨A, eA⟩ : ∃ A, A = ro_set M (o0 + 5) C (M o0 2) := ⟨_, rfl⟩
  have h1 : CK o0 m s C T A := by rw [eA]; exact h0
  have A3 : A (o0 + 3) C = nI kd := by rw [eA, ro_set_ne _ _ _ (by omega)]; exact hk
  have A4 : A (o0 + 4) C = nI a := by rw [eA, ro_set_ne _ _ _ (by omega)]; exact ha
  have A5 : A (o0 + 5) C = nI s.c := by rw [eA, ro_set_same, pk_us]; exact h.2.2.1
  rw [← eA]
  have sA := h1.1.sp hs
  have tA := h1.1.tp hs hT
  have cA := h1.cl hs (by omega)
  have fin : ∀ (e : Int32) B, FE o0 A e B → ¬ e = 0 → ∃ M', ((fn_X3_readChain 0 1 B).bind fun q25 => (fn_X8_pass 41 q25).bind (X102 C)) = some M' ∧ FK o0 m e M' := fun e B y2 he => by
    have y3 := rt_chainE (v2 := 0) (v3 := 1) sA tA y2 he
    obtain ⟨D, z1, z2⟩ := rt_passXF (v := 41) sA tA y2 he
    have z3 := h1.1.fe z2
    rw [y3, Option.bind_some, z1, Option.bind_some, rt_102t hs hC z3]
    exact ⟨_, rfl, (z3.set (by omega) ho _ _).set (by omega) ho _ _⟩
  rcases rt_passX (v := 40) sA tA cA (by omega) (by decide) with ⟨c, B, x1, x2⟩ | ⟨c, B, x1, x2⟩
  · have x1 : fn_X8_pass 40 A = some B := x1
    rw [x1, Option.bind_some]
    have a1 : s.adv.p ≤ n := by show s.p + 1 ≤ n; omega
    have a2 : s.adv.c ≤ s.adv.p := by show s.c ≤ s.p + 1; omega
    rcases rt_chain0 sA tA s.adv B a1 a2 x2 with ⟨e, D, p1, y1, y2⟩ | ⟨s1, D, p1, y1, y2⟩
    · have he := (Pr_go hn _ _ _ _ p1 a1 a2).1
      obtain ⟨E, z1, z2⟩ := rt_passXF (v := 41) sA tA y2 he
      have z3 := h1.1.fe z2
      rw [y1, Option.bind_some, z1, Option.bind_some, rt_102t hs hC z3]
      exact Or.inl ⟨e, _, Or.inr ⟨c, Or.inl ⟨e, p1, rfl⟩⟩, rfl, (z3.set (by omega) ho _ _).set (by omega) ho _ _⟩
    · have g := (Pr_go hn _ _ _ _ p1 a1 a2).1
      have g2 := g.2.1
      rw [y1, Option.bind_some]
      rcases rt_passX (v := 41) sA tA y2 (by omega) (by decide) with ⟨c1, E, z1, z2⟩ | ⟨c1, E, z1, z2⟩
      · have z1 : fn_X8_pass 41 D = some E := z1
        have hE := h1.of ho z2
        rw [z1, Option.bind_some, rt_102t hs hC hE.1]
        refine Or.inr ⟨s1.adv, _, Or.inr ⟨c, Or.inr ⟨s1, p1, Or.inr ⟨c1, rfl⟩⟩⟩, rfl, ?_⟩
        obtain ⟨e1, e2, e3, e4, e5, e6⟩ := hE
        refine ⟨(e1.set (by omega) ho _ _).set (by omega) ho _ _, ?_, ?_, fun k hk => ?_, ?_, fun j c hj hcC => ?_⟩
        · rw [ro_set_ne _ _ _ (by omega), ro_set_ne _ _ _ (by omega)]; exact e2
        · rw [ro_set_same, pk_un (by decide), ro_set_ne _ _ _ (by omega)]; exact e3
        · rw [ro_set_ne _ _ _ (by omega), ro_set_ne _ _ _ (by omega), ro_set_ne _ _ _ (by omega), ro_set_ne _ _ _ (by omega)]; exact e4 k hk
        · rw [ro_set_same, pk_us, e5, nI_1]
        · rw [ro_set_ne _ _ _ (by omega)]
          have k3 : E (o0 + 3) = A (o0 + 3) := z2.keep (j := 0) ho (by decide)
          have k4 : E (o0 + 4) = A (o0 + 4) := z2.keep (j := 1) ho (by decide)
          have k5 : E (o0 + 5) = A (o0 + 5) := z2.keep (j := 2) ho (by decide)
          by_cases q : c = C
          · subst q
            show _ = nI (updN (T j) c (if j = 0 then kd else if j = 1 then a else if j = 2 then s.c else s1.adv.c) c)
            rw [updN_s]
            have hj : j = 0 ∨ j = 1 ∨ j = 2 ∨ j = 3 := by omega
            rcases hj with rfl | rfl | rfl | rfl
            · rw [ro_set_ne _ _ _ (by omega)]
              show E (o0 + 3) c = nI kd
              rw [k3]; exact A3
            · rw [ro_set_ne _ _ _ (by omega)]
              show E (o0 + 4) c = nI a
              rw [k4]; exact A4
            · rw [ro_set_ne _ _ _ (by omega)]
              show E (o0 + 5) c = nI s.c
              rw [k5]; exact A5
            · show ro_set E (o0 + 6) c (E o0 2) (o0 + 6) c = nI s1.adv.c
              rw [ro_set_same, pk_us]; exact e3
          · show _ = nI (updN (T j) C _ c)
            rw [updN_n q]
            by_cases qj : j = 3
            · subst qj
              show ro_set E (o0 + 6) C (E o0 2) (o0 + 6) c = _
              rw [ro_set_same, pk_un q]
              exact e6 3 c hj (by omega)
            · rw [ro_set_ne _ _ _ (by omega)]
              exact e6 j c hj (by omega)
      · have z1 : fn_X8_pass 41 D = some E := z1
        have z3 := h1.1.fe z2
        rw [z1, Option.bind_some, rt_102t hs hC z3]
        exact Or.inl ⟨flt 1 s1.p, _, Or.inr ⟨c, Or.inr ⟨s1, p1, Or.inl ⟨c1, rfl⟩⟩⟩, rfl, (z3.set (by omega) ho _ _).set (by omega) ho _ _⟩
  · have x1 : fn_X8_pass 40 A = some B := x1
    rw [x1, Option.bind_some]
    obtain ⟨M', y1, y2⟩ := fin _ B x2 (flt_ok s.p (by omega) 1 (by decide)).1
    exact Or.inl ⟨flt 1 s.p, M', Or.inl ⟨c, rfl⟩, y1, y2⟩
theorem rt_readClauseC (hs : Sp0 o0 m) (hT : Tp b n m) (hC : C ≤ 14) (hp : s.p ≤ n) (hc : s.c ≤ s.p) (h : CK o0 m s C T M) : (∃ e M', CR b n C s (.inl e) ∧ fn_X3_readClause M = some M' ∧ FK o0 m e M') ∨ ∃ kd x s1 M', CR b n C s (.inr (kd, x, s1)) ∧ fn_X3_readClause M = some M' ∧ CK o0 m s1 (C + 1) (addT T C kd s.c x s1.c) M' := by
  have ho := hs.lt
  have hn := hT.2.1
  have sM := h.1.sp hs
  have tM := h.1.tp hs hT
  have cM := h.cl hs (by omega)
  unfold fn_X3_readClause
  rw [h.1.rf hs, if_pos hs.sh, ro_lt, rt_among ix_1 tM h.2.1 (by omega), Option.bind_some, h.2.2.2.2.1]
  have bad : ∀ (v3 : Int32) (k : Int32), k ∈ [(1 : Int32), 2, 3, 4, 5, 6] → ∃ M', ((fn_X8_fail k (M 60 2) M).bind fun q => fj_X3_readClause_46 (nI C) v3 q) = some M' ∧ FK o0 m (flt k s.p) M' := fun v3 k hk => by
    obtain ⟨B, x1, x2⟩ := rt_failX (k := k) sM cM
    have he := (flt_ok s.p (by omega) k hk).1
    refine ⟨B, ?_, h.1.fe x2⟩
    rw [x1, Option.bind_some]
    unfold fj_X3_readClause_46
    rw [if_neg (by rw [x2.2.2.2.1]; exact he)]
  cases ek : ca_ b n i1_ s.p with
  | none =>
    rw [show on_ none = -1 from rfl, if_neg (show ¬ (0 : Int32) ≤ -1 by decide)]
    obtain ⟨M', y1, y2⟩ := bad (-1) 1 (by decide)
    exact Or.inl ⟨_, M', Or.inl ⟨ek, rfl⟩, y1, y2⟩
  | some kd =>
    have hk4 := i1_le (ca_some ek).2
    have hpn := (ca_some ek).1
    rw [show on_ (some kd) = nI kd from rfl, if_pos (nI_pos' (by omega))]
    by_cases c14 : C < 14
    · rw [if_pos (show nI C < 14 from nI_lt (b := 14) c14 (by decide))]
      unfold fj_X3_readClause_46
      rw [if_pos h.1.2.2, ro_lt]
      -- the letter is passed
      have h1 : CK o0 m s.adv C T (ro_set M 60 2 (M 60 2 + 1)) := h.of ho (cM.adv sM)
      obtain ⟨A, eA⟩ : ∃ A, A = ro_set M 60 2 (M 60 2 + 1) := ⟨_, rfl⟩
      rw [← eA] at h1 ⊢
      have h2 := h1.tab (j := 0) (v := nI kd) ho (by decide)
      obtain ⟨B, eB⟩ : ∃ B, B = ro_set A (o0 + 3) C (nI kd) := ⟨_, rfl⟩
      have h2 : CK o0 m s.adv C T B := by rw [eB]; exact h2
      have h3 := h2.tab (j := 1) (v := B o0 2) ho (by decide)
      obtain ⟨D, eD⟩ : ∃ D, D = ro_set B (o0 + 4) C (B o0 2) := ⟨_, rfl⟩
      have h3 : CK o0 m s.adv C T D := by rw [eD]; exact h3
      have D3 : D (o0 + 3) C = nI kd := by rw [eD, ro_set_ne _ _ _ (by omega), eB, ro_set_same, pk_us]
      have D4 : D (o0 + 4) C = nI s.c := by rw [eD, ro_set_same, pk_us]; exact h2.2.2.1
      rw [h1.1.rf hs, if_pos hs.sh, if_pos (rt_in c14 (by decide)), nI_clamp (show C < 2 ^ 31 by omega), ← eB, ro_lt, h2.1.rf hs, if_pos hs.sh, ← eD, ro_lt]
      have a1 : s.adv.p ≤ n := by show s.p + 1 ≤ n; omega
      have a2 : s.adv.c ≤ s.adv.p := by show s.c ≤ s.p + 1; omega
      by_cases k1 : kd = 1
      · rw [if_pos (show nI kd = 1 by rw [k1]; rfl)]
        rcases rt_102 hs hT c14 a1 a2 h3 D3 D4 with ⟨e, M', y1, y2, y3⟩ | ⟨s1, M', y1, y2, y3⟩
        · exact Or.inl ⟨e, M', Or.inr ⟨kd, ek, Or.inr ⟨c14, Or.inr ⟨s.adv, Or.inl ⟨k1, rfl⟩, Or.inl ⟨e, y1, rfl⟩⟩⟩⟩, y2, y3⟩
        · exact Or.inr ⟨kd, s.adv.c, s1, M', Or.inr ⟨kd, ek, Or.inr ⟨c14, Or.inr ⟨s.adv, Or.inl ⟨k1, rfl⟩, Or.inr ⟨s1, y1, rfl⟩⟩⟩⟩, y2, y3⟩
      · rw [if_neg (show ¬ nI kd = 1 from fun z => k1 ((nI_eq (b := 1) (by omega) (by decide)).mp z))]
        have sD := h3.1.sp hs
        have tD := h3.1.tp hs hT
        rcases rt_chain2 sD tD s.adv D a1 a2 (h3.cl hs (by show s.c ≤ 200; omega)) with ⟨e, E, p1, y1, y2⟩ | ⟨s0, E, p1, y1, y2⟩
        · have he := (Pr_go hn _ _ _ _ p1 a1 a2).1
          rw [y1, Option.bind_some]
          obtain ⟨M', z1, z2⟩ := rt_102F hs hT c14 he (h3.1.fe y2) y2.2.2.2.2
          exact Or.inl ⟨e, M', Or.inr ⟨kd, ek, Or.inr ⟨c14, Or.inl ⟨k1, e, p1, rfl⟩⟩⟩, z1, z2⟩
        · have g := (Pr_go hn _ _ _ _ p1 a1 a2).1
          rw [y1, Option.bind_some]
          have hE := h3.of ho y2
          have E3 : E (o0 + 3) C = nI kd := by rw [show E (o0 + 3) = D (o0 + 3) from y2.keep (j := 0) ho (by decide)]; exact D3
          have E4 : E (o0 + 4) C = nI s.c := by rw [show E (o0 + 4) = D (o0 + 4) from y2.keep (j := 1) ho (by decide)]; exact D4
          rcases rt_102 hs hT c14 g.2.1 (g.c_le a2) hE E3 E4 with ⟨e, M', z1, z2, z3⟩ | ⟨s1, M', z1, z2, z3⟩
          · exact Or.inl ⟨e, M', Or.inr ⟨kd, ek, Or.inr ⟨c14, Or.inr ⟨s0, Or.inr ⟨k1, p1⟩, Or.inl ⟨e, z1, rfl⟩⟩⟩⟩, z2, z3⟩
          · exact Or.inr ⟨kd, s0.c, s1, M', Or.inr ⟨kd, ek, Or.inr ⟨c14, Or.inr ⟨s0, Or.inr ⟨k1, p1⟩, Or.inr ⟨s1, z1, rfl⟩⟩⟩⟩, z2, z3⟩
    · rw [if_neg (show ¬ nI C < 14 from nI_nlt (b := 14) (by omega) (by omega))]
      obtain ⟨M', y1, y2⟩ := bad (nI kd) 4 (by decide)
      exact Or.inl ⟨_, M', Or.inr ⟨kd, ek, Or.inl ⟨c14, rfl⟩⟩, y1, y2⟩
end
