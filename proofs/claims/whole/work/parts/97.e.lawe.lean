-- ===== the class's chains, and all of it tied =====
def OP_ (F1 : Int32 → Int32 → ro_Mem → Option ro_Mem) (F2 F3 : Int32 → ro_Mem → Option ro_Mem) (l d : Nat) : ro_Mem → Option ro_Mem := if l = 0 then F1 (nI 1) (nI d) else if l = 1 then F2 (nI d) else if l = 2 then F1 (nI 3) (nI d) else F3 (nI d)
def OutY (b : Nat → Nat) (n o0 : Nat) (m : ro_Mem) (t d : Nat) (s : Sx) (x : Option (ro_Mem ⊕ ro_Mem)) : Prop := (∃ e M', Pr b n t d s (.inl e) ∧ (x = some (.inl M') ∨ x = some (.inr M')) ∧ FE o0 m e M') ∨ ∃ s1 M', Pr b n t d s (.inr s1) ∧ (x = some (.inl M') ∨ x = some (.inr M')) ∧ CL o0 m s1 M'
section
variable {b : Nat → Nat} {n o0 : Nat} {m : ro_Mem} {F1 : Int32 → Int32 → ro_Mem → Option ro_Mem} {F2 F3 F4 : Int32 → ro_Mem → Option ro_Mem} {l d : Nat}
theorem rt_61 {rec : (Int32 × Int32 × ro_Mem) → Option (ro_Mem ⊕ ro_Mem)} {v4 v5 v6 t0 : Int32} {M : ro_Mem} (hl : l < 4) : fj_X3_readChain_61 F1 F2 F3 F4 rec (nI l) (nI d) v4 v5 v6 t0 M = (OP_ F1 F2 F3 l d M).bind fun q => fj_X3_readChain_127 F1 F2 F3 F4 rec (nI l) (nI d) v4 v5 v6 t0 q := by
  have h : l = 0 ∨ l = 1 ∨ l = 2 ∨ l = 3 := by omega
  unfold fj_X3_readChain_61 OP_
  rcases h with rfl | rfl | rfl | rfl
  · rw [if_pos (show nI 0 = 0 from rfl), if_pos rfl]; rfl
  · rw [if_neg (show ¬ nI 1 = 0 by decide), if_pos (show nI 1 = 1 from rfl), if_neg (show ¬ 1 = 0 by decide), if_pos rfl]
  · rw [if_neg (show ¬ nI 2 = 0 by decide), if_neg (show ¬ nI 2 = 1 by decide), if_pos (show nI 2 = 2 from rfl), if_neg (show ¬ 2 = 0 by decide), if_neg (show ¬ 2 = 1 by decide), if_pos rfl]; rfl
  · rw [if_neg (show ¬ nI 3 = 0 by decide), if_neg (show ¬ nI 3 = 1 by decide), if_neg (show ¬ nI 3 = 2 by decide), if_neg (show ¬ 3 = 0 by decide), if_neg (show ¬ 3 = 1 by decide), if_neg (show ¬ 3 = 2 by decide)]
theorem rt_161F {rec : (Int32 × Int32 × ro_Mem) → Option (ro_Mem ⊕ ro_Mem)} {v2 v3 v5 e : Int32} {M : ro_Mem} (hs : Sp0 o0 m) (hT : Tp b n m) (h : FE o0 m e M) (hrec : ∀ v4 v5 M, M 60 4 = e → rec (v4, v5, M) = some (.inr M)) : ∃ M', (fj_X3_readChain_161 F1 F2 F3 F4 rec v2 v3 v5 M = some (.inl M') ∨ fj_X3_readChain_161 F1 F2 F3 F4 rec v2 v3 v5 M = some (.inr M')) ∧ FE o0 m e M' := by
  obtain ⟨v, ev⟩ := rt_jointF (l := v2) hs hT h
  unfold fj_X3_readChain_161
  rw [ev, Option.bind_some]
  by_cases c : v = -1
  · rw [if_pos c]; exact ⟨M, Or.inl rfl, h⟩
  · have h1 := h.fm hs (Fm.set (m := M) (M := M) ⟨fun _ _ => rfl, fun _ _ _ => rfl⟩ (Or.inl rfl) (M 60 2 + 1))
    have h4 : ro_set M 60 2 (M 60 2 + 1) 60 4 = e := by rw [ro_set_same, pk_un (by decide)]; exact h.2.2.2.1
    rw [h4] at h1
    rw [if_neg c, ro_lt, hrec _ _ _ h4]
    exact ⟨_, Or.inr rfl, h1⟩
theorem rt_127F {rec : (Int32 × Int32 × ro_Mem) → Option (ro_Mem ⊕ ro_Mem)} {v2 v3 v4 v5 v6 v7 e : Int32} {M : ro_Mem} (hs : Sp0 o0 m) (hT : Tp b n m) (h : FE o0 m e M) (hrec : ∀ v4 v5 M, M 60 4 = e → rec (v4, v5, M) = some (.inr M)) : ∃ M', (fj_X3_readChain_127 F1 F2 F3 F4 rec v2 v3 v4 v5 v6 v7 M = some (.inl M') ∨ fj_X3_readChain_127 F1 F2 F3 F4 rec v2 v3 v4 v5 v6 v7 M = some (.inr M')) ∧ FE o0 m e M' := by
  unfold fj_X3_readChain_127
  rw [h.rf hs, if_pos hs.sh, if_pos hs.sh]
  by_cases c : v6 = 0
  · rw [if_pos c]
    by_cases c2 : v4 = -1
    · rw [if_pos c2]; exact rt_161F hs hT h hrec
    · obtain ⟨z, M2, u1, u2⟩ := rt_emitF (w := v4) (v := 0) hs h
      rw [if_neg c2, u1, Option.bind_some]; exact rt_161F hs hT u2 hrec
  · obtain ⟨M2, u1, u2⟩ := rt_jumpF (v := v7) hs h
    rw [if_neg c, u1, Option.bind_some]; exact rt_161F hs hT u2 hrec
theorem rt_stopF {fuel : Nat} {e v4 v5 : Int32} {M : ro_Mem} (hf : 0 < fuel) (h : M 60 4 = e) (he : ¬ e = 0) : ro_loop (fun rec (s : Int32 × Int32 × ro_Mem) => fb_X3_readChain_6 F1 F2 F3 F4 (nI l) (nI d) rec s.1 s.2.1 s.2.2) fuel (v4, v5, M) = some (.inr M) := by
  cases fuel with
  | zero => omega
  | succ F =>
    show fb_X3_readChain_6 F1 F2 F3 F4 (nI l) (nI d) _ v4 v5 M = _
    unfold fb_X3_readChain_6
    by_cases c : 200 ≤ v5
    · rw [if_pos c]
    · rw [if_neg c, if_neg (by rw [h]; exact he)]
theorem rt_moreX (hs : Sp0 o0 m) (hT : Tp b n m) (hl : l < 4) (hO : GoodF b n o0 m (opd_ l) d (OP_ F1 F2 F3 l d)) : ∀ k s M fuel v5, n - s.p ≤ k → k + 1 < fuel → v5 + (n - s.p) ≤ 199 → s.p ≤ n → s.c ≤ s.p → CL o0 m s M → OutY b n o0 m (4 + l) d s (fj_X3_readChain_161 F1 F2 F3 F4 (ro_loop (fun rec (s : Int32 × Int32 × ro_Mem) => fb_X3_readChain_6 F1 F2 F3 F4 (nI l) (nI d) rec s.1 s.2.1 s.2.2) fuel) (nI l) (nI d) (nI v5) M) := by
  have hn := hT.2.1
  intro k
  induction k with
  | zero =>
    intro s M fuel v5 hk hf hv hp hc h
    have hj : ca_ b n (jt_ l) s.p = none := by unfold ca_; rw [if_neg (by omega)]
    unfold fj_X3_readChain_161
    rw [rt_joint hs hT h hl (by omega), hj, Option.bind_some, show on_ none = -1 from rfl, if_pos rfl]
    exact Or.inr ⟨s, M, Pr_stop hl hj, Or.inl rfl, h⟩
  | succ k ih =>
    intro s M fuel v5 hk hf hv hp hc h
    unfold fj_X3_readChain_161
    rw [rt_joint hs hT h hl (by omega), Option.bind_some]
    cases hj : ca_ b n (jt_ l) s.p with
    | none =>
      rw [show on_ none = -1 from rfl, if_pos rfl]
      exact Or.inr ⟨s, M, Pr_stop hl hj, Or.inl rfl, h⟩
    | some w =>
      obtain ⟨hlt, hw⟩ := ca_some hj
      obtain ⟨w1, w2, w3⟩ := jt_le hw
      rw [show on_ (some w) = nI w from rfl, if_neg (rt_m1 (by omega)), ro_lt, nI_1]
      cases fuel with
      | zero => omega
      | succ F =>
        have hih := fun s M => ih s M F (v5 + 1)
        have hstop : ∀ e, ¬ e = 0 → ∀ v4 v5 M, M 60 4 = e → ro_loop (fun rec (s : Int32 × Int32 × ro_Mem) => fb_X3_readChain_6 F1 F2 F3 F4 (nI l) (nI d) rec s.1 s.2.1 s.2.2) F (v4, v5, M) = some (.inr M) := fun e he v4 v5 M h4 => rt_stopF (by omega) h4 he
        rw [show ro_loop (fun rec (s : Int32 × Int32 × ro_Mem) => fb_X3_readChain_6 F1 F2 F3 F4 (nI l) (nI d) rec s.1 s.2.1 s.2.2) (F + 1) (nI w, nI (v5 + 1), ro_set M 60 2 (M 60 2 + 1)) = fb_X3_readChain_6 F1 F2 F3 F4 (nI l) (nI d) (ro_loop (fun rec (s : Int32 × Int32 × ro_Mem) => fb_X3_readChain_6 F1 F2 F3 F4 (nI l) (nI d) rec s.1 s.2.1 s.2.2) F) (nI w) (nI (v5 + 1)) (ro_set M 60 2 (M 60 2 + 1)) from rfl]
        generalize ro_loop (fun rec (s : Int32 × Int32 × ro_Mem) => fb_X3_readChain_6 F1 F2 F3 F4 (nI l) (nI d) rec s.1 s.2.1 s.2.2) F = R at hih hstop ⊢
        have ha := h.adv hs
        generalize ro_set M 60 2 (M 60 2 + 1) = MA at ha ⊢
        have e11 : nI w = (11 : Int32) ↔ w = 11 := nI_eq (b := 11) (by omega) (by decide)
        have e12 : nI w = (12 : Int32) ↔ w = 12 := nI_eq (b := 12) (by omega) (by decide)
        unfold fb_X3_readChain_6
        rw [if_neg (show ¬ (200 : Int32) ≤ nI (v5 + 1) from nI_ge (b := 200) (by omega) (by decide)), if_pos ha.1.2.2.2.1]
        by_cases cl : l < 2
        · -- a jump
          have hwv := w2 cl
          have h35 : (if nI w = 11 then fj_X3_readChain_35 F1 F2 F3 F4 R (nI l) (nI d) (nI w) (nI (v5 + 1)) MA else if nI w = 12 then fj_X3_readChain_35 F1 F2 F3 F4 R (nI l) (nI d) (nI w) (nI (v5 + 1)) MA else fj_X3_readChain_40 F1 F2 F3 F4 R (nI l) (nI d) (nI w) (nI (v5 + 1)) 0 MA) = fj_X3_readChain_35 F1 F2 F3 F4 R (nI l) (nI d) (nI w) (nI (v5 + 1)) MA := by
            by_cases c : w = 11
            · rw [if_pos (e11.mpr c)]
            · rw [if_neg (fun z => c (e11.mp z)), if_pos (e12.mpr (by omega))]
          obtain ⟨M2, u1, u2⟩ := rt_emitC (w := w) (v := 0) hs ha (show s.c < 200 by omega)
          have u1 : fn_X2_emit o0 (nI w) 0 MA = some (nI s.c, M2) := u1
          rw [h35]
          unfold fj_X3_readChain_35 fj_X3_readChain_40
          rw [if_neg rt_10, ha.1.rf hs, if_pos hs.sh, u1, Option.bind_some, rt_61 hl]
          rcases hO (s.adv.emit w 0) M2 (by show s.p + 1 ≤ n; omega) (by show s.c + 1 ≤ s.p + 1; omega) u2 with ⟨e, M3, y1, y2, y3⟩ | ⟨s1, M3, y1, y2, y3⟩
          · have he := (Pr_go hn _ _ _ _ y1 (by show s.p + 1 ≤ n; omega) (by show s.c + 1 ≤ s.p + 1; omega)).1
            obtain ⟨M4, z1, z2⟩ := rt_127F (F1 := F1) (F2 := F2) (F3 := F3) (F4 := F4) (v2 := nI l) (v3 := nI d) (v4 := nI w) (v5 := nI (v5 + 1)) (v6 := 1) (v7 := nI s.c) hs hT y3 (hstop e he)
            rw [y2, Option.bind_some]
            exact Or.inl ⟨e, M4, Pr_lgB cl hj y1, z1, z2⟩
          · obtain ⟨g1, -⟩ := Pr_go hn _ _ _ _ y1 (show s.p + 1 ≤ n by omega) (show s.c + 1 ≤ s.p + 1 by omega)
            have q1 : (s.adv.emit w 0).p = s.p + 1 := rfl
            have q2 : (s.adv.emit w 0).c = s.c + 1 := rfl
            have hg1 := g1.1
            have hg2 := g1.2.1
            have hg4 := g1.2.2.2.1
            obtain ⟨M4, j1, j2⟩ := rt_jumpC (i := s.c) hs y3 (by omega)
            rw [y2, Option.bind_some]
            have e127 : fj_X3_readChain_127 F1 F2 F3 F4 R (nI l) (nI d) (nI w) (nI (v5 + 1)) 1 (nI s.c) M3 = fj_X3_readChain_161 F1 F2 F3 F4 R (nI l) (nI d) (nI (v5 + 1)) M4 := by
              unfold fj_X3_readChain_127
              rw [if_neg rt_10, y3.1.rf hs, if_pos hs.sh, j1, Option.bind_some]
            rw [e127]
            rcases hih (s1.land s.c) M4 (by show n - s1.p ≤ k; omega) (by omega) (by show v5 + 1 + (n - s1.p) ≤ 199; omega) (by show s1.p ≤ n; omega) (by show s1.c ≤ s1.p; omega) j2 with ⟨e, M5, z1, z2, z3⟩ | ⟨s2, M5, z1, z2, z3⟩
            · exact Or.inl ⟨e, M5, Pr_lg cl hj y1 z1, z2, z3⟩
            · exact Or.inr ⟨s2, M5, Pr_lg cl hj y1 z1, z2, z3⟩
        · -- a sign
          have hl2 : 2 ≤ l := by omega
          have hw5 := w3 hl2
          rw [if_neg (fun z => by have := e11.mp z; omega), if_neg (fun z => by have := e12.mp z; omega)]
          unfold fj_X3_readChain_40
          rw [if_pos rfl, rt_61 hl]
          rcases hO s.adv MA (by show s.p + 1 ≤ n; omega) (by show s.c ≤ s.p + 1; omega) ha with ⟨e, M3, y1, y2, y3⟩ | ⟨s1, M3, y1, y2, y3⟩
          · have he := (Pr_go hn _ _ _ _ y1 (by show s.p + 1 ≤ n; omega) (by show s.c ≤ s.p + 1; omega)).1
            obtain ⟨M4, z1, z2⟩ := rt_127F (F1 := F1) (F2 := F2) (F3 := F3) (F4 := F4) (v2 := nI l) (v3 := nI d) (v4 := nI w) (v5 := nI (v5 + 1)) (v6 := 0) (v7 := -1) hs hT y3 (hstop e he)
            rw [y2, Option.bind_some]
            exact Or.inl ⟨e, M4, Pr_arB hl hl2 hj y1, z1, z2⟩
          · obtain ⟨g1, -⟩ := Pr_go hn _ _ _ _ y1 (show s.p + 1 ≤ n by omega) (show s.c ≤ s.p + 1 by omega)
            have q1 : s.adv.p = s.p + 1 := rfl
            have q2 : s.adv.c = s.c := rfl
            have hg1 := g1.1
            have hg2 := g1.2.1
            have hg4 := g1.2.2.2.1
            obtain ⟨M4, j1, j2⟩ := rt_emitC (w := w) (v := 0) hs y3 (by omega)
            have j1 : fn_X2_emit o0 (nI w) 0 M3 = some (nI s1.c, M4) := j1
            rw [y2, Option.bind_some]
            have e127 : fj_X3_readChain_127 F1 F2 F3 F4 R (nI l) (nI d) (nI w) (nI (v5 + 1)) 0 (-1) M3 = fj_X3_readChain_161 F1 F2 F3 F4 R (nI l) (nI d) (nI (v5 + 1)) M4 := by
              unfold fj_X3_readChain_127
              rw [if_pos rfl, if_neg (rt_m1 (by omega)), y3.1.rf hs, if_pos hs.sh, j1, Option.bind_some]
            rw [e127]
            rcases hih (s1.emit w 0) M4 (by show n - s1.p ≤ k; omega) (by omega) (by show v5 + 1 + (n - s1.p) ≤ 199; omega) (by show s1.p ≤ n; omega) (by show s1.c + 1 ≤ s1.p; omega) j2 with ⟨e, M5, z1, z2, z3⟩ | ⟨s2, M5, z1, z2, z3⟩
            · exact Or.inl ⟨e, M5, Pr_ar hl hl2 hj y1 z1, z2, z3⟩
            · exact Or.inr ⟨s2, M5, Pr_ar hl hl2 hj y1 z1, z2, z3⟩
theorem rt_chainX (hs : Sp0 o0 m) (hT : Tp b n m) (hl : l < 4) (hO : GoodF b n o0 m (opd_ l) d (OP_ F1 F2 F3 l d)) : GoodF b n o0 m l d (fo_X3_readChain F1 F2 F3 F4 (nI l) (nI d)) := by
  intro s M hp hc h
  have hn := hT.2.1
  obtain ⟨F, hF⟩ : ∃ F, ro_FU = F + 1 := ⟨ro_FU - 1, by decide⟩
  have hF2 : 1000 < F := by
    have : 1001 < ro_FU := by decide
    omega
  have hstop : ∀ e, ¬ e = 0 → ∀ v4 v5 M, M 60 4 = e → ro_loop (fun rec (s : Int32 × Int32 × ro_Mem) => fb_X3_readChain_6 F1 F2 F3 F4 (nI l) (nI d) rec s.1 s.2.1 s.2.2) F (v4, v5, M) = some (.inr M) := fun e he v4 v5 M h4 => rt_stopF (by omega) h4 he
  have hmore := rt_moreX (F4 := F4) hs hT hl hO
  unfold fo_X3_readChain fl_X3_readChain_6
  rw [hF, show ro_loop (fun rec (s : Int32 × Int32 × ro_Mem) => fb_X3_readChain_6 F1 F2 F3 F4 (nI l) (nI d) rec s.1 s.2.1 s.2.2) (F + 1) (-1, 0, M) = fb_X3_readChain_6 F1 F2 F3 F4 (nI l) (nI d) (ro_loop (fun rec (s : Int32 × Int32 × ro_Mem) => fb_X3_readChain_6 F1 F2 F3 F4 (nI l) (nI d) rec s.1 s.2.1 s.2.2) F) (-1) 0 M from rfl]
  have hfin : ∀ {x : Option (ro_Mem ⊕ ro_Mem)} {M' : ro_Mem}, (x = some (.inl M') ∨ x = some (.inr M')) → (x.bind fun q30 => q30.elim (fun e32 => some e32) (fun e33 => some e33)) = some M' := fun {x} {M'} h => by
    rcases h with h | h <;> rw [h] <;> rfl
  have hb : ∀ R, fb_X3_readChain_6 F1 F2 F3 F4 (nI l) (nI d) R (-1) 0 M = (OP_ F1 F2 F3 l d M).bind fun q => fj_X3_readChain_127 F1 F2 F3 F4 R (nI l) (nI d) (-1) 0 0 (-1) q := fun R => by
    unfold fb_X3_readChain_6 fj_X3_readChain_40
    rw [if_neg (show ¬ (200 : Int32) ≤ 0 by decide), if_pos h.1.2.2.2.1, if_neg (show ¬ (-1 : Int32) = 11 by decide), if_neg (show ¬ (-1 : Int32) = 12 by decide), if_pos rfl, rt_61 hl]
  rw [hb]
  rcases hO s M hp hc h with ⟨e, M3, y1, y2, y3⟩ | ⟨s1, M3, y1, y2, y3⟩
  · have he := (Pr_go hn _ _ _ _ y1 hp hc).1
    obtain ⟨M4, z1, z2⟩ := rt_127F (F1 := F1) (F2 := F2) (F3 := F3) (F4 := F4) (v2 := nI l) (v3 := nI d) (v4 := -1) (v5 := 0) (v6 := 0) (v7 := -1) hs hT y3 (hstop e he)
    refine Or.inl ⟨e, M4, Pr_chainB hl y1, ?_, z2⟩
    rw [y2, Option.bind_some]
    exact hfin z1
  · obtain ⟨g1, g2⟩ := Pr_go hn _ _ _ _ y1 hp hc
    have hlt := g2 (opd_t l)
    have hpn := g1.2.1
    have hcc := g1.c_le hc
    have e127 : fj_X3_readChain_127 F1 F2 F3 F4 (ro_loop (fun rec (s : Int32 × Int32 × ro_Mem) => fb_X3_readChain_6 F1 F2 F3 F4 (nI l) (nI d) rec s.1 s.2.1 s.2.2) F) (nI l) (nI d) (-1) 0 0 (-1) M3 = fj_X3_readChain_161 F1 F2 F3 F4 (ro_loop (fun rec (s : Int32 × Int32 × ro_Mem) => fb_X3_readChain_6 F1 F2 F3 F4 (nI l) (nI d) rec s.1 s.2.1 s.2.2) F) (nI l) (nI d) 0 M3 := by
      unfold fj_X3_readChain_127
      rw [if_pos rfl, if_pos rfl]
    rw [y2, Option.bind_some, e127]
    rcases hmore (n - s1.p) s1 M3 F 0 (Nat.le_refl _) (by omega) (by omega) hpn hcc y3 with ⟨e, M5, z1, z2, z3⟩ | ⟨s2, M5, z1, z2, z3⟩
    · exact Or.inl ⟨e, M5, Pr_chain hl y1 z1, hfin z2, z3⟩
    · exact Or.inr ⟨s2, M5, Pr_chain hl y1 z1, hfin z2, z3⟩
theorem rt_chainF {v2 v3 e : Int32} {M : ro_Mem} (h : FE o0 m e M) (he : ¬ e = 0) : fo_X3_readChain F1 F2 F3 F4 v2 v3 M = some M := by
  unfold fo_X3_readChain fl_X3_readChain_6
  obtain ⟨F, hF⟩ : ∃ F, ro_FU = F + 1 := ⟨ro_FU - 1, by decide⟩
  rw [hF, show ro_loop (fun rec (s : Int32 × Int32 × ro_Mem) => fb_X3_readChain_6 F1 F2 F3 F4 v2 v3 rec s.1 s.2.1 s.2.2) (F + 1) (-1, 0, M) = fb_X3_readChain_6 F1 F2 F3 F4 v2 v3 (ro_loop (fun rec (s : Int32 × Int32 × ro_Mem) => fb_X3_readChain_6 F1 F2 F3 F4 v2 v3 rec s.1 s.2.1 s.2.2) F) (-1) 0 M from rfl]
  unfold fb_X3_readChain_6
  rw [if_neg (show ¬ (200 : Int32) ≤ 0 by decide), if_neg (by rw [h.2.2.2.1]; exact he)]
  rfl
end
theorem rt_X3 {b : Nat → Nat} {n o0 : Nat} {m : ro_Mem} (hs : Sp0 o0 m) (hT : Tp b n m) : ∀ N d, d ≤ 6 → (8 * (6 - d) + 1 ≤ N → GoodF b n o0 m 9 d ((fr_X3 N).2.2.1 (nI d))) ∧ (8 * (6 - d) + 2 ≤ N → GoodF b n o0 m 3 d ((fr_X3 N).1 (nI 3) (nI d))) ∧ (8 * (6 - d) + 3 ≤ N → GoodF b n o0 m 2 d ((fr_X3 N).1 (nI 2) (nI d))) ∧ (8 * (6 - d) + 4 ≤ N → GoodF b n o0 m 10 d ((fr_X3 N).2.2.2 (nI d))) ∧ (8 * (6 - d) + 5 ≤ N → GoodF b n o0 m 8 d ((fr_X3 N).2.1 (nI d))) ∧ (8 * (6 - d) + 6 ≤ N → GoodF b n o0 m 1 d ((fr_X3 N).1 (nI 1) (nI d))) ∧ (8 * (6 - d) + 7 ≤ N → GoodF b n o0 m 0 d ((fr_X3 N).1 (nI 0) (nI d))) ∧ (1 ≤ N → ∀ v2 v3 e M, FE o0 m e M → ¬ e = 0 → (fr_X3 N).1 v2 v3 M = some M) := by
  intro N
  induction N with
  | zero => intro d hd; refine ⟨?_, ?_, ?_, ?_, ?_, ?_, ?_, ?_⟩ <;> intro h <;> omega
  | succ N ih =>
    intro d hd
    obtain ⟨i9, i3, i2, i10, i8, i1, i0, iF⟩ := ih d hd
    refine ⟨fun h => ?_, fun h => ?_, fun h => ?_, fun h => ?_, fun h => ?_, fun h => ?_, fun h => ?_, fun h => ?_⟩
    · exact rt_factX (F1 := (fr_X3 N).1) (F2 := (fr_X3 N).2.1) (F3 := (fr_X3 N).2.2.1) (F4 := (fr_X3 N).2.2.2) hs hT hd (fun c => (ih (d + 1) (by omega)).2.2.1 (by omega))
    · exact rt_chainX (F1 := (fr_X3 N).1) (F2 := (fr_X3 N).2.1) (F3 := (fr_X3 N).2.2.1) (F4 := (fr_X3 N).2.2.2) hs hT (by decide) (i9 (by omega))
    · exact rt_chainX (F1 := (fr_X3 N).1) (F2 := (fr_X3 N).2.1) (F3 := (fr_X3 N).2.2.1) (F4 := (fr_X3 N).2.2.2) hs hT (by decide) (i3 (by omega))
    · exact rt_compX (F1 := (fr_X3 N).1) (F2 := (fr_X3 N).2.1) (F3 := (fr_X3 N).2.2.1) (F4 := (fr_X3 N).2.2.2) hs hT (i2 (by omega)) (fun e M hF he => ⟨M, iF (by omega) _ _ e M hF he, hF⟩)
    · exact rt_pieceX (F1 := (fr_X3 N).1) (F2 := (fr_X3 N).2.1) (F3 := (fr_X3 N).2.2.1) (F4 := (fr_X3 N).2.2.2) hs hT hd (fun c => (ih (d + 1) (by omega)).2.2.2.2.1 (by omega)) (fun c => (ih (d + 1) (by omega)).2.2.2.2.2.2.1 (by omega)) (i10 (by omega))
    · exact rt_chainX (F1 := (fr_X3 N).1) (F2 := (fr_X3 N).2.1) (F3 := (fr_X3 N).2.2.1) (F4 := (fr_X3 N).2.2.2) hs hT (by decide) (i8 (by omega))
    · exact rt_chainX (F1 := (fr_X3 N).1) (F2 := (fr_X3 N).2.1) (F3 := (fr_X3 N).2.2.1) (F4 := (fr_X3 N).2.2.2) hs hT (by decide) (i1 (by omega))
    · intro v2 v3 e M hF he
      exact rt_chainF hF he
