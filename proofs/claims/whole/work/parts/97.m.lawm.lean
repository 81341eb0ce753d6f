-- ===== a sum's brackets and its end =====
section
variable {b : Nat → Nat} {n : Nat} {m M : ro_Mem} {s : Sx} {W : List Nat} {d z f : Nat}
theorem ch_93 (hT : RT b n M) : ch_ b n s.p = 93 ↔ (s.p < n ∧ b s.p = 93) := by
  unfold ch_
  by_cases c : s.p < n
  · rw [if_pos c]
    have hb := (hT.2.2 _ c).2
    have e : nI (b s.p) = (93 : Int32) ↔ b s.p = 93 := nI_eq (b := 93) (by omega) (by decide)
    rw [e]
    exact ⟨fun z => ⟨c, z⟩, fun z => z.2⟩
  · rw [if_neg c]
    exact ⟨fun z => absurd z (by decide), fun z => absurd z.1 c⟩
theorem RLx_close {s1 : Sx} {x : Nat} {W0 : List Nat} (hT : RT b n m) (h : RW m s W (d + 1) M) (hp : s.p ≤ 200) (hz : z ≤ 219) (hc : s.c + W.length ≤ 219) (hx : ∀ x, x ∈ W → x < 2 ^ 31) (hb : s.p < n ∧ b s.p = 93) (ho : hOp z W) (hcl : cl_ 1 s W = (s1, x :: W0)) : ∃ M', RLx z (f + 1) M = RLx z f M' ∧ RW m s1.adv W0 d M' := by
  have hTM := h.1.rt hT
  have hj : ca_ b n sg_ s.p = none := by unfold ca_; rw [if_pos hb.1, hb.2]; rfl
  obtain ⟨M1, x1, x2⟩ := rt_closes (k := 1) (by decide) (by omega) hx h
  rw [hcl] at x2
  have x1 : fn_X12_closesSums 1 M = some M1 := x1
  have hop : fn_X12_hasOpenSum (nI z) M = some 1 := by
    rcases rt_hasOpen (z := z) h (by omega) (by omega) hx with ⟨_, e⟩ | ⟨e, _⟩
    · exact e
    · exact absurd ho e
  have h2 := x2.pop
  have h3 := (h2.dep (d' := d)).adv
  refine ⟨_, ?_, h3⟩
  have e34 : ro_set M1 207 36 (M1 207 36 - 1) 207 34 - 1 = nI d := by
    rw [h2.2.2.2.2.1, show nI (d + 1) - 1 = nI (d + 1 - 1) from pk_sub (b := 1) (by omega), Nat.add_sub_cancel]
  have hbd : ∀ R, fb_X12_readsSum_14 (nI z) R M = R (ro_set (ro_set (ro_set M1 207 36 (M1 207 36 - 1)) 207 34 (nI d)) 207 14 (ro_set (ro_set M1 207 36 (M1 207 36 - 1)) 207 34 (nI d) 207 14 + 1)) := fun R => by
    unfold fb_X12_readsSum_14
    rw [rt_here hTM h.2.1 (by omega), Option.bind_some, rt_sumSign hTM, Option.bind_some, hj, show on2_ none = -1 from rfl, if_pos rfl, Option.bind_some, if_pos ((ch_93 hTM).mpr hb), hop, Option.bind_some, if_neg rt_10, x1, Option.bind_some, ro_lt, e34, ro_lt, ro_lt]
  unfold RLx
  rw [show ro_loop (fun rec s => fb_X12_readsSum_14 (nI z) rec s) (f + 1) M = fb_X12_readsSum_14 (nI z) (ro_loop (fun rec s => fb_X12_readsSum_14 (nI z) rec s) f) M from rfl, hbd]
theorem RLx_end (hT : RT b n m) (h : RW m s W d M) (hp : s.p ≤ 200) (hz : z ≤ 219) (hc : s.c + W.length ≤ 219) (hx : ∀ x, x ∈ W → x < 2 ^ 31) (hj : ca_ b n sg_ s.p = none) (hb : ¬ ((s.p < n ∧ b s.p = 93) ∧ hOp z W)) : (hOp z W ∧ ∃ M', RLx z (f + 1) M = some (0, M') ∧ RX m (flt 1 s.p) M') ∨ (¬ hOp z W ∧ ∃ M', RLx z (f + 1) M = some (1, M') ∧ RW m (cl_ 1 s W).1 (cl_ 1 s W).2 d M') := by
  have hTM := h.1.rt hT
  have hop := rt_hasOpen (z := z) h (by omega) (by omega) hx
  have hbd : ∀ R, fb_X12_readsSum_14 (nI z) R M = some (.inr M) := fun R => by
    unfold fb_X12_readsSum_14
    rw [rt_here hTM h.2.1 (by omega), Option.bind_some, rt_sumSign hTM, Option.bind_some, hj, show on2_ none = -1 from rfl, if_pos rfl, Option.bind_some]
    by_cases c : s.p < n ∧ b s.p = 93
    · rcases hop with ⟨e, _⟩ | ⟨_, e⟩
      · exact absurd ⟨c, e⟩ hb
      · rw [if_pos ((ch_93 hTM).mpr c), e, Option.bind_some, if_pos rfl]
    · rw [if_neg (fun q => c ((ch_93 hTM).mp q))]
  unfold RLx
  rw [show ro_loop (fun rec s => fb_X12_readsSum_14 (nI z) rec s) (f + 1) M = fb_X12_readsSum_14 (nI z) (ro_loop (fun rec s => fb_X12_readsSum_14 (nI z) rec s) f) M from rfl, hbd, Option.bind_some]
  dsimp only [Sum.elim_inr]
  unfold fj_X12_readsSum_139
  rcases hop with ⟨e1, e⟩ | ⟨e1, e⟩
  · rw [e, Option.bind_some, if_neg rt_10, h.2.1, rt_wrong, Option.bind_some, if_pos (Or.inl rfl)]
    exact Or.inl ⟨e1, ro_set M 207 16 (flt 1 s.p), rfl, h.1.set (Or.inr (Or.inl rfl)) _, by rw [ro_set_same, pk_us]⟩
  · obtain ⟨M1, x1, x2⟩ := rt_closes (k := 1) (by decide) (by omega) hx h
    have x1 : fn_X12_closesSums 1 M = some M1 := x1
    rw [e, Option.bind_some, if_pos rfl, x1, Option.bind_some]
    exact Or.inr ⟨e1, M1, rfl, x2⟩
end
