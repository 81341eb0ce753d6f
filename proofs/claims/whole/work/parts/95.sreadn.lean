-- ===== marks, and the whole score, as the reference reads them =====
section
variable {b : Nat → Nat} {n : Nat} {m M : ro_Mem}
def MkM (m : ro_Mem) (q B' A' : Nat) (M : ro_Mem) : Prop := (∀ o, ¬ o = 207 → M o = m o) ∧ (∀ k, ¬ k = 14 → ¬ k = 22 → ¬ k = 23 → M 207 k = m 207 k) ∧ M 207 14 = nI (q + 1) ∧ M 207 22 = nI B' ∧ M 207 23 = nI A'
theorem rt_s89 {q B A t : Nat} {v1 : Int32} (h : m 207 14 = nI q) (h22 : m 207 22 = nI B) (h23 : m 207 23 = nI A) : ∃ M', fj_X12_readsSign_89 v1 (m 207 22) (nI t) m = some (1, M') ∧ MkM m q (B + t) (A + if v1 = 47 then 1 else 0) M' := by
  obtain ⟨m7, e7⟩ : ∃ m7, m7 = ro_set m 207 22 (nI (B + t)) := ⟨_, rfl⟩
  have n7 : ∀ o, ¬ o = 207 → m7 o = m o := fun o h => by rw [e7, ro_set_ne _ _ _ h]
  have k7 : ∀ k, ¬ k = 22 → m7 207 k = m 207 k := fun k h => by rw [e7, ro_set_same, pk_un h]
  have e109 : ∀ u : Nat, fj_X12_readsSign_109 (m7 207 23) (nI u) m7 = some (1, ro_set (ro_set m7 207 23 (nI (A + u))) 207 14 (nI (q + 1))) := fun u => by
    unfold fj_X12_readsSign_109
    rw [k7 23 (by decide), h23, nI_add, ro_lt, ro_lt, ro_set_same, pk_un (show ¬ 14 = 23 by decide), k7 14 (by decide), h, nI_1]
  have fin : ∀ u, MkM m q (B + t) (A + u) (ro_set (ro_set m7 207 23 (nI (A + u))) 207 14 (nI (q + 1))) := fun u => by
    refine ⟨fun o ho => by rw [ro_set_ne _ _ _ ho, ro_set_ne _ _ _ ho]; exact n7 o ho, fun k k1 k2 k3 => by rw [ro_set_same, pk_un k1, ro_set_same, pk_un k3]; exact k7 k k2, by rw [ro_set_same, pk_us], ?_, ?_⟩
    · rw [ro_set_same, pk_un (by decide), ro_set_same, pk_un (by decide), e7, ro_set_same, pk_us]
    · rw [ro_set_same, pk_un (by decide), ro_set_same, pk_us]
  unfold fj_X12_readsSign_89
  rw [h22, nI_add, ro_lt, ← e7]
  by_cases c : v1 = 47
  · rw [if_pos c, if_pos c]
    exact ⟨_, e109 1, fin 1⟩
  · rw [if_neg c, if_neg c]
    exact ⟨_, e109 0, fin 0⟩
theorem rt_readsSign {q B A : Nat} (hT : RT b n m) (h : m 207 14 = nI q) (hq : q < n) (h22 : m 207 22 = nI B) (h23 : m 207 23 = nI A) (hB : B ≤ 12) (hA : A ≤ 4) : (∃ e M', pm_ b B A q = .inl e ∧ fn_X12_readsSign m = some (0, M') ∧ RF m M' ∧ M' 207 16 = e) ∨ ∃ B' A' M', pm_ b B A q = .inr (B', A') ∧ fn_X12_readsSign m = some (1, M') ∧ MkM m q B' A' M' := by
  have hn := hT.2.1
  have hb := (hT.2.2 q hq).2
  have hne : ∀ x, x < 256 → (nI (b q) = nI x ↔ b q = x) := fun x hx => nI_eq (by omega) (by omega)
  have bad : ∀ (k : Int32), ((fn_X12_wrongAt k (m 207 14) m).bind fun q48 => if q48.1 = 0 ∨ q48.1 = 1 then (some (q48.1, q48.2)) else none) = some (0, ro_set m 207 16 (flt k q)) := fun k => by
    rw [h, rt_wrong, Option.bind_some, if_pos (Or.inl rfl)]
  have badF : ∀ k : Int32, RF m (ro_set m 207 16 (flt k q)) ∧ ro_set m 207 16 (flt k q) 207 16 = flt k q := fun k => ⟨RF.rfl'.set (Or.inr (Or.inl rfl)) _, by rw [ro_set_same, pk_us]⟩
  have e62 : fj_X12_readsSign_62 m = some (0, ro_set m 207 16 (flt 6 q)) := bad 6
  have i44 : nI (b q) = (44 : Int32) ↔ b q = 44 := hne 44 (by decide)
  have i124 : nI (b q) = (124 : Int32) ↔ b q = 124 := hne 124 (by decide)
  have i47 : nI (b q) = (47 : Int32) ↔ b q = 47 := hne 47 (by decide)
  unfold fn_X12_readsSign
  rw [rt_here hT h (by omega), Option.bind_some]
  unfold ch_
  rw [if_pos hq]
  -- bars, and maybe an act
  have e73 : ¬ b q = 44 → fj_X12_readsSign_73 (nI (b q)) m = fj_X12_readsSign_89 (nI (b q)) (m 207 22) 1 m := fun c => by
    unfold fj_X12_readsSign_73
    rw [if_neg (fun z => c (i44.mp z))]
  have h17 : ∀ {x : Option (Int32 × ro_Mem)}, x = fj_X12_readsSign_33 (nI (b q)) m → (b q = 124 ∨ b q = 47) → (∃ e M', pm_ b B A q = .inl e ∧ x = some (0, M') ∧ RF m M' ∧ M' 207 16 = e) ∨ ∃ B' A' M', pm_ b B A q = .inr (B', A') ∧ x = some (1, M') ∧ MkM m q B' A' M' := fun {x} hx hc => by
    have e44 : ¬ b q = 44 := by omega
    unfold fj_X12_readsSign_33 fj_X12_readsSign_48 at hx
    rw [if_neg (fun z => e44 (i44.mp z)), h22, h23, e73 e44] at hx
    obtain ⟨M', y1, y2⟩ := rt_s89 (t := 1) (v1 := nI (b q)) h h22 h23
    have y1 : fj_X12_readsSign_89 (nI (b q)) (m 207 22) 1 m = some (1, M') := y1
    by_cases c1 : B = 12
    · rw [if_pos (show nI B = 12 by rw [c1]; rfl), e62] at hx
      exact Or.inl ⟨_, _, by unfold pm_; rw [if_neg e44, if_pos hc, if_pos (Or.inl c1)], hx, badF 6⟩
    · rw [if_neg (show ¬ nI B = 12 from fun z => c1 ((nI_eq (b := 12) (by omega) (by decide)).mp z))] at hx
      by_cases c2 : b q = 47
      · rw [if_pos (i47.mpr c2)] at hx y2
        by_cases c3 : A = 4
        · rw [if_pos (show nI A = 4 by rw [c3]; rfl), e62] at hx
          exact Or.inl ⟨_, _, by unfold pm_; rw [if_neg e44, if_pos hc, if_pos (Or.inr ⟨c2, c3⟩)], hx, badF 6⟩
        · rw [if_neg (show ¬ nI A = 4 from fun z => c3 ((nI_eq (b := 4) (by omega) (by decide)).mp z)), y1] at hx
          exact Or.inr ⟨B + 1, A + 1, M', by unfold pm_; rw [if_neg e44, if_pos hc, if_neg (fun z => z.elim c1 (fun y => c3 y.2)), if_pos c2], hx, y2⟩
      · rw [if_neg (fun z => c2 (i47.mp z))] at hx y2
        rw [y1] at hx
        exact Or.inr ⟨B + 1, A, M', by unfold pm_; rw [if_neg e44, if_pos hc, if_neg (fun z => z.elim c1 (fun y => c2 y.1)), if_neg c2], hx, y2⟩
  by_cases c3 : b q = 44
  · rw [if_pos (i44.mpr c3)]
    unfold fj_X12_readsSign_33 fj_X12_readsSign_48 fj_X12_readsSign_73
    rw [if_pos (i44.mpr c3), if_neg (fun z => by have := i47.mp z; omega), if_pos (i44.mpr c3)]
    obtain ⟨M', y1, y2⟩ := rt_s89 (t := 0) (v1 := nI (b q)) h h22 h23
    rw [if_neg (fun z => by have := i47.mp z; omega)] at y2
    exact Or.inr ⟨B, A, M', by unfold pm_; rw [if_pos c3], y1, y2⟩
  · rw [if_neg (fun z => c3 (i44.mp z))]
    by_cases c1 : b q = 124
    · rw [if_pos (i124.mpr c1)]
      exact h17 rfl (Or.inl c1)
    · rw [if_neg (fun z => c1 (i124.mp z))]
      by_cases c2 : b q = 47
      · rw [if_pos (i47.mpr c2)]
        exact h17 rfl (Or.inr c2)
      · rw [if_neg (fun z => c2 (i47.mp z)), bad 1]
        exact Or.inl ⟨flt 1 q, _, by unfold pm_; rw [if_neg c3, if_neg (fun z => z.elim c1 c2)], rfl, badF 1⟩
def RSt (m : ro_Mem) (p N B A : Nat) (R : Nat → Nat → Nat) (M : ro_Mem) : Prop := RF m M ∧ M 207 14 = nI p ∧ M 207 21 = nI N ∧ M 207 22 = nI B ∧ M 207 23 = nI A ∧ ∀ j i, 1 ≤ j → j ≤ 5 → i < N → M (222 + j) i = nI (R j i)
/-- what comes once a note has been read -/
def af_ (b : Nat → Nat) (n f q N B A : Nat) (R : Nat → Nat → Nat) : Int32 ⊕ (Nat × Nat × Nat × (Nat → Nat → Nat)) := if n ≤ q then .inr (N, B, A, R) else match pm_ b B A q with
  | .inl e => .inl e
  | .inr (B', A') => ps_s b n f (q + 1) N B' A' R
theorem ps_af {f p N B A : Nat} {R : Nat → Nat → Nat} : ps_s b n (f + 1) p N B A R = match pn_ b n N p with
  | .inl e => .inl e
  | .inr (v, pt, l, q) => af_ b n f q (N + 1) B A (rw_ R N (nx_ v pt l B A)) := rfl
theorem RSt.note {p N B A q v pt l : Nat} {R : Nat → Nat → Nat} {M' : ro_Mem} (h : RSt m p N B A R M) (g : NxM M N q (nx_ v pt l B A) M') : RSt m q (N + 1) B A (rw_ R N (nx_ v pt l B A)) M' := by
  obtain ⟨s1, s2, s3, s4, s5, s6⟩ := h
  obtain ⟨a1, a2, a3, a4, a5, a6⟩ := g
  refine ⟨s1.trans a1, a2, a3, by rw [a4, s4], by rw [a5, s5], fun j i j1 j5 hi => ?_⟩
  rw [a6 j j1 j5]
  unfold rw_
  by_cases c : i = N
  · rw [c, pk_us, if_pos rfl]
  · rw [pk_un c, if_neg c]; exact s6 j i j1 j5 (by omega)
theorem rt_scoreLoop (hT : RT b n m) : ∀ f q N B A R fuel M, f + N = 33 → N ≤ 32 → 1 ≤ B → B ≤ 12 → 1 ≤ A → A ≤ 4 → q ≤ n → f < fuel → RSt m q N B A R M → (∃ e M', af_ b n f q N B A R = .inl e ∧ ro_loop (fun rec s => fb_X12_readsScore_24 rec s) fuel M = some (.inl M') ∧ RF m M' ∧ M' 207 16 = e) ∨ ∃ N' B' A' R' p' M', af_ b n f q N B A R = .inr (N', B', A', R') ∧ ro_loop (fun rec s => fb_X12_readsScore_24 rec s) fuel M = some (.inr M') ∧ RSt m p' N' B' A' R' M' := by
  intro f
  induction f with
  | zero => intro q N B A R fuel M h1 h2; omega
  | succ f ih =>
    intro q N B A R fuel M hf hN hB1 hB hA1 hA hq hfu hS
    have hS' := hS
    obtain ⟨s1, s2, s3, s4, s5, s6⟩ := hS
    have hn := hT.2.1
    cases fuel with
    | zero => omega
    | succ F =>
      have hih := fun q' B' A' R' M' => ih q' (N + 1) B' A' R' F M'
      have hTM := s1.rt hT
      rw [show ro_loop (fun rec s => fb_X12_readsScore_24 rec s) (F + 1) M = fb_X12_readsScore_24 (ro_loop (fun rec s => fb_X12_readsScore_24 rec s) F) M from rfl]
      generalize ro_loop (fun rec s => fb_X12_readsScore_24 rec s) F = rec at hih ⊢
      unfold fb_X12_readsScore_24
      rw [hTM.1, s2]
      unfold af_
      by_cases cq : n ≤ q
      · rw [if_pos cq, if_pos (nI_le cq (by omega))]
        exact Or.inr ⟨N, B, A, R, q, M, rfl, rfl, hS'⟩
      · rw [if_neg cq, if_neg (nI_ge (by omega) (by omega))]
        rcases rt_readsSign hTM s2 (by omega) s4 s5 hB hA with ⟨e, M', x1, x2, x3, x4⟩ | ⟨B', A', M', x1, x2, x3⟩
        · rw [x1, x2, Option.bind_some, if_pos rfl]
          exact Or.inl ⟨e, M', rfl, rfl, s1.trans x3, x4⟩
        · obtain ⟨y1, y2, y3, y4, y5⟩ := x3
          have hm : 1 ≤ B' ∧ B' ≤ 12 ∧ 1 ≤ A' ∧ A' ≤ 4 := by
            unfold pm_ at x1
            split at x1
            · cases x1; omega
            · split at x1
              · split at x1
                · cases x1
                · rename_i c1 c2 c3
                  cases x1
                  refine ⟨by omega, by omega, ?_⟩
                  by_cases c4 : b q = 47
                  · rw [if_pos c4]; omega
                  · rw [if_neg c4]; omega
              · cases x1
          have rM : RF M M' := ⟨fun o h1 _ => y1 o h1, fun k k1 k2 k3 k4 => y2 k k1 (by omega) (by omega)⟩
          have hS2 : RSt m (q + 1) N B' A' R M' := ⟨s1.trans rM, y3, by rw [y2 21 (by decide) (by decide) (by decide)]; exact s3, y4, y5, fun j i j1 j5 hi => by rw [y1 _ (by omega)]; exact s6 j i j1 j5 hi⟩
          rw [x1, x2, Option.bind_some, if_neg rt_10]
          show (∃ e M', ps_s b n (f + 1) (q + 1) N B' A' R = .inl e ∧ _) ∨ ∃ N' B'' A'' R' p' M', ps_s b n (f + 1) (q + 1) N B' A' R = .inr (N', B'', A'', R') ∧ _
          rw [ps_af]
          rcases rt_readsNote ((s1.trans rM).rt hT) y3 (by omega) hN hS2.2.2.1 y4 y5 hm.1 hm.2.2.1 with ⟨e, M'', z1, z2, z3, z4⟩ | ⟨v, pt, l, q', M'', z1, z2, z3⟩
          · have z2 : fn_X12_readsNote ((1 : Int32), M').2 = some (0, M'') := z2
            rw [z1, z2, Option.bind_some, if_pos rfl]
            exact Or.inl ⟨e, M'', rfl, rfl, (s1.trans rM).trans z3, z4⟩
          · have z2 : fn_X12_readsNote ((1 : Int32), M').2 = some (1, M'') := z2
            obtain ⟨k1, k2, -, -, -, -, -, k8⟩ := pn_ok z1
            rw [z1, z2, Option.bind_some, if_neg rt_10]
            exact hih q' B' A' (rw_ R N (nx_ v pt l B' A')) M'' (by omega) (by omega) hm.1 hm.2.1 hm.2.2.1 hm.2.2.2 k8 (by omega) (hS2.note z3)
theorem rt_readsScore (hT : RT b n m) (h : m 207 14 = 0) : (∃ e M', ps_s b n 33 0 0 1 1 (fun _ _ => 0) = .inl e ∧ fn_X12_readsScore m = some (0, M') ∧ RF m M' ∧ M' 207 16 = e) ∨ ∃ N B A R p M', ps_s b n 33 0 0 1 1 (fun _ _ => 0) = .inr (N, B, A, R) ∧ fn_X12_readsScore m = some (1, M') ∧ RSt m p N B A R M' := by
  obtain ⟨m5, e5⟩ : ∃ m5, m5 = ro_set (ro_set (ro_set m 207 21 0) 207 22 1) 207 23 1 := ⟨_, rfl⟩
  have r5 : RF m m5 := by rw [e5]; exact ((RF.rfl'.set (Or.inr (Or.inr (Or.inr (by omega)))) _).set (Or.inr (Or.inr (Or.inr (by omega)))) _).set (Or.inr (Or.inr (Or.inr (by omega)))) _
  have hS : RSt m 0 0 1 1 (fun _ _ => 0) m5 := by
    refine ⟨r5, ?_, ?_, ?_, ?_, fun j i j1 j5 hi => absurd hi (by omega)⟩
    · rw [e5, ro_set_same, pk_un (by decide), ro_set_same, pk_un (by decide), ro_set_same, pk_un (by decide)]; exact h
    · rw [e5, ro_set_same, pk_un (by decide), ro_set_same, pk_un (by decide), ro_set_same, pk_us]; rfl
    · rw [e5, ro_set_same, pk_un (by decide), ro_set_same, pk_us]; rfl
    · rw [e5, ro_set_same, pk_us]; rfl
  have hn := hT.2.1
  unfold fn_X12_readsScore
  rw [ro_lt, ro_lt, ro_lt, ← e5, ps_af]
  rcases rt_readsNote (r5.rt hT) hS.2.1 (by omega) (by omega) hS.2.2.1 hS.2.2.2.1 hS.2.2.2.2.1 (by omega) (by omega) with ⟨e, M', z1, z2, z3, z4⟩ | ⟨v, pt, l, q, M', z1, z2, z3⟩
  · rw [z1, z2, Option.bind_some, if_pos rfl]
    exact Or.inl ⟨e, M', rfl, rfl, r5.trans z3, z4⟩
  · obtain ⟨k1, k2, -, -, -, -, -, k8⟩ := pn_ok z1
    rw [z1, z2, Option.bind_some, if_neg rt_10]
    rcases rt_scoreLoop hT 32 q 1 1 1 (rw_ (fun _ _ => 0) 0 (nx_ v pt l 1 1)) ro_FU M' (by omega) (by omega) (by omega) (by omega) (by omega) (by omega) k8 (by decide) (hS.note z3) with ⟨e, M'', x1, x2, x3, x4⟩ | ⟨N, B, A, R, p, M'', x1, x2, x3⟩
    · have x2 : fl_X12_readsScore_24 M' = some (.inl M'') := x2
      refine Or.inl ⟨e, M'', x1, ?_, x3, x4⟩
      show ((fl_X12_readsScore_24 M').bind _) = _
      rw [x2, Option.bind_some]
      rfl
    · have x2 : fl_X12_readsScore_24 M' = some (.inr M'') := x2
      refine Or.inr ⟨N, B, A, R, p, M'', x1, ?_, x3⟩
      show ((fl_X12_readsScore_24 M').bind _) = _
      rw [x2, Option.bind_some]
      rfl
end
