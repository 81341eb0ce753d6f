-- ===== the class's score, read through =====
def FO (o0 : Nat) (m : ro_Mem) (e : Int32) (M : ro_Mem) : Prop := (∀ o, ¬ o = 60 → ¬ (o0 ≤ o ∧ o ≤ o0 + 5) → M o = m o) ∧ (∀ k, ¬ k = 2 → ¬ k = 4 → M 60 k = m 60 k) ∧ M 60 4 = e
def SCt (o0 : Nat) (m : ro_Mem) (p N B A : Nat) (R : Nat → Nat → Nat) (M : ro_Mem) : Prop := FO o0 m 0 M ∧ M 60 2 = nI p ∧ M o0 5 = nI N ∧ M o0 6 = nI B ∧ M o0 7 = nI A ∧ ∀ j i, 1 ≤ j → j ≤ 5 → i < N → M (o0 + j) i = nI (R j i)
section
variable {b : Nat → Nat} {n : Nat} {m M : ro_Mem} {o0 : Nat}
theorem FO.tp {e : Int32} (ho : o0 + 5 < 60) (h : FO o0 m e M) (hT : Tp b n m) : Tp b n M := by
  obtain ⟨h1, h2, h3⟩ := hT
  exact ⟨by rw [h.2.1 3 (by decide) (by decide)]; exact h1, h2, fun i hi => by rw [h.1 61 (by decide) (by omega)]; exact h3 i hi⟩
theorem FT.fo {e : Int32} (h : FT m e M) : FO o0 m e M := ⟨fun o h1 _ => h.1.1 o h1, h.1.2, h.2⟩
theorem FO.trans {a b c : ro_Mem} {e f : Int32} (h : FO o0 a e b) (g : FO o0 b f c) : FO o0 a f c := ⟨fun o h1 h2 => (g.1 o h1 h2).trans (h.1 o h1 h2), fun k h1 h2 => (g.2.1 k h1 h2).trans (h.2.1 k h1 h2), g.2.2⟩
theorem rt_m50 (ho : o0 + 5 < 60) (v2 : Int32) (M : ro_Mem) : ∃ M3, fj_X5_readMark_50 o0 v2 M = some M3 ∧ (∀ o, ¬ o = 60 → ¬ o = o0 → M3 o = M o) ∧ (∀ k, ¬ k = 2 → M3 60 k = M 60 k) ∧ M3 60 2 = M 60 2 + 1 ∧ M3 o0 5 = M o0 5 ∧ M3 o0 6 = M o0 6 + 1 ∧ M3 o0 7 = M o0 7 + (if v2 = 47 then 1 else 0) := by
  have h98 : ∀ t : Int32, fj_X5_readMark_76 o0 (M o0 7) t (ro_set M o0 6 (M o0 6 + 1)) = some (ro_set (ro_set (ro_set M o0 6 (M o0 6 + 1)) o0 7 (M o0 7 + t)) 60 2 (M 60 2 + 1)) := fun t => by
    unfold fj_X5_readMark_76 fj_X5_readMark_98
    rw [ro_lt, ro_lt, ro_set_ne _ _ _ (show ¬ 60 = o0 by omega), ro_set_ne _ _ _ (show ¬ 60 = o0 by omega)]
  have e50 : fj_X5_readMark_50 o0 v2 M = some (ro_set (ro_set (ro_set M o0 6 (M o0 6 + 1)) o0 7 (M o0 7 + (if v2 = 47 then 1 else 0))) 60 2 (M 60 2 + 1)) := by
    unfold fj_X5_readMark_50
    rw [ro_lt, show ro_set M o0 6 (M o0 6 + 1) o0 7 = M o0 7 by rw [ro_set_same, pk_un (by decide)]]
    by_cases c : v2 = 47
    · rw [if_pos c, if_pos c, h98]
    · rw [if_neg c, if_neg c, h98]
  refine ⟨_, e50, fun o h1 h2 => ?_, fun k hk => ?_, ?_, ?_, ?_, ?_⟩
  · rw [ro_set_ne _ _ _ h1, ro_set_ne _ _ _ h2, ro_set_ne _ _ _ h2]
  · rw [ro_set_same, pk_un hk, ro_set_ne _ _ _ (show ¬ 60 = o0 by omega), ro_set_ne _ _ _ (show ¬ 60 = o0 by omega)]
  · rw [ro_set_same, pk_us]
  · rw [ro_set_ne _ _ _ (show ¬ o0 = 60 by omega), ro_set_same, pk_un (by decide), ro_set_same, pk_un (by decide)]
  · rw [ro_set_ne _ _ _ (show ¬ o0 = 60 by omega), ro_set_same, pk_un (by decide), ro_set_same, pk_us]
  · rw [ro_set_ne _ _ _ (show ¬ o0 = 60 by omega), ro_set_same, pk_us]
theorem rt_m50F {e v2 : Int32} (ho : o0 + 5 < 60) (h : FO o0 m e M) : ∃ M', fj_X5_readMark_50 o0 v2 M = some M' ∧ FO o0 m e M' := by
  obtain ⟨M3, a1, a2, a3, -⟩ := rt_m50 ho v2 M
  refine ⟨M3, a1, fun o h1 h2 => ?_, fun k k2 k4 => ?_, ?_⟩
  · rw [a2 o h1 (by omega)]; exact h.1 o h1 h2
  · rw [a3 k k2]; exact h.2.1 k k2 k4
  · rw [a3 4 (by decide)]; exact h.2.2
theorem rt_m98F {e : Int32} (h : FO o0 m e M) : ∃ M', fj_X5_readMark_98 M = some M' ∧ FO o0 m e M' := by
  unfold fj_X5_readMark_98
  rw [ro_lt]
  refine ⟨_, rfl, fun o h1 h2 => by rw [ro_set_ne _ _ _ h1]; exact h.1 o h1 h2, fun k k2 k4 => by rw [ro_set_same, pk_un k2]; exact h.2.1 k k2 k4, by rw [ro_set_same, pk_un (by decide)]; exact h.2.2⟩
theorem rt_m40F {e v2 : Int32} (ho : o0 + 5 < 60) (h : FO o0 m e M) (he : ¬ e = 0) : ∃ M', fj_X5_readMark_40 o0 v2 M = some M' ∧ FO o0 m e M' := by
  unfold fj_X5_readMark_40
  rw [rt_failF (by rw [h.2.2]; exact he), Option.bind_some]
  exact rt_m50F ho h
theorem rt_readMarkF {e : Int32} (ho : o0 + 5 < 60) (hT : Tp b n m) (h : FO o0 m e M) (he : ¬ e = 0) : ∃ M', fn_X5_readMark o0 M = some M' ∧ FO o0 m e M' := by
  obtain ⟨v, ev⟩ := rt_peekF (h.tp ho hT)
  have h17 : ∃ M', fj_X5_readMark_17 o0 v M = some M' ∧ FO o0 m e M' := by
    unfold fj_X5_readMark_17
    by_cases c1 : 12 ≤ M o0 6
    · rw [if_pos c1]; exact rt_m40F ho h he
    · rw [if_neg c1]
      by_cases c2 : v = 47
      · rw [if_pos c2]
        by_cases c3 : M o0 7 < 4
        · rw [if_pos c3]; exact rt_m50F ho h
        · rw [if_neg c3]; exact rt_m40F ho h he
      · rw [if_neg c2]; exact rt_m50F ho h
  unfold fn_X5_readMark
  rw [ev, Option.bind_some]
  by_cases c1 : v = 124
  · rw [if_pos c1]; exact h17
  · rw [if_neg c1]
    by_cases c2 : v = 47
    · rw [if_pos c2]; exact h17
    · rw [if_neg c2]
      by_cases c3 : v = 44
      · rw [if_pos c3]; exact rt_m98F h
      · rw [if_neg c3, rt_failF (by rw [h.2.2]; exact he), Option.bind_some]; exact rt_m98F h
theorem rt_readMark {q B A : Nat} (ho : o0 + 5 < 60) (hT : Tp b n m) (h2 : m 60 2 = nI q) (h4 : m 60 4 = 0) (hq : q < n) (h6 : m o0 6 = nI B) (h7 : m o0 7 = nI A) (hB : B ≤ 12) (hA : A ≤ 4) : (∃ e M', pm_ b B A q = .inl e ∧ fn_X5_readMark o0 m = some M' ∧ FO o0 m e M') ∨ ∃ B' A' M', pm_ b B A q = .inr (B', A') ∧ fn_X5_readMark o0 m = some M' ∧ (∀ o, ¬ o = 60 → ¬ o = o0 → M' o = m o) ∧ (∀ k, ¬ k = 2 → M' 60 k = m 60 k) ∧ M' 60 2 = nI (q + 1) ∧ M' o0 5 = m o0 5 ∧ M' o0 6 = nI B' ∧ M' o0 7 = nI A' := by
  have hn := hT.2.1
  have hb := (hT.2.2 q hq).2
  have hne : ∀ x, x < 256 → (nI (b q) = nI x ↔ b q = x) := fun x hx => nI_eq (by omega) (by omega)
  have f0 : FO o0 m 0 m := ⟨fun _ _ _ => rfl, fun _ _ _ => rfl, h4⟩
  have hbad : ∀ {e}, pm_ b B A q = .inl e → ¬ e = 0 := fun h => (pm_bad (by omega) h).1
  unfold fn_X5_readMark
  rw [rt_peek hT h2 (by omega), Option.bind_some]
  unfold ch_
  rw [if_pos hq]
  have h50 : ∀ {x : Option ro_Mem}, x = fj_X5_readMark_50 o0 (nI (b q)) m → pm_ b B A q = .inr (B + 1, if b q = 47 then A + 1 else A) → ∃ B' A' M', pm_ b B A q = .inr (B', A') ∧ x = some M' ∧ (∀ o, ¬ o = 60 → ¬ o = o0 → M' o = m o) ∧ (∀ k, ¬ k = 2 → M' 60 k = m 60 k) ∧ M' 60 2 = nI (q + 1) ∧ M' o0 5 = m o0 5 ∧ M' o0 6 = nI B' ∧ M' o0 7 = nI A' := fun {x} hx hpm => by
    obtain ⟨M3, a1, a2, a3, a4, a5, a6, a7⟩ := rt_m50 ho (nI (b q)) m
    refine ⟨_, _, M3, hpm, by rw [hx, a1], a2, a3, by rw [a4, h2, nI_1], a5, by rw [a6, h6, nI_1], ?_⟩
    rw [a7, h7]
    by_cases c : b q = 47
    · rw [if_pos (show nI (b q) = 47 from (hne 47 (by decide)).mpr c), if_pos c, nI_1]
    · rw [if_neg (show ¬ nI (b q) = 47 from fun z => c ((hne 47 (by decide)).mp z)), if_neg c]
      show nI A + nI 0 = nI A
      rw [nI_add, Nat.add_zero]
  have h40 : ∀ {x : Option ro_Mem}, x = fj_X5_readMark_40 o0 (nI (b q)) m → pm_ b B A q = .inl (flt 6 q) → ∃ e M', pm_ b B A q = .inl e ∧ x = some M' ∧ FO o0 m e M' := fun {x} hx hpm => by
    obtain ⟨f1, f2⟩ := rt_failC (M := m) (k := 6) (q := q) h4
    obtain ⟨M', z1, z2⟩ := rt_m50F (v2 := nI (b q)) ho (f2.fo (o0 := o0))
    refine ⟨_, M', hpm, ?_, z2⟩
    rw [hx]
    unfold fj_X5_readMark_40
    rw [h2, f1, Option.bind_some, z1]
  have h17 : ∀ {x : Option ro_Mem}, x = fj_X5_readMark_17 o0 (nI (b q)) m → (b q = 124 ∨ b q = 47) → (∃ e M', pm_ b B A q = .inl e ∧ x = some M' ∧ FO o0 m e M') ∨ ∃ B' A' M', pm_ b B A q = .inr (B', A') ∧ x = some M' ∧ (∀ o, ¬ o = 60 → ¬ o = o0 → M' o = m o) ∧ (∀ k, ¬ k = 2 → M' 60 k = m 60 k) ∧ M' 60 2 = nI (q + 1) ∧ M' o0 5 = m o0 5 ∧ M' o0 6 = nI B' ∧ M' o0 7 = nI A' := fun {x} hx hc => by
    have e44 : ¬ b q = 44 := by omega
    unfold fj_X5_readMark_17 at hx
    rw [h6, h7] at hx
    by_cases c1 : B = 12
    · rw [if_pos (show (12 : Int32) ≤ nI B from nI_le (a := 12) (by omega) (by omega))] at hx
      exact Or.inl (h40 hx (by unfold pm_; rw [if_neg e44, if_pos hc, if_pos (Or.inl c1)]))
    · rw [if_neg (show ¬ (12 : Int32) ≤ nI B from nI_ge (b := 12) (by omega) (by decide))] at hx
      by_cases c2 : b q = 47
      · rw [if_pos (show nI (b q) = 47 from (hne 47 (by decide)).mpr c2)] at hx
        by_cases c3 : A = 4
        · rw [if_neg (show ¬ nI A < 4 from nI_nlt (b := 4) (by omega) (by omega))] at hx
          exact Or.inl (h40 hx (by unfold pm_; rw [if_neg e44, if_pos hc, if_pos (Or.inr ⟨c2, c3⟩)]))
        · rw [if_pos (show nI A < 4 from nI_lt (b := 4) (by omega) (by decide))] at hx
          exact Or.inr (h50 hx (by unfold pm_; rw [if_neg e44, if_pos hc, if_neg (fun z => z.elim c1 (fun y => c3 y.2))]))
      · rw [if_neg (show ¬ nI (b q) = 47 from fun z => c2 ((hne 47 (by decide)).mp z))] at hx
        exact Or.inr (h50 hx (by unfold pm_; rw [if_neg e44, if_pos hc, if_neg (fun z => z.elim c1 (fun y => c2 y.1))]))
  by_cases c1 : b q = 124
  · rw [if_pos (show nI (b q) = 124 from (hne 124 (by decide)).mpr c1)]
    exact h17 rfl (Or.inl c1)
  · rw [if_neg (show ¬ nI (b q) = 124 from fun z => c1 ((hne 124 (by decide)).mp z))]
    by_cases c2 : b q = 47
    · rw [if_pos (show nI (b q) = 47 from (hne 47 (by decide)).mpr c2)]
      exact h17 rfl (Or.inr c2)
    · rw [if_neg (show ¬ nI (b q) = 47 from fun z => c2 ((hne 47 (by decide)).mp z))]
      by_cases c3 : b q = 44
      · rw [if_pos (show nI (b q) = 44 from (hne 44 (by decide)).mpr c3)]
        unfold fj_X5_readMark_98
        rw [ro_lt]
        refine Or.inr ⟨B, A, _, by unfold pm_; rw [if_pos c3], rfl, fun o h1 h3 => by rw [ro_set_ne _ _ _ h1], fun k hk => by rw [ro_set_same, pk_un hk], by rw [ro_set_same, pk_us, h2, nI_1], ?_, ?_, ?_⟩
        · rw [ro_set_ne _ _ _ (show ¬ o0 = 60 by omega)]
        · rw [ro_set_ne _ _ _ (show ¬ o0 = 60 by omega), h6]
        · rw [ro_set_ne _ _ _ (show ¬ o0 = 60 by omega), h7]
      · rw [if_neg (show ¬ nI (b q) = 44 from fun z => c3 ((hne 44 (by decide)).mp z))]
        obtain ⟨f1, f2⟩ := rt_failC (M := m) (k := 1) (q := q) h4
        obtain ⟨M', z1, z2⟩ := rt_m98F (f2.fo (o0 := o0))
        refine Or.inl ⟨flt 1 q, M', by unfold pm_; rw [if_neg c3, if_neg (fun z => z.elim c1 c2)], ?_, z2⟩
        rw [h2, f1, Option.bind_some, z1]
theorem rt_readLoop (ho : o0 + 5 < 60) (hT : Tp b n m) : ∀ f p N B A R fuel M, f + N = 33 → N ≤ 32 → 1 ≤ B → B ≤ 12 → 1 ≤ A → A ≤ 4 → p ≤ 200 → f + 1 < fuel → SCt o0 m p N B A R M → (∃ e M', ps_s b n f p N B A R = .inl e ∧ ro_loop (fun rec (s : Int32 × ro_Mem) => fb_X5_readFrom_17 o0 rec s.1 s.2) fuel (nI N, M) = some (.inr M') ∧ FO o0 m e M' ∧ ¬ e = 0 ∧ e ≤ 0) ∨ ∃ N' B' A' R' p' M', ps_s b n f p N B A R = .inr (N', B', A', R') ∧ ro_loop (fun rec (s : Int32 × ro_Mem) => fb_X5_readFrom_17 o0 rec s.1 s.2) fuel (nI N, M) = some (.inl M') ∧ SCt o0 m p' N' B' A' R' M' := by
  intro f
  induction f with
  | zero => intro p N B A R fuel M h1 h2; omega
  | succ f ih =>
    intro p N B A R fuel M hf hN hB1 hB hA1 hA hp hfu hS
    obtain ⟨s1, s2, s5, s6, s7, sR⟩ := hS
    have hn := hT.2.1
    cases fuel with
    | zero => omega
    | succ F =>
      have hih := fun p' B' A' R' M' => ih p' (N + 1) B' A' R' F M'
      have hstop : ∀ (M' : ro_Mem) (e : Int32), M' 60 4 = e → ¬ e = 0 → ro_loop (fun rec (s : Int32 × ro_Mem) => fb_X5_readFrom_17 o0 rec s.1 s.2) F (nI (N + 1), M') = some (.inr M') := fun M' e h4 he => by
        cases F with
        | zero => omega
        | succ F' =>
          show fb_X5_readFrom_17 o0 _ (nI (N + 1)) M' = _
          unfold fb_X5_readFrom_17
          by_cases c : 32 < nI (N + 1)
          · rw [if_pos c]
          · rw [if_neg c, if_neg (by rw [h4]; exact he)]
      have hTM := s1.tp ho hT
      have hu : ∀ {rec}, fb_X5_readFrom_17 o0 rec (nI N) M = ((fn_X5_readNote o0 M).bind fun q9 => if (q9 60 4) = 0 then ((fn_X8_peek q9).bind fun q14 => if q14 = (-1) then (some (.inl q9)) else (fj_X5_readFrom_55 rec o0 (nI N) q9)) else (fj_X5_readFrom_55 rec o0 (nI N) q9)) := fun {rec} => by
        unfold fb_X5_readFrom_17
        rw [if_neg (show ¬ (32 : Int32) < nI N from nI_nlt (a := 32) hN (by decide)), if_pos s1.2.2]
      rw [show ro_loop (fun rec (s : Int32 × ro_Mem) => fb_X5_readFrom_17 o0 rec s.1 s.2) (F + 1) (nI N, M) = fb_X5_readFrom_17 o0 (ro_loop (fun rec (s : Int32 × ro_Mem) => fb_X5_readFrom_17 o0 rec s.1 s.2) F) (nI N) M from rfl, hu]
      generalize ro_loop (fun rec (s : Int32 × ro_Mem) => fb_X5_readFrom_17 o0 rec s.1 s.2) F = rec at hih hstop ⊢
      rcases rt_readNote ho hTM s2 s1.2.2 hp hN s5 s6 s7 hB1 hA1 with ⟨e, M', n1, n2, n3⟩ | ⟨v, pt, l, q, M', n1, n2, n3⟩
      · have hb := pn_bad hn hp n1
        obtain ⟨M'', x1, x2⟩ := rt_readMarkF ho hTM (n3.fo (o0 := o0)) hb.1
        refine Or.inl ⟨e, M'', by unfold ps_s; rw [n1], ?_, s1.trans x2, hb⟩
        rw [n2, Option.bind_some, if_neg (by rw [n3.2]; exact hb.1)]
        unfold fj_X5_readFrom_55
        rw [x1, Option.bind_some, nI_1, hstop M'' e x2.2.2 hb.1]
      · obtain ⟨k1, k2, k3, k4, k5, k6, k7, k8⟩ := pn_ok n1
        obtain ⟨a1, a2, a3, a4, a5, a6⟩ := n3
        have f1 : FO o0 M 0 M' := ⟨a1, a2, a4⟩
        have hT' := f1.tp ho hTM
        have hR' : ∀ j i, 1 ≤ j → j ≤ 5 → i < N + 1 → M' (o0 + j) i = nI (rw_ R N (nx_ v pt l B A) j i) := fun j i j1 j5 hi => by
          rw [a6 j j1 j5]
          unfold rw_
          by_cases c : i = N
          · rw [c, pk_us, if_pos rfl]
          · rw [pk_un c, if_neg c]; exact sR j i j1 j5 (by omega)
        have z5 : M' o0 5 = nI (N + 1) := by rw [a5, pk_us]
        have z6 : M' o0 6 = nI B := by rw [a5, pk_un (by decide)]; exact s6
        have z7 : M' o0 7 = nI A := by rw [a5, pk_un (by decide)]; exact s7
        rw [n2, Option.bind_some, if_pos a4, rt_peek hT' a3 (by omega), Option.bind_some]
        unfold ch_
        by_cases cq : n ≤ q
        · rw [if_neg (show ¬ q < n by omega), if_pos rfl]
          refine Or.inr ⟨N + 1, B, A, rw_ R N (nx_ v pt l B A), q, M', by unfold ps_s; rw [n1]; exact if_pos cq, rfl, s1.trans f1, a3, z5, z6, z7, hR'⟩
        · have hq : q < n := by omega
          have hbq := (hT'.2.2 q hq).2
          rw [if_pos hq, if_neg (rt_m1 (show b q < 2 ^ 31 by omega))]
          have eps : ps_s b n (f + 1) p N B A R = (match pm_ b B A q with
            | .inl e => .inl e
            | .inr (B', A') => ps_s b n f (q + 1) (N + 1) B' A' (rw_ R N (nx_ v pt l B A))) := by
            show (match pn_ b n N p with
              | .inl e => _
              | .inr (v, pt, l, q) => _) = _
            rw [n1]
            exact if_neg cq
          rw [eps]
          unfold fj_X5_readFrom_55
          rcases rt_readMark ho hT' a3 a4 hq z6 z7 hB hA with ⟨e, M'', x1, x2, x3⟩ | ⟨B', A', M'', x1, x2, x3, x4, x5, x6, x7, x8⟩
          · have hb := pm_bad (show q ≤ 200 by omega) x1
            refine Or.inl ⟨e, M'', by rw [x1], ?_, (s1.trans f1).trans x3, hb⟩
            rw [x2, Option.bind_some, nI_1, hstop M'' e x3.2.2 hb.1]
          · rw [x2, Option.bind_some, nI_1, x1]
            have hm : 1 ≤ B' ∧ B' ≤ 12 ∧ 1 ≤ A' ∧ A' ≤ 4 := by
              unfold pm_ at x1
              split at x1
              · cases x1; omega
              · split at x1
                · split at x1
                  · cases x1
                  · rename_i c1 c2 c3
                    cases x1
                    refine ⟨by omega, by omega, ?_⟩
                    by_cases c4 : b q = 47
                    · rw [if_pos c4]; omega
                    · rw [if_neg c4]; omega
                · cases x1
            have f2 : FO o0 M' 0 M'' := ⟨fun o h1 h2 => x3 o h1 (by omega), fun k k2 k4 => x4 k k2, by rw [x4 4 (by decide)]; exact a4⟩
            by_cases cN : N + 1 ≤ 32
            · exact hih (q + 1) B' A' (rw_ R N (nx_ v pt l B A)) M'' (by omega) cN hm.1 hm.2.1 hm.2.2.1 hm.2.2.2 (by omega) (by omega) ⟨(s1.trans f1).trans f2, x5, by rw [x6, z5], x7, x8, fun j i j1 j5 hi => by rw [x3 _ (by omega) (by omega)]; exact hR' j i j1 j5 hi⟩
            · omega
theorem rt_readFrom (ho : o0 + 5 < 60) (hT : Tp b n m) (h2 : m 60 2 = 0) (h4 : m 60 4 = 0) : (∃ e M', ps_s b n 33 0 0 1 1 (fun _ _ => 0) = .inl e ∧ fn_X5_readFrom o0 m = some (e, M') ∧ FO o0 m e M' ∧ e ≤ 0) ∨ ∃ N B A R p M', ps_s b n 33 0 0 1 1 (fun _ _ => 0) = .inr (N, B, A, R) ∧ fn_X5_readFrom o0 m = some (nI N, M') ∧ SCt o0 m p N B A R M' := by
  obtain ⟨m5, e5⟩ : ∃ m5, m5 = ro_set (ro_set (ro_set m o0 5 0) o0 6 1) o0 7 1 := ⟨_, rfl⟩
  have n5 : ∀ o, ¬ o = o0 → m5 o = m o := fun o h => by rw [e5, ro_set_ne _ _ _ h, ro_set_ne _ _ _ h, ro_set_ne _ _ _ h]
  have hS : SCt o0 m 0 0 1 1 (fun _ _ => 0) m5 := by
    refine ⟨⟨fun o h1 h3 => n5 o (by omega), fun k k2 k4 => by rw [n5 60 (by omega)], by rw [n5 60 (by omega)]; exact h4⟩, by rw [n5 60 (by omega)]; exact h2, ?_, ?_, ?_, fun j i j1 j5 hi => absurd hi (by omega)⟩
    · rw [e5, ro_set_same, pk_un (by decide), ro_set_same, pk_un (by decide), ro_set_same, pk_us]; rfl
    · rw [e5, ro_set_same, pk_un (by decide), ro_set_same, pk_us]; rfl
    · rw [e5, ro_set_same, pk_us]; rfl
  unfold fn_X5_readFrom
  rw [ro_lt, ro_lt, ro_lt, ← e5]
  rcases rt_readLoop ho hT 33 0 0 1 1 (fun _ _ => 0) ro_FU m5 (by omega) (by omega) (by omega) (by omega) (by omega) (by omega) (by omega) (by decide) hS with ⟨e, M', x1, x2, x3, x4, x5⟩ | ⟨N, B, A, R, p, M', x1, x2, x3⟩
  · have x2 : fl_X5_readFrom_17 o0 (0, m5) = some (.inr M') := x2
    rw [x2, Option.bind_some]
    refine Or.inl ⟨e, M', x1, ?_, x3, x5⟩
    show some (M' 60 4, M') = _
    rw [x3.2.2]
  · have x2 : fl_X5_readFrom_17 o0 (0, m5) = some (.inl M') := x2
    rw [x2, Option.bind_some]
    refine Or.inr ⟨N, B, A, R, p, M', x1, ?_, x3⟩
    show some (M' o0 5, M') = _
    rw [x3.2.2.1]
end
