-- ===== the reference reads the whole law, and copies it =====
section
variable {b : Nat → Nat} {n : Nat} {m M M' : ro_Mem}
theorem lw_stop {F : Nat} : ro_loop (fun rec (s : Int32 × ro_Mem) => fb_X12_law_46 rec s.1 s.2) (F + 1) (0, M) = some (0, M) := by
  show fb_X12_law_46 _ 0 M = _
  unfold fb_X12_law_46
  rw [if_pos rfl]
theorem rt_lawLoopR (hT : RT b n m) : ∀ f C s T r M fuel, LR b n f C s T r → RK m s C T M → s.p ≤ n → s.c ≤ s.p → AW s → C ≤ 14 → f < fuel → match r with
    | .inl e => ∃ M', ((fn_X12_readsClause M).bind fun q => if q.1 = 0 then ro_loop (fun rec (s : Int32 × ro_Mem) => fb_X12_law_46 rec s.1 s.2) fuel (0, q.2) else ro_loop (fun rec (s : Int32 × ro_Mem) => fb_X12_law_46 rec s.1 s.2) fuel (1, q.2)) = some (0, M') ∧ XK m e M'
    | .inr x => ∃ M', ((fn_X12_readsClause M).bind fun q => if q.1 = 0 then ro_loop (fun rec (s : Int32 × ro_Mem) => fb_X12_law_46 rec s.1 s.2) fuel (0, q.2) else ro_loop (fun rec (s : Int32 × ro_Mem) => fb_X12_law_46 rec s.1 s.2) fuel (1, q.2)) = some (1, M') ∧ RK m x.2.1 x.1 x.2.2 M' := by
  have hn := hT.2.1
  intro f
  induction f with
  | zero => intro C s T r M fuel h; exact absurd h (fun x => x)
  | succ f ih =>
    intro C s T r M fuel h hR hp hc hA hC hfu
    cases fuel with
    | zero => omega
    | succ F =>
      obtain ⟨q1, q2⟩ := rt_readsClauseR hT hC hp hc hA hR
      rcases h with ⟨e, h1, rfl⟩ | ⟨kd, x, s1, h1, h2⟩
      · obtain ⟨A, y1, y2⟩ := q1 e h1
        refine ⟨A, ?_, y2⟩
        rw [y1, Option.bind_some, if_pos rfl, lw_stop]
      · obtain ⟨r1, r2, r3, r4, r5, r6, r7⟩ := CR_good hn hp hc h1
        obtain ⟨A, y1, y2⟩ := q2 kd x s1 h1
        have c1 := r5.c_le hc
        have p1 := r5.2.1
        have hA1 : AW s1 := hA.go r5
        have tA := y2.1.rt hT
        have hl : ro_loop (fun rec (s : Int32 × ro_Mem) => fb_X12_law_46 rec s.1 s.2) (F + 1) (1, A) = fb_X12_law_46 (ro_loop (fun rec (s : Int32 × ro_Mem) => fb_X12_law_46 rec s.1 s.2) F) 1 A := rfl
        rw [y1, Option.bind_some, if_neg rt_10, hl]
        have hu : ∀ R, fb_X12_law_46 R 1 A = if s1.p < n then ((fn_X12_takes 59 A).bind fun q17 => if q17.1 = 0 then (R (0, q17.2)) else ((fn_X12_readsClause q17.2).bind fun q20 => if q20.1 = 0 then (R (0, q20.2)) else (R (1, q20.2)))) else some (1, A) := fun R => by
          unfold fb_X12_law_46
          rw [if_neg rt_10, tA.1, y2.2.1]
          by_cases c : s1.p < n
          · rw [if_pos c, if_neg (nI_ge c (by omega))]
          · rw [if_neg c, if_pos (nI_le (by omega) (by omega))]
        rw [hu]
        rcases h2 with ⟨h3, rfl⟩ | ⟨h3, h4, rfl⟩ | ⟨h3, h4, h5⟩
        · rw [if_neg h3]
          exact ⟨A, rfl, y2⟩
        · rw [if_pos h3]
          rcases rt_takes (v := 59) tA y2.2.1 (by omega) (by decide) with ⟨c, _⟩ | ⟨_, z⟩
          · exact absurd c.2 h4
          · have z : fn_X12_takes 59 A = some (0, ro_set A 207 16 (flt 1 s1.p)) := z
            obtain ⟨F0, rfl⟩ : ∃ F0, F = F0 + 1 := ⟨F - 1, by
              have : 0 < F := by omega
              omega⟩
            refine ⟨ro_set A 207 16 (flt 1 s1.p), ?_, (rt_wrongR y2).2⟩
            rw [z, Option.bind_some, if_pos rfl, lw_stop]
        · rw [if_pos h3]
          rcases rt_takes (v := 59) tA y2.2.1 (by omega) (by decide) with ⟨_, z⟩ | ⟨c, _⟩
          · have z : fn_X12_takes 59 A = some (1, ro_set A 207 14 (nI (s1.p + 1))) := z
            rw [z, Option.bind_some, if_neg rt_10]
            have hK : RK m s1.adv (C + 1) (addT T C kd s.c x s1.c) (ro_set A 207 14 (nI (s1.p + 1))) := by
              obtain ⟨a1, a2, a3, a4, a5, a6⟩ := y2
              refine ⟨a1.set (by omega) _, by rw [ro_set_same, pk_us]; rfl, by rw [ro_set_same, pk_un (by decide)]; exact a3, fun k hk => by rw [ro_set_ne _ _ _ (by decide)]; exact a4 k hk, by rw [ro_set_same, pk_un (by decide)]; exact a5, fun y hy => ?_⟩
              rw [ro_set_ne _ _ _ (show ¬ 230 = 207 by decide), ro_set_ne _ _ _ (show ¬ 231 = 207 by decide), ro_set_ne _ _ _ (show ¬ 232 = 207 by decide), ro_set_ne _ _ _ (show ¬ 233 = 207 by decide)]
              exact a6 y hy
            exact ih (C + 1) s1.adv _ r _ F h5 hK (by show s1.p + 1 ≤ n; omega) (by show s1.c ≤ s1.p + 1; omega) hA1 (by omega) (by omega)
          · exact absurd ⟨h3, h4⟩ c
theorem rt_lawR (hT : RT b n m) {r : Int32 ⊕ (Nat × Sx × (Nat → Nat → Nat))} (h : LR b n 15 0 sx0 (fun _ _ => 0) r) (hR : RK m sx0 0 (fun _ _ => 0) m) : match r with
    | .inl e => ∃ M', ((fn_X12_readsClause m).bind fun q13 => fl_X12_law_46 (q13.1, q13.2)) = some (0, M') ∧ XK m e M'
    | .inr x => ∃ M', ((fn_X12_readsClause m).bind fun q13 => fl_X12_law_46 (q13.1, q13.2)) = some (1, M') ∧ RK m x.2.1 x.1 x.2.2 M' := by
  have hA : AW sx0 := fun k hk => absurd hk (Nat.not_lt_zero _)
  have g := rt_lawLoopR hT 15 0 sx0 _ r m ro_FU h hR (Nat.zero_le _) (Nat.zero_le _) hA (by decide) (by decide)
  have e : ((fn_X12_readsClause m).bind fun q13 => fl_X12_law_46 (q13.1, q13.2)) = ((fn_X12_readsClause m).bind fun q => if q.1 = 0 then ro_loop (fun rec (s : Int32 × ro_Mem) => fb_X12_law_46 rec s.1 s.2) ro_FU (0, q.2) else ro_loop (fun rec (s : Int32 × ro_Mem) => fb_X12_law_46 rec s.1 s.2) ro_FU (1, q.2)) := by
    obtain ⟨q1, q2⟩ := rt_readsClauseR hT (by decide) (Nat.zero_le _) (Nat.zero_le _) hA hR
    rcases h with ⟨e, h1, _⟩ | ⟨kd, x, s1, h1, _⟩
    · obtain ⟨A, y1, _⟩ := q1 e h1
      rw [y1, Option.bind_some, Option.bind_some, if_pos rfl]
      rfl
    · obtain ⟨A, y1, _⟩ := q2 kd x s1 h1
      rw [y1, Option.bind_some, Option.bind_some, if_neg rt_10]
      rfl
  rw [e]
  cases r with
  | inl e => exact g
  | inr x => exact g
theorem rt_copyLaw1 {c : Nat} (hc : c ≤ 219) (h35 : m 207 35 = nI c) : ∃ M, fl_X12_law_110 (0, m) = some M ∧ (∀ o, ¬ o = 234 → M o = m o) ∧ ∀ k, k < c → M 234 k = m 228 k := by
  have hl := rt_cnt (b := fun rec (s : Int32 × ro_Mem) => fb_X12_law_110 rec s.1 s.2) (fun i (M : ro_Mem) => (nI i, M)) (fun M => M) c (fun i M => (∀ o, ¬ o = 234 → M o = m o) ∧ ∀ k, k < i → M 234 k = m 228 k) (fun i hi rec M hP => by
    obtain ⟨p1, p2⟩ := hP
    refine ⟨ro_set M 234 i (m 228 i), ⟨fun o ho => by rw [ro_set_ne _ _ _ ho]; exact p1 o ho, fun k hk => ?_⟩, ?_⟩
    · rw [ro_set_same]
      by_cases q : k = i
      · rw [q, pk_us]
      · rw [pk_un q]; exact p2 k (by omega)
    · show fb_X12_law_110 rec (nI i) M = _
      unfold fb_X12_law_110
      rw [p1 207 (by decide), h35, if_neg (nI_ge hi (by omega)), if_pos (rt_in (n := 220) (by omega) (by decide)), nI_clamp (show i < 2 ^ 31 by omega), p1 228 (by decide), ro_lt, nI_1]) (fun rec M hP => by
    show fb_X12_law_110 rec (nI c) M = _
    unfold fb_X12_law_110
    rw [hP.1 207 (by decide), h35, if_pos (Int32.le_refl _)]) ro_FU (Nat.lt_of_le_of_lt hc (by decide)) m ⟨fun _ _ => rfl, fun k h => absurd h (by omega)⟩
  obtain ⟨M, ⟨m1, m2⟩, m3⟩ := hl
  exact ⟨M, m3, m1, m2⟩
theorem rt_copyLaw2 {C : Nat} (hC : C ≤ 14) (h37 : m 207 37 = nI C) : ∃ M, fl_X12_law_138 (0, m) = some M ∧ (∀ o, ¬ (235 ≤ o ∧ o ≤ 238) → M o = m o) ∧ ∀ k, k < C → M 235 k = m 230 k ∧ M 236 k = m 231 k ∧ M 237 k = m 232 k ∧ M 238 k = m 233 k := by
  have hl := rt_cnt (b := fun rec (s : Int32 × ro_Mem) => fb_X12_law_138 rec s.1 s.2) (fun i (M : ro_Mem) => (nI i, M)) (fun M => M) C (fun i M => (∀ o, ¬ (235 ≤ o ∧ o ≤ 238) → M o = m o) ∧ ∀ k, k < i → M 235 k = m 230 k ∧ M 236 k = m 231 k ∧ M 237 k = m 232 k ∧ M 238 k = m 233 k) (fun i hi rec M hP => by
    obtain ⟨p1, p2⟩ := hP
    obtain ⟨A1, a1⟩ : ∃ A1, A1 = ro_set M 235 i (m 230 i) := ⟨_, rfl⟩
    have n1 : ∀ o, ¬ o = 235 → A1 o = M o := fun o h => by rw [a1, ro_set_ne _ _ _ h]
    obtain ⟨A2, a2⟩ : ∃ A2, A2 = ro_set A1 236 i (m 231 i) := ⟨_, rfl⟩
    have n2 : ∀ o, ¬ o = 236 → A2 o = A1 o := fun o h => by rw [a2, ro_set_ne _ _ _ h]
    obtain ⟨A3, a3⟩ : ∃ A3, A3 = ro_set A2 237 i (m 232 i) := ⟨_, rfl⟩
    have n3 : ∀ o, ¬ o = 237 → A3 o = A2 o := fun o h => by rw [a3, ro_set_ne _ _ _ h]
    obtain ⟨A4, a4⟩ : ∃ A4, A4 = ro_set A3 238 i (m 233 i) := ⟨_, rfl⟩
    have n4 : ∀ o, ¬ o = 238 → A4 o = A3 o := fun o h => by rw [a4, ro_set_ne _ _ _ h]
    have q1 : A4 235 = upd (M 235) i (m 230 i) := by rw [n4 _ (by decide), n3 _ (by decide), n2 _ (by decide), a1, ro_set_same]
    have q2 : A4 236 = upd (M 236) i (m 231 i) := by rw [n4 _ (by decide), n3 _ (by decide), a2, ro_set_same, n1 _ (by decide)]
    have q3 : A4 237 = upd (M 237) i (m 232 i) := by rw [n4 _ (by decide), a3, ro_set_same, n2 _ (by decide), n1 _ (by decide)]
    have q4 : A4 238 = upd (M 238) i (m 233 i) := by rw [a4, ro_set_same, n3 _ (by decide), n2 _ (by decide), n1 _ (by decide)]
    refine ⟨A4, ⟨fun o ho => by rw [n4 o (by omega), n3 o (by omega), n2 o (by omega), n1 o (by omega)]; exact p1 o ho, fun k hk => ?_⟩, ?_⟩
    · rw [q1, q2, q3, q4]
      by_cases q : k = i
      · rw [q, pk_us, pk_us, pk_us, pk_us]; exact ⟨rfl, rfl, rfl, rfl⟩
      · rw [pk_un q, pk_un q, pk_un q, pk_un q]; exact p2 k (by omega)
    · show fb_X12_law_138 rec (nI i) M = _
      unfold fb_X12_law_138
      rw [p1 207 (by omega), h37, if_neg (nI_ge hi (by omega)), if_pos (rt_in (n := 14) (by omega) (by decide)), nI_clamp (show i < 2 ^ 31 by omega), p1 230 (by omega), ro_lt, ← a1, n1 231 (by decide), p1 231 (by omega), ro_lt, ← a2, n2 232 (by decide), n1 232 (by decide), p1 232 (by omega), ro_lt, ← a3, n3 233 (by decide), n2 233 (by decide), n1 233 (by decide), p1 233 (by omega), ro_lt, ← a4, nI_1]) (fun rec M hP => by
    show fb_X12_law_138 rec (nI C) M = _
    unfold fb_X12_law_138
    rw [hP.1 207 (by omega), h37, if_pos (Int32.le_refl _)]) ro_FU (Nat.lt_of_le_of_lt hC (by decide)) m ⟨fun _ _ => rfl, fun k h => absurd h (by omega)⟩
  obtain ⟨M, ⟨m1, m2⟩, m3⟩ := hl
  exact ⟨M, m3, m1, m2⟩
end
