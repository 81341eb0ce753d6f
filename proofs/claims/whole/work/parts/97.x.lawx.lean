-- ===== the reference reads clauses and the law =====
def XFr (m M : ro_Mem) : Prop := (∀ o, ¬ o = 207 → ¬ (228 ≤ o ∧ o ≤ 233) → M o = m o) ∧ ∀ k, ¬ k = 14 → ¬ k = 16 → ¬ k = 17 → ¬ (34 ≤ k ∧ k ≤ 37) → M 207 k = m 207 k
def XK (m : ro_Mem) (e : Int32) (M : ro_Mem) : Prop := XFr m M ∧ M 207 16 = e
def TabM (C : Nat) (T : Nat → Nat → Nat) (M : ro_Mem) : Prop := ∀ c, c < C → M 230 c = nI (iv_let (T 0 c)) ∧ M 231 c = nI (T 1 c) ∧ M 232 c = nI (T 2 c) ∧ M 233 c = nI (T 3 c)
def RK (m : ro_Mem) (s : Sx) (C : Nat) (T : Nat → Nat → Nat) (M : ro_Mem) : Prop := XFr m M ∧ M 207 14 = nI s.p ∧ M 207 35 = nI s.c ∧ (∀ k, k < s.c → M 228 k = nI (cw_ (s.op k) (s.ar k))) ∧ M 207 37 = nI C ∧ TabM C T M
theorem i1_let : ∀ {c w : Nat}, i1_ c = some w → c = iv_let w := by
  intro c w h
  unfold i1_ at h
  repeat' split at h
  all_goals (cases h; try (rename_i e; rw [e]; rfl))
theorem i1_no {c : Nat} (h : i1_ c = none) : ¬ c = 100 ∧ ¬ c = 115 ∧ ¬ c = 109 ∧ ¬ c = 113 := by
  refine ⟨?_, ?_, ?_, ?_⟩ <;> intro e <;> rw [e] at h <;> exact absurd h (by decide)
theorem XFr.refl (m : ro_Mem) : XFr m m := ⟨fun _ _ _ => rfl, fun _ _ _ _ _ => rfl⟩
section
variable {b : Nat → Nat} {n : Nat} {m M M' : ro_Mem} {s : Sx} {C : Nat} {T : Nat → Nat → Nat}
theorem XFr.trans (h : XFr m M) (g : XFr M M') : XFr m M' := ⟨fun o h1 h2 => (g.1 o h1 h2).trans (h.1 o h1 h2), fun k h1 h2 h3 h4 => (g.2 k h1 h2 h3 h4).trans (h.2 k h1 h2 h3 h4)⟩
theorem XFr.rfr (h : XFr m M) (g : RFr M M') : XFr m M' := ⟨fun o h1 h2 => (g.1 o h1 (by omega) (by omega)).trans (h.1 o h1 h2), fun k h1 h2 h3 h4 => (g.2 k h1 h2 h3 (by omega)).trans (h.2 k h1 h2 h3 h4)⟩
theorem XFr.set (h : XFr m M) {k : Nat} (hk : k = 14 ∨ k = 16 ∨ k = 17 ∨ (34 ≤ k ∧ k ≤ 37)) (v : Int32) : XFr m (ro_set M 207 k v) := ⟨fun o ho h2 => by rw [ro_set_ne _ _ _ ho]; exact h.1 o ho h2, fun j h1 h2 h3 h4 => by rw [ro_set_same, pk_un (by omega)]; exact h.2 j h1 h2 h3 h4⟩
theorem XFr.arr (h : XFr m M) {o : Nat} (ho : 228 ≤ o ∧ o ≤ 233) (k : Nat) (v : Int32) : XFr m (ro_set M o k v) := ⟨fun o' h1 h2 => by rw [ro_set_ne _ _ _ (by omega)]; exact h.1 o' h1 h2, fun j h1 h2 h3 h4 => by rw [ro_set_ne _ _ _ (by omega)]; exact h.2 j h1 h2 h3 h4⟩
theorem XFr.rt (h : XFr m M) (hT : RT b n m) : RT b n M := by
  obtain ⟨h1, h2, h3⟩ := hT
  exact ⟨by rw [h.2 15 (by decide) (by decide) (by decide) (by omega)]; exact h1, h2, fun i hi => by rw [h.1 217 (by decide) (by omega)]; exact h3 i hi⟩
theorem rt_wrongR {k : Int32} (h : RK m s C T M) : ((fn_X12_wrongAt k (M 207 14) M).bind fun q32 => if q32.1 = 0 ∨ q32.1 = 1 then (some (q32.1, q32.2)) else none) = some (0, ro_set M 207 16 (flt k s.p)) ∧ XK m (flt k s.p) (ro_set M 207 16 (flt k s.p)) := by
  refine ⟨?_, h.1.set (by omega) _, by rw [ro_set_same, pk_us]⟩
  rw [h.2.1, rt_wrong, Option.bind_some, if_pos (Or.inl rfl)]
theorem rt_116 {kd a : Nat} {s0 : Sx} (hT : RT b n m) (hC : C < 14) (hp : s0.p ≤ n) (hc : s0.c ≤ s0.p) (hA : AW s0) (h : RK m s0 C T M) (h0 : M 230 C = nI (iv_let kd)) (h1 : M 231 C = nI a) (hW : M 207 36 = 0) (hO : M 207 34 = 0) : (∀ e, KR b n s0 (.inl e) → ∃ M', fj_X12_readsClause_116 M = some (0, M') ∧ XK m e M') ∧ ∀ s1, KR b n s0 (.inr s1) → ∃ M', fj_X12_readsClause_116 M = some (1, M') ∧ RK m s1 (C + 1) (addT T C kd a s0.c s1.c) M' := by
  obtain ⟨A, eA⟩ : ∃ A, A = ro_set M 232 C (nI s0.c) := ⟨_, rfl⟩
  have nA : ∀ o, ¬ o = 232 → A o = M o := fun o ho => by rw [eA, ro_set_ne _ _ _ ho]
  have fA : XFr m A := by rw [eA]; exact h.1.arr (by omega) _ _
  have A2 : A 232 = upd (M 232) C (nI s0.c) := by rw [eA, ro_set_same]
  have hu : fj_X12_readsClause_116 M = ((fn_X12_readsCondition A).bind fun q21 => if q21.1 = 0 then (some (0, q21.2)) else (if ro_in (q21.2 207 37) 14 then (ro_lt (ro_set q21.2 233 (q21.2 207 37).toNatClampNeg (q21.2 207 35)) fun m25 => ro_lt (ro_set m25 207 37 ((m25 207 37) + 1)) fun m27 => some (1, m27)) else none)) := by
    unfold fj_X12_readsClause_116
    rw [h.2.2.2.2.1, if_pos (rt_in hC (by decide)), ro_lt, nI_clamp (show C < 2 ^ 31 by omega), h.2.2.1, ← eA]
  have hR : RW A s0 [] 0 A := by
    refine ⟨⟨fun _ _ _ _ => rfl, fun _ _ _ _ _ => rfl⟩, ?_, ?_, ?_, ?_, fun k hk => ?_, trivial⟩
    · rw [nA 207 (by decide)]; exact h.2.1
    · rw [nA 207 (by decide)]; exact h.2.2.1
    · rw [nA 207 (by decide)]; exact hW
    · rw [nA 207 (by decide)]; exact hO
    · rw [nA 228 (by decide)]; exact h.2.2.2.1 k hk
  obtain ⟨q1, q2⟩ := rt_readsCondition (fA.rt hT) hp hc hA hR
  rw [hu]
  have bad : ∀ {e : Int32} {M' : ro_Mem}, fn_X12_readsCondition A = some (0, M') → RX A e M' → ∃ M', ((fn_X12_readsCondition A).bind fun q21 => if q21.1 = 0 then (some ((0 : Int32), q21.2)) else (if ro_in (q21.2 207 37) 14 then (ro_lt (ro_set q21.2 233 (q21.2 207 37).toNatClampNeg (q21.2 207 35)) fun m25 => ro_lt (ro_set m25 207 37 ((m25 207 37) + 1)) fun m27 => some (1, m27)) else none)) = some (0, M') ∧ XK m e M' := fun {e M'} y1 y2 => ⟨M', by rw [y1, Option.bind_some, if_pos rfl], fA.rfr y2.1, y2.2⟩
  constructor
  · intro e hk
    rcases hk with ⟨c, he⟩ | ⟨c, ⟨e', p1, he⟩ | ⟨s1, p1, ⟨c1, he⟩ | ⟨c1, he⟩⟩⟩
    · rw [Sum.inl.inj he]
      obtain ⟨M', y1, y2⟩ := q1 c
      exact bad y1 y2
    · rw [Sum.inl.inj he]
      obtain ⟨M', y1, y2⟩ := (q2 c).1 e' p1
      exact bad y1 y2
    · rw [Sum.inl.inj he]
      obtain ⟨M', y1, y2⟩ := ((q2 c).2 s1 p1).1 c1
      exact bad y1 y2
    · cases he
  · intro s1 hk
    rcases hk with ⟨c, he⟩ | ⟨c, ⟨e', p1, he⟩ | ⟨s2, p1, ⟨c1, he⟩ | ⟨c1, he⟩⟩⟩
    · cases he
    · cases he
    · cases he
    · have e : s1 = s2.adv := Sum.inr.inj he
      subst e
      obtain ⟨B, y1, y2⟩ := ((q2 c).2 s2 p1).2 c1
      have fB : XFr m B := fA.rfr y2.1
      have B37 : B 207 37 = nI C := by rw [y2.1.2 37 (by decide) (by decide) (by decide) (by omega), nA 207 (by decide)]; exact h.2.2.2.2.1
      have B35 : B 207 35 = nI s2.adv.c := y2.2.2.1
      have nB : ∀ o, 230 ≤ o → o ≤ 233 → B o = A o := fun o o1 o2 => y2.1.1 o (by omega) (by omega) (by omega)
      refine ⟨ro_set (ro_set B 233 C (nI s2.adv.c)) 207 37 (nI (C + 1)), ?_, (fB.arr (by omega) _ _).set (by omega) _, ?_, ?_, fun k hk => ?_, by rw [ro_set_same, pk_us], fun x hx => ?_⟩
      · rw [y1, Option.bind_some, if_neg rt_10]
        show (if ro_in (B 207 37) 14 then (ro_lt (ro_set B 233 (B 207 37).toNatClampNeg (B 207 35)) fun m25 => ro_lt (ro_set m25 207 37 ((m25 207 37) + 1)) fun m27 => some (1, m27)) else none) = _
        rw [B37, if_pos (rt_in hC (by decide)), nI_clamp (show C < 2 ^ 31 by omega), B35, ro_lt, ro_set_ne _ _ _ (show ¬ 207 = 233 by decide), B37, nI_1, ro_lt]
      · rw [ro_set_same, pk_un (by decide), ro_set_ne _ _ _ (by decide)]; exact y2.2.1
      · rw [ro_set_same, pk_un (by decide), ro_set_ne _ _ _ (by decide)]; exact y2.2.2.1
      · rw [ro_set_ne _ _ _ (by decide), ro_set_ne _ _ _ (by decide)]; exact y2.2.2.2.2.2.1 k hk
      · rw [ro_set_ne _ _ _ (show ¬ 230 = 207 by decide), ro_set_ne _ _ _ (show ¬ 230 = 233 by decide), ro_set_ne _ _ _ (show ¬ 231 = 207 by decide), ro_set_ne _ _ _ (show ¬ 231 = 233 by decide), ro_set_ne _ _ _ (show ¬ 232 = 207 by decide), ro_set_ne _ _ _ (show ¬ 232 = 233 by decide), ro_set_ne _ _ _ (show ¬ 233 = 207 by decide), ro_set_same, nB 230 (by omega) (by omega), nB 231 (by omega) (by omega), nB 232 (by omega) (by omega), nB 233 (by omega) (by omega), nA 230 (by decide), nA 231 (by decide), A2, nA 233 (by decide)]
        by_cases q : x = C
        · subst q
          rw [pk_us, pk_us, h0, h1]
          refine ⟨?_, ?_, ?_, ?_⟩
          · show _ = nI (iv_let (updN (T 0) x _ x)); rw [updN_s]; rfl
          · show _ = nI (updN (T 1) x _ x); rw [updN_s]; rfl
          · show _ = nI (updN (T 2) x _ x); rw [updN_s]; rfl
          · show _ = nI (updN (T 3) x _ x); rw [updN_s]; rfl
        · obtain ⟨t0, t1, t2, t3⟩ := h.2.2.2.2.2 x (by omega)
          rw [pk_un q, pk_un q, t0, t1, t2, t3]
          refine ⟨?_, ?_, ?_, ?_⟩
          · show _ = nI (iv_let (updN (T 0) C _ x)); rw [updN_n q]
          · show _ = nI (updN (T 1) C _ x); rw [updN_n q]
          · show _ = nI (updN (T 2) C _ x); rw [updN_n q]
          · show _ = nI (updN (T 3) C _ x); rw [updN_n q]
theorem rt_readsClauseR (hT : RT b n m) (hC : C ≤ 14) (hp : s.p ≤ n) (hc : s.c ≤ s.p) (hA : AW s) (h : RK m s C T M) : (∀ e, CR b n C s (.inl e) → ∃ M', fn_X12_readsClause M = some (0, M') ∧ XK m e M') ∧ ∀ kd x s1, CR b n C s (.inr (kd, x, s1)) → ∃ M', fn_X12_readsClause M = some (1, M') ∧ RK m s1 (C + 1) (addT T C kd s.c x s1.c) M' := by
  have hn := hT.2.1
  have hTM := h.1.rt hT
  have h39 : ∀ kd, ca_ b n i1_ s.p = some kd → fn_X12_readsClause M = fj_X12_readsClause_39 (nI (iv_let kd)) M := fun kd hk => by
    obtain ⟨k1, k2⟩ := ca_some hk
    have e := i1_let k2
    have k4 := i1_le k2
    have ech : ch_ b n s.p = nI (iv_let kd) := by unfold ch_; rw [if_pos k1, e]
    unfold fn_X12_readsClause
    rw [rt_here hTM h.2.1 (by omega), Option.bind_some, ech]
    have hk : kd = 0 ∨ kd = 1 ∨ kd = 2 ∨ kd = 3 := by omega
    rcases hk with rfl | rfl | rfl | rfl
    · rw [if_pos (show nI (iv_let 0) = 100 from rfl)]
    · rw [if_neg (show ¬ nI (iv_let 1) = 100 by decide), if_pos (show nI (iv_let 1) = 115 from rfl)]
    · rw [if_neg (show ¬ nI (iv_let 2) = 100 by decide), if_neg (show ¬ nI (iv_let 2) = 115 by decide), if_pos (show nI (iv_let 2) = 109 from rfl)]
    · rw [if_neg (show ¬ nI (iv_let 3) = 100 by decide), if_neg (show ¬ nI (iv_let 3) = 115 by decide), if_neg (show ¬ nI (iv_let 3) = 109 by decide), if_pos (show nI (iv_let 3) = 113 from rfl)]
  have hbad : ca_ b n i1_ s.p = none → fn_X12_readsClause M = some (0, ro_set M 207 16 (flt 1 s.p)) := fun hk => by
    have hz : ∀ v, v < 256 → ¬ i1_ v = none → ¬ ch_ b n s.p = nI v := fun v hv hi z => by
      obtain ⟨z1, z2⟩ := (ch_is hTM hv).mp z
      unfold ca_ at hk
      rw [if_pos z1, z2] at hk
      exact hi hk
    unfold fn_X12_readsClause
    rw [rt_here hTM h.2.1 (by omega), Option.bind_some, if_neg (show ¬ ch_ b n s.p = 100 from hz 100 (by decide) (by decide)), if_neg (show ¬ ch_ b n s.p = 115 from hz 115 (by decide) (by decide)), if_neg (show ¬ ch_ b n s.p = 109 from hz 109 (by decide) (by decide)), if_neg (show ¬ ch_ b n s.p = 113 from hz 113 (by decide) (by decide))]
    exact (rt_wrongR h).1
  -- a clause that has begun
  have go : ∀ kd, ca_ b n i1_ s.p = some kd → C < 14 → ∃ A, RK m s.adv C T A ∧ A 230 C = nI (iv_let kd) ∧ A 231 C = nI s.c ∧ A 207 36 = 0 ∧ A 207 34 = 0 ∧ fn_X12_readsClause M = if kd = 1 then fj_X12_readsClause_116 A else ((fn_X12_readsSum A).bind fun q29 => if q29.1 = 0 then (some (0, q29.2)) else (fj_X12_readsClause_116 q29.2)) := fun kd hk c14 => by
    have k4 := i1_le (ca_some hk).2
    obtain ⟨h1, h2, h3, h4, h5, h6⟩ := id h
    refine ⟨ro_set (ro_set (ro_set (ro_set (ro_set M 230 C (nI (iv_let kd))) 207 14 (nI (s.p + 1))) 231 C (nI s.c)) 207 34 0) 207 36 0, ⟨?_, ?_, ?_, fun k hk => ?_, ?_, fun x hx => ?_⟩, ?_, ?_, ?_, ?_, ?_⟩
    · exact ((((h1.arr (by omega) _ _).set (by omega) _).arr (by omega) _ _).set (by omega) _).set (by omega) _
    · rw [ro_set_same, pk_un (by decide), ro_set_same, pk_un (by decide), ro_set_ne _ _ _ (by decide), ro_set_same, pk_us]; rfl
    · rw [ro_set_same, pk_un (by decide), ro_set_same, pk_un (by decide), ro_set_ne _ _ _ (by decide), ro_set_same, pk_un (by decide), ro_set_ne _ _ _ (by decide)]; exact h3
    · rw [ro_set_ne _ _ _ (by decide), ro_set_ne _ _ _ (by decide), ro_set_ne _ _ _ (by decide), ro_set_ne _ _ _ (by decide), ro_set_ne _ _ _ (by decide)]; exact h4 k hk
    · rw [ro_set_same, pk_un (by decide), ro_set_same, pk_un (by decide), ro_set_ne _ _ _ (by decide), ro_set_same, pk_un (by decide), ro_set_ne _ _ _ (by decide)]; exact h5
    · obtain ⟨t0, t1, t2, t3⟩ := h6 x hx
      have q : ¬ x = C := by omega
      refine ⟨?_, ?_, ?_, ?_⟩
      · rw [ro_set_ne _ _ _ (by decide), ro_set_ne _ _ _ (by decide), ro_set_ne _ _ _ (by decide), ro_set_ne _ _ _ (by decide), ro_set_same, pk_un q]; exact t0
      · rw [ro_set_ne _ _ _ (by decide), ro_set_ne _ _ _ (by decide), ro_set_same, pk_un q, ro_set_ne _ _ _ (by decide), ro_set_ne _ _ _ (by decide)]; exact t1
      · rw [ro_set_ne _ _ _ (by decide), ro_set_ne _ _ _ (by decide), ro_set_ne _ _ _ (by decide), ro_set_ne _ _ _ (by decide), ro_set_ne _ _ _ (by decide)]; exact t2
      · rw [ro_set_ne _ _ _ (by decide), ro_set_ne _ _ _ (by decide), ro_set_ne _ _ _ (by decide), ro_set_ne _ _ _ (by decide), ro_set_ne _ _ _ (by decide)]; exact t3
    · rw [ro_set_ne _ _ _ (by decide), ro_set_ne _ _ _ (by decide), ro_set_ne _ _ _ (by decide), ro_set_ne _ _ _ (by decide), ro_set_same, pk_us]
    · rw [ro_set_ne _ _ _ (by decide), ro_set_ne _ _ _ (by decide), ro_set_same, pk_us]
    · rw [ro_set_same, pk_us]
    · rw [ro_set_same, pk_un (by decide), ro_set_same, pk_us]
    · rw [h39 kd hk]
      unfold fj_X12_readsClause_39
      have e1 : ro_set M 230 C (nI (iv_let kd)) 207 14 = nI s.p := by rw [ro_set_ne _ _ _ (by decide)]; exact h2
      have e2 : ro_set (ro_set M 230 C (nI (iv_let kd))) 207 14 (nI (s.p + 1)) 207 37 = nI C := by rw [ro_set_same, pk_un (by decide), ro_set_ne _ _ _ (by decide)]; exact h5
      have e3 : ro_set (ro_set M 230 C (nI (iv_let kd))) 207 14 (nI (s.p + 1)) 207 35 = nI s.c := by rw [ro_set_same, pk_un (by decide), ro_set_ne _ _ _ (by decide)]; exact h3
      rw [h5, if_neg (show ¬ nI C = 14 from fun z => by have := (nI_eq (b := 14) (by omega) (by decide)).mp z; omega), if_pos (rt_in c14 (by decide)), nI_clamp (show C < 2 ^ 31 by omega), ro_lt, e1, nI_1, ro_lt, e2, if_pos (rt_in c14 (by decide)), nI_clamp (show C < 2 ^ 31 by omega), e3, ro_lt, ro_lt, ro_lt]
      by_cases k1 : kd = 1
      · rw [if_pos k1, if_pos (show nI (iv_let kd) = 115 by rw [k1]; rfl)]
      · rw [if_neg k1, if_neg (show ¬ nI (iv_let kd) = 115 by
          have hk : kd = 0 ∨ kd = 2 ∨ kd = 3 := by omega
          rcases hk with rfl | rfl | rfl <;> decide)]
  have rw0 : ∀ A, RK m s.adv C T A → A 207 36 = 0 → A 207 34 = 0 → RW A s.adv [] 0 A := fun A hA h36 h34 => ⟨⟨fun _ _ _ _ => rfl, fun _ _ _ _ _ => rfl⟩, hA.2.1, hA.2.2.1, h36, h34, hA.2.2.2.1, trivial⟩
  have of0 : ∀ A B s0, RK m s.adv C T A → RW A s0 [] 0 B → RK m s0 C T B ∧ B 230 = A 230 ∧ B 231 = A 231 ∧ B 207 36 = 0 ∧ B 207 34 = 0 := fun A B s0 hA hB => by
    have g : ∀ o, 230 ≤ o → o ≤ 233 → B o = A o := fun o o1 o2 => hB.1.1 o (by omega) (by omega) (by omega)
    refine ⟨⟨hA.1.rfr hB.1, hB.2.1, hB.2.2.1, hB.2.2.2.2.2.1, by rw [hB.1.2 37 (by decide) (by decide) (by decide) (by omega)]; exact hA.2.2.2.2.1, fun x hx => by rw [g 230 (by omega) (by omega), g 231 (by omega) (by omega), g 232 (by omega) (by omega), g 233 (by omega) (by omega)]; exact hA.2.2.2.2.2 x hx⟩, g 230 (by omega) (by omega), g 231 (by omega) (by omega), hB.2.2.2.1, hB.2.2.2.2.1⟩
  constructor
  · intro e hr
    rcases hr with ⟨h1, he⟩ | ⟨kd, hk, ⟨h1, he⟩ | ⟨c14, ⟨k1, e', p1, he⟩ | ⟨s0, h0, ⟨e', h1, he⟩ | ⟨s1, _, he⟩⟩⟩⟩
    · rw [Sum.inl.inj he]
      exact ⟨_, hbad h1, (rt_wrongR h).2⟩
    · rw [Sum.inl.inj he]
      refine ⟨_, ?_, (rt_wrongR (k := 4) h).2⟩
      rw [h39 kd hk]
      unfold fj_X12_readsClause_39
      rw [h.2.2.2.2.1, if_pos (show nI C = 14 by rw [show C = 14 by omega]; rfl)]
      exact (rt_wrongR h).1
    · rw [Sum.inl.inj he]
      have hpn := (ca_some hk).1
      obtain ⟨A, a1, a2, a3, a4, a5, a6⟩ := go kd hk c14
      rw [if_neg k1] at a6
      obtain ⟨B, y1, y2⟩ := rt_readsSum (j := 19) (W := []) (a1.1.rt hT) (by decide) p1 (by decide) (by show s.p + 1 ≤ n; omega) (by show s.c + 0 ≤ s.p + 1 + 19; omega) (fun x hx => by cases hx) (NT_nil 1) (rw0 A a1 a4 a5)
      exact ⟨B, by rw [a6, y1, Option.bind_some, if_pos rfl], a1.1.rfr y2.1, y2.2⟩
    · rw [Sum.inl.inj he]
      have hpn := (ca_some hk).1
      obtain ⟨A, a1, a2, a3, a4, a5, a6⟩ := go kd hk c14
      rcases h0 with ⟨k1, rfl⟩ | ⟨k1, p1⟩
      · rw [if_pos k1] at a6
        rw [a6]
        exact (rt_116 (s0 := s.adv) hT c14 (by show s.p + 1 ≤ n; omega) (by show s.c ≤ s.p + 1; omega) hA a1 a2 a3 a4 a5).1 e' h1
      · rw [if_neg k1] at a6
        obtain ⟨B, y1, y2⟩ := rt_readsSum (j := 19) (W := []) (a1.1.rt hT) (by decide) p1 (by decide) (by show s.p + 1 ≤ n; omega) (by show s.c + 0 ≤ s.p + 1 + 19; omega) (fun x hx => by cases hx) (NT_nil 1) (rw0 A a1 a4 a5)
        have g := (Pr_go hn _ _ _ _ p1 (by show s.p + 1 ≤ n; omega) (by show s.c ≤ s.p + 1; omega)).1
        obtain ⟨b1, b2, b3, b4, b5⟩ := of0 A B s0 a1 y2
        rw [a6, y1, Option.bind_some, if_neg rt_10]
        exact (rt_116 hT c14 g.2.1 (g.c_le (by show s.c ≤ s.p + 1; omega)) ((show AW s.adv from hA).go g) b1 (by rw [b2]; exact a2) (by rw [b3]; exact a3) b4 b5).1 e' h1
    · cases he
  · intro kd x s1 hr
    rcases hr with ⟨h1, he⟩ | ⟨kd', hk, ⟨h1, he⟩ | ⟨c14, ⟨k1, e', p1, he⟩ | ⟨s0, h0, ⟨e', h1, he⟩ | ⟨s1', h1, he⟩⟩⟩⟩
    · cases he
    · cases he
    · cases he
    · cases he
    · have h3 := Prod.mk.inj (Sum.inr.inj he)
      have h4 := Prod.mk.inj h3.2
      obtain ⟨rfl, rfl, rfl⟩ : kd = kd' ∧ x = s0.c ∧ s1 = s1' := ⟨h3.1, h4.1, h4.2⟩
      have hpn := (ca_some hk).1
      obtain ⟨A, a1, a2, a3, a4, a5, a6⟩ := go kd hk c14
      rcases h0 with ⟨k1, rfl⟩ | ⟨k1, p1⟩
      · rw [if_pos k1] at a6
        rw [a6]
        exact (rt_116 (s0 := s.adv) hT c14 (by show s.p + 1 ≤ n; omega) (by show s.c ≤ s.p + 1; omega) hA a1 a2 a3 a4 a5).2 s1 h1
      · rw [if_neg k1] at a6
        obtain ⟨B, y1, y2⟩ := rt_readsSum (j := 19) (W := []) (a1.1.rt hT) (by decide) p1 (by decide) (by show s.p + 1 ≤ n; omega) (by show s.c + 0 ≤ s.p + 1 + 19; omega) (fun x hx => by cases hx) (NT_nil 1) (rw0 A a1 a4 a5)
        have g := (Pr_go hn _ _ _ _ p1 (by show s.p + 1 ≤ n; omega) (by show s.c ≤ s.p + 1; omega)).1
        obtain ⟨b1, b2, b3, b4, b5⟩ := of0 A B s0 a1 y2
        rw [a6, y1, Option.bind_some, if_neg rt_10]
        exact (rt_116 hT c14 g.2.1 (g.c_le (by show s.c ≤ s.p + 1; omega)) ((show AW s.adv from hA).go g) b1 (by rw [b2]; exact a2) (by rw [b3]; exact a3) b4 b5).2 s1 h1
end
