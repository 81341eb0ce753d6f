-- ===== clauses and the whole law: what is read =====
def KR (b : Nat → Nat) (n : Nat) (s0 : Sx) (r : Res) : Prop := (¬ (s0.p < n ∧ b s0.p = 40) ∧ r = .inl (flt 1 s0.p)) ∨ ((s0.p < n ∧ b s0.p = 40) ∧ ((∃ e, Pr b n 0 1 s0.adv (.inl e) ∧ r = .inl e) ∨ ∃ s1, Pr b n 0 1 s0.adv (.inr s1) ∧ ((¬ (s1.p < n ∧ b s1.p = 41) ∧ r = .inl (flt 1 s1.p)) ∨ ((s1.p < n ∧ b s1.p = 41) ∧ r = .inr s1.adv))))
def CR (b : Nat → Nat) (n C : Nat) (s : Sx) (r : Int32 ⊕ (Nat × Nat × Sx)) : Prop := (ca_ b n i1_ s.p = none ∧ r = .inl (flt 1 s.p)) ∨ ∃ kd, ca_ b n i1_ s.p = some kd ∧ ((¬ C < 14 ∧ r = .inl (flt 4 s.p)) ∨ (C < 14 ∧ ((¬ kd = 1 ∧ ∃ e, Pr b n 2 0 s.adv (.inl e) ∧ r = .inl e) ∨ ∃ s0, ((kd = 1 ∧ s0 = s.adv) ∨ (¬ kd = 1 ∧ Pr b n 2 0 s.adv (.inr s0))) ∧ ((∃ e, KR b n s0 (.inl e) ∧ r = .inl e) ∨ ∃ s1, KR b n s0 (.inr s1) ∧ r = .inr (kd, s0.c, s1)))))
def addT (T : Nat → Nat → Nat) (C kd a h e : Nat) : Nat → Nat → Nat := fun j => updN (T j) C (if j = 0 then kd else if j = 1 then a else if j = 2 then h else e)
def LR (b : Nat → Nat) (n : Nat) : Nat → Nat → Sx → (Nat → Nat → Nat) → (Int32 ⊕ (Nat × Sx × (Nat → Nat → Nat))) → Prop
  | 0 => fun _ _ _ _ => False
  | f + 1 => fun C s T r => (∃ e, CR b n C s (.inl e) ∧ r = .inl e) ∨ ∃ kd h s1, CR b n C s (.inr (kd, h, s1)) ∧ ((¬ s1.p < n ∧ r = .inr (C + 1, s1, addT T C kd s.c h s1.c)) ∨ (s1.p < n ∧ ¬ b s1.p = 59 ∧ r = .inl (flt 1 s1.p)) ∨ (s1.p < n ∧ b s1.p = 59 ∧ LR b n f (C + 1) s1.adv (addT T C kd s.c h s1.c) r))
theorem i1_le : ∀ {c w : Nat}, i1_ c = some w → w < 4 := by
  intro c w h
  unfold i1_ at h
  repeat' split at h
  all_goals (cases h; try decide)
theorem KR_bad {b : Nat → Nat} {n : Nat} {s0 : Sx} {e : Int32} (hn : n ≤ 200) (hp : s0.p ≤ n) (hc : s0.c ≤ s0.p) (h : KR b n s0 (.inl e)) : ¬ e = 0 ∧ e ≤ 0 := by
  rcases h with ⟨_, h⟩ | ⟨h40, ⟨e', p1, h⟩ | ⟨s1, p1, ⟨_, h⟩ | ⟨_, h⟩⟩⟩
  · rw [Sum.inl.inj h]
    exact flt_ok _ (by omega) 1 (by decide)
  · rw [Sum.inl.inj h]
    exact Pr_go hn _ _ _ _ p1 (by show s0.p + 1 ≤ n; omega) (by show s0.c ≤ s0.p + 1; omega)
  · rw [Sum.inl.inj h]
    have g := (Pr_go hn _ _ _ _ p1 (by show s0.p + 1 ≤ n; omega) (by show s0.c ≤ s0.p + 1; omega)).1.2.1
    exact flt_ok _ (by omega) 1 (by decide)
  · cases h
theorem KR_good {b : Nat → Nat} {n : Nat} {s0 s1 : Sx} (hn : n ≤ 200) (hp : s0.p ≤ n) (hc : s0.c ≤ s0.p) (h : KR b n s0 (.inr s1)) : Go0 n s0 s1 ∧ s0.p < s1.p ∧ ∃ N, sg_C (opI s1) (arI s1) N s0.c s1.c := by
  rcases h with ⟨_, h⟩ | ⟨h40, ⟨e', p1, h⟩ | ⟨s2, p1, ⟨_, h⟩ | ⟨h41, h⟩⟩⟩
  · cases h
  · cases h
  · cases h
  · have e : s1 = s2.adv := Sum.inr.inj h
    subst e
    have a1 : s0.adv.p ≤ n := by show s0.p + 1 ≤ n; omega
    have a2 : s0.adv.c ≤ s0.adv.p := by show s0.c ≤ s0.p + 1; omega
    have g := (Pr_go hn _ _ _ _ p1 a1 a2).1
    have w : WF 0 1 s0.adv s2 := Pr_wf hn _ _ _ _ p1 (by decide) a1 a2
    obtain ⟨N, hN⟩ := w.2.2.2.2.2.1 (by omega)
    have g0 : Go0 n s0 s0.adv := (Go0.rfl' hp).adv h40.1
    refine ⟨(g0.trans g).adv h41.1, ?_, N, hN⟩
    have := g.1
    have t : s0.adv.p = s0.p + 1 := rfl
    show s0.p < s2.p + 1
    omega
theorem CR_bad {b : Nat → Nat} {n C : Nat} {s : Sx} {e : Int32} (hn : n ≤ 200) (hp : s.p ≤ n) (hc : s.c ≤ s.p) (h : CR b n C s (.inl e)) : ¬ e = 0 ∧ e ≤ 0 := by
  rcases h with ⟨_, h⟩ | ⟨kd, hk, ⟨_, h⟩ | ⟨_, ⟨_, e', p1, h⟩ | ⟨s0, h0, ⟨e', h1, h⟩ | ⟨s1, _, h⟩⟩⟩⟩
  · rw [Sum.inl.inj h]
    exact flt_ok _ (by omega) 1 (by decide)
  · rw [Sum.inl.inj h]
    exact flt_ok _ (by omega) 4 (by decide)
  · have := (ca_some hk).1
    rw [Sum.inl.inj h]
    exact Pr_go hn _ _ _ _ p1 (by show s.p + 1 ≤ n; omega) (by show s.c ≤ s.p + 1; omega)
  · have hk := (ca_some hk).1
    rw [Sum.inl.inj h]
    rcases h0 with ⟨_, rfl⟩ | ⟨_, p1⟩
    · exact KR_bad hn (by show s.p + 1 ≤ n; omega) (by show s.c ≤ s.p + 1; omega) h1
    · have g := (Pr_go hn _ _ _ _ p1 (by show s.p + 1 ≤ n; omega) (by show s.c ≤ s.p + 1; omega)).1
      exact KR_bad hn g.2.1 (g.c_le (by show s.c ≤ s.p + 1; omega)) h1
  · cases h
theorem CR_good {b : Nat → Nat} {n C kd h : Nat} {s s1 : Sx} (hn : n ≤ 200) (hp : s.p ≤ n) (hc : s.c ≤ s.p) (hr : CR b n C s (.inr (kd, h, s1))) : kd < 4 ∧ C < 14 ∧ s.c ≤ h ∧ h < s1.c ∧ Go0 n s s1 ∧ (¬ kd = 1 → ∃ N, sg_E (opI s1) (arI s1) N 32 s.c h) ∧ ∃ N, sg_C (opI s1) (arI s1) N h s1.c := by
  rcases hr with ⟨_, h⟩ | ⟨kd', hk, ⟨_, h⟩ | ⟨hC, ⟨_, e', p1, h⟩ | ⟨s0, h0, ⟨e', h1, h⟩ | ⟨s1', h1, h2⟩⟩⟩⟩
  · cases h
  · cases h
  · cases h
  · cases h
  · have h3 := Prod.mk.inj (Sum.inr.inj h2)
    have h4 := Prod.mk.inj h3.2
    obtain ⟨rfl, rfl, rfl⟩ : kd = kd' ∧ h = s0.c ∧ s1 = s1' := ⟨h3.1, h4.1, h4.2⟩
    have hpn := (ca_some hk).1
    have hk4 := i1_le (ca_some hk).2
    have a1 : s.adv.p ≤ n := by show s.p + 1 ≤ n; omega
    have a2 : s.adv.c ≤ s.adv.p := by show s.c ≤ s.p + 1; omega
    have g0 : Go0 n s s.adv := (Go0.rfl' hp).adv hpn
    have key : Go0 n s s0 ∧ (¬ kd = 1 → ∃ N, sg_E (opI s0) (arI s0) N 32 s.c s0.c) := by
      rcases h0 with ⟨e1, rfl⟩ | ⟨e1, p1⟩
      · exact ⟨g0, fun q => absurd e1 q⟩
      · have g := (Pr_go hn _ _ _ _ p1 a1 a2).1
        have w : WF 2 0 s.adv s0 := Pr_wf hn _ _ _ _ p1 (by decide) a1 a2
        refine ⟨g0.trans g, fun _ => ?_⟩
        exact w.2.2.1 rfl 32 (by decide)
    obtain ⟨k1, k2⟩ := key
    have c0 := k1.c_le hc
    obtain ⟨g1, g2, N, hN⟩ := KR_good hn k1.2.1 c0 h1
    refine ⟨hk4, hC, k1.2.2.1, sg_C_lt hN, k1.trans g1, fun q => ?_, N, hN⟩
    obtain ⟨N', hN'⟩ := k2 q
    exact ⟨N', sg_E_cg (fun k x y => go_cg g1 k x y) hN'⟩
def GT (C : Nat) (s : Sx) (T : Nat → Nat → Nat) : Prop := ∀ c, c < C → T 0 c < 4 ∧ T 1 c ≤ T 2 c ∧ T 2 c < T 3 c ∧ T 3 c ≤ s.c ∧ (¬ T 0 c = 1 → ∃ N, sg_E (opI s) (arI s) N 32 (T 1 c) (T 2 c)) ∧ ∃ N, sg_C (opI s) (arI s) N (T 2 c) (T 3 c)
theorem GT.step {b : Nat → Nat} {n C kd h : Nat} {s s1 : Sx} {T : Nat → Nat → Nat} (hn : n ≤ 200) (hp : s.p ≤ n) (hc : s.c ≤ s.p) (hr : CR b n C s (.inr (kd, h, s1))) (hG : GT C s T) : GT (C + 1) s1 (addT T C kd s.c h s1.c) := by
  obtain ⟨r1, r2, r3, r4, r5, r6, r7⟩ := CR_good hn hp hc hr
  intro c hcC
  by_cases e : c = C
  · subst e
    have t0 : addT T c kd s.c h s1.c 0 c = kd := updN_s
    have t1 : addT T c kd s.c h s1.c 1 c = s.c := updN_s
    have t2 : addT T c kd s.c h s1.c 2 c = h := updN_s
    have t3 : addT T c kd s.c h s1.c 3 c = s1.c := updN_s
    rw [t0, t1, t2, t3]
    exact ⟨r1, r3, r4, Nat.le_refl _, r6, r7⟩
  · have t : ∀ j, addT T C kd s.c h s1.c j c = T j c := fun j => updN_n e
    rw [t 0, t 1, t 2, t 3]
    obtain ⟨g1, g2, g3, g4, g5, N, g6⟩ := hG c (by omega)
    have := r5.2.2.1
    refine ⟨g1, g2, g3, by omega, fun q => ?_, N, sg_C_cg (fun k x y => go_cg r5 k x (by omega)) g6⟩
    obtain ⟨N', hN'⟩ := g5 q
    exact ⟨N', sg_E_cg (fun k x y => go_cg r5 k x (by omega)) hN'⟩
def LOK (n : Nat) (r : Int32 ⊕ (Nat × Sx × (Nat → Nat → Nat))) : Prop := match r with
  | .inl e => ¬ e = 0 ∧ e ≤ 0
  | .inr x => 1 ≤ x.1 ∧ x.1 ≤ 14 ∧ x.2.1.p ≤ n ∧ x.2.1.c ≤ x.2.1.p ∧ GT x.1 x.2.1 x.2.2 ∧ AW x.2.1
theorem LR_ok {b : Nat → Nat} {n : Nat} (hn : n ≤ 200) : ∀ f C s T r, LR b n f C s T r → s.p ≤ n → s.c ≤ s.p → GT C s T → AW s → LOK n r := by
  intro f
  induction f with
  | zero => intro C s T r h; exact absurd h (fun x => x)
  | succ f ih =>
    intro C s T r h hp hc hG hA
    rcases h with ⟨e, h1, rfl⟩ | ⟨kd, h, s1, h1, h2⟩
    · exact CR_bad hn hp hc h1
    · obtain ⟨r1, r2, r3, r4, r5, r6, r7⟩ := CR_good hn hp hc h1
      have hG1 := hG.step hn hp hc h1
      have c1 := r5.c_le hc
      have hA1 : AW s1 := hA.go r5
      rcases h2 with ⟨h3, rfl⟩ | ⟨h3, h4, rfl⟩ | ⟨h3, h4, h5⟩
      · exact ⟨Nat.succ_le_succ (Nat.zero_le _), r2, r5.2.1, c1, hG1, hA.go r5⟩
      · have := r5.2.1
        exact flt_ok _ (by omega) 1 (by decide)
      · exact ih _ _ _ _ h5 (by show s1.p + 1 ≤ n; omega) (by show s1.c ≤ s1.p + 1; omega) hG1 hA1
