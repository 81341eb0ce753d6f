-- ===== what is read is in order =====
theorem sg_E_cg {op ar op' ar' : Nat → Int32} : ∀ {n s a b : Nat}, (∀ k, a ≤ k → k < b → op' k = op k ∧ ar' k = ar k) → sg_E op ar n s a b → sg_E op' ar' n s a b := by
  intro n
  induction n with
  | zero => intro s a b _ h; exact h
  | succ n ih =>
    intro s a b hk h
    rcases h with ⟨h1, h2, h3⟩ | ⟨m, w, h1, h2, h3, h4, h5, h6, h7⟩
    · refine Or.inl ⟨h1, h2, ?_⟩
      obtain ⟨e1, e2⟩ := hk a (by omega) (by omega)
      rw [e1, e2]
      exact h3
    · refine Or.inr ⟨m, w, h1, h2, h3, by rw [(hk (b - 1) (by omega) (by omega)).1]; exact h4, h5, ih (fun k x y => hk k x (by omega)) h6, ih (fun k x y => hk k (by omega) (by omega)) h7⟩
theorem sg_E_le {op ar : Nat → Int32} : ∀ {n n' s a b : Nat}, n ≤ n' → sg_E op ar n s a b → sg_E op ar n' s a b := by
  intro n
  induction n with
  | zero => intro n' s a b _ h; exact absurd h (fun x => x)
  | succ n ih =>
    intro n' s a b hn h
    cases n' with
    | zero => omega
    | succ n' =>
      rcases h with h | ⟨m, w, h1, h2, h3, h4, h5, h6, h7⟩
      · exact Or.inl h
      · exact Or.inr ⟨m, w, h1, h2, h3, h4, h5, ih (by omega) h6, ih (by omega) h7⟩
theorem sg_C_cg {op ar op' ar' : Nat → Int32} : ∀ {n a b : Nat}, (∀ k, a ≤ k → k < b → op' k = op k ∧ ar' k = ar k) → sg_C op ar n a b → sg_C op' ar' n a b := by
  intro n
  induction n with
  | zero => intro a b _ h; exact h
  | succ n ih =>
    intro a b hk h
    rcases h with ⟨m, w, h1, h2, h3, h4, h5, h6, h7⟩ | ⟨h1, h2, h3⟩ | ⟨m, h1, h2, h3, h4, h5, h6⟩
    · exact Or.inl ⟨m, w, h1, h2, h3, h4, by rw [(hk (b - 1) (by omega) (by omega)).1]; exact h5, sg_E_cg (fun k x y => hk k x (by omega)) h6, sg_E_cg (fun k x y => hk k (by omega) (by omega)) h7⟩
    · exact Or.inr (Or.inl ⟨h1, by rw [(hk (b - 1) (by omega) (by omega)).1]; exact h2, ih (fun k x y => hk k x (by omega)) h3⟩)
    · obtain ⟨e1, e2⟩ := hk m (by omega) (by omega)
      exact Or.inr (Or.inr ⟨m, h1, h2, by rw [e1]; exact h3, by rw [e2]; exact h4, ih (fun k x y => hk k x (by omega)) h5, ih (fun k x y => hk k (by omega) y) h6⟩)
theorem sg_C_le {op ar : Nat → Int32} : ∀ {n n' a b : Nat}, n ≤ n' → sg_C op ar n a b → sg_C op ar n' a b := by
  intro n
  induction n with
  | zero => intro n' a b _ h; exact absurd h (fun x => x)
  | succ n ih =>
    intro n' a b hn h
    cases n' with
    | zero => omega
    | succ n' =>
      rcases h with ⟨m, w, h1, h2, h3, h4, h5, h6, h7⟩ | ⟨h1, h2, h3⟩ | ⟨m, h1, h2, h3, h4, h5, h6⟩
      · exact Or.inl ⟨m, w, h1, h2, h3, h4, h5, sg_E_le (by omega) h6, sg_E_le (by omega) h7⟩
      · exact Or.inr (Or.inl ⟨h1, h2, ih (by omega) h3⟩)
      · exact Or.inr (Or.inr ⟨m, h1, h2, h3, h4, ih (by omega) h5, ih (by omega) h6⟩)
def opI (s : Sx) : Nat → Int32 := fun k => nI (s.op k)
def arI (s : Sx) : Nat → Int32 := fun k => nI (s.ar k)
def WE (S0 : Nat) (s s1 : Sx) : Prop := ∀ S, S0 ≤ S → ∃ N, sg_E (opI s1) (arI s1) N S s.c s1.c
def WEm (S0 : Nat) (s s1 : Sx) : Prop := ∀ a N0 S, S0 ≤ S → sg_E (opI s) (arI s) N0 S a s.c → ∃ N, sg_E (opI s1) (arI s1) N S a s1.c
def WC (s s1 : Sx) : Prop := ∃ N, sg_C (opI s1) (arI s1) N s.c s1.c
def WCm (s s1 : Sx) : Prop := ∀ a N0, sg_C (opI s) (arI s) N0 a s.c → ∃ N, sg_C (opI s1) (arI s1) N a s1.c
def WF (t d : Nat) (s s1 : Sx) : Prop := (t = 9 → WE (2 * (6 - d) + 1) s s1) ∧ (t = 3 → WE (2 * (6 - d) + 2) s s1) ∧ (t = 2 → WE (2 * (6 - d) + 3) s s1) ∧ (t = 7 → WEm (2 * (6 - d) + 2) s s1) ∧ (t = 6 → WEm (2 * (6 - d) + 3) s s1) ∧ ((t = 8 ∨ t = 10 ∨ t = 0 ∨ t = 1) → WC s s1) ∧ ((t = 4 ∨ t = 5) → WCm s s1)
def WFr (t d : Nat) (s : Sx) (r : Res) : Prop := match r with
  | .inl _ => True
  | .inr s1 => WF t d s s1
theorem emit_cg (s : Sx) (w v : Nat) {a : Nat} : ∀ k, a ≤ k → k < s.c → opI (s.emit w v) k = opI s k ∧ arI (s.emit w v) k = arI s k := fun k _ h => by
  show nI (updN s.op s.c w k) = _ ∧ nI (updN s.ar s.c v k) = _
  rw [updN_n (by omega), updN_n (by omega)]
  exact ⟨rfl, rfl⟩
theorem go_cg {n : Nat} {s s1 : Sx} (h : Go0 n s s1) {a : Nat} : ∀ k, a ≤ k → k < s.c → opI s1 k = opI s k ∧ arI s1 k = arI s k := fun k _ hk => by
  obtain ⟨e1, e2⟩ := h.2.2.2.2.1 k hk
  exact ⟨congrArg nI e1, congrArg nI e2⟩
/-- two values and what is done with them -/
theorem we_two {n : Nat} {s s1 : Sx} {w a N0 N1 S : Nat} (g : Go0 n s s1) (hw : w < 5) (hS : 2 ≤ S) (h0 : sg_E (opI s) (arI s) N0 S a s.c) (h1 : sg_E (opI s1) (arI s1) N1 (S - 1) s.c s1.c) : sg_E (opI (s1.emit w 0)) (arI (s1.emit w 0)) (max N0 N1 + 1) S a (s1.emit w 0).c := by
  have l0 := (sg_E_lt h0).1
  have l1 := (sg_E_lt h1).1
  have hc : (s1.emit w 0).c = s1.c + 1 := rfl
  rw [hc]
  refine Or.inr ⟨s.c, w, l0, by omega, hw, ?_, hS, ?_, ?_⟩
  · show nI (updN s1.op s1.c w (s1.c + 1 - 1)) = nI w
    rw [Nat.add_sub_cancel, updN_s]
  · refine sg_E_le (by omega) (sg_E_cg (fun k x y => ?_) h0)
    obtain ⟨a1, a2⟩ := emit_cg s1 w 0 k x (by omega)
    obtain ⟨b1, b2⟩ := go_cg g k x y
    exact ⟨a1.trans b1, a2.trans b2⟩
  · exact sg_E_le (by omega) (sg_E_cg (fun k x y => emit_cg s1 w 0 k x y) h1)
theorem Pr_wf {b : Nat → Nat} {n : Nat} (hn : n ≤ 200) : ∀ t d s r, Pr b n t d s r → d ≤ 6 → s.p ≤ n → s.c ≤ s.p → WFr t d s r := by
  have pa : ∀ s : Sx, s.adv.p = s.p + 1 := fun _ => rfl
  have pc : ∀ s : Sx, s.adv.c = s.c := fun _ => rfl
  have goS : ∀ {t d s s1}, Pr b n t d s (.inr s1) → s.p ≤ n → s.c ≤ s.p → Go0 n s s1 := fun h h1 h2 => (Pr_go hn _ _ _ _ h h1 h2).1
  have l4 : ∀ {l : Nat}, l < 4 → l = 0 ∨ l = 1 ∨ l = 2 ∨ l = 3 := fun h => by omega
  refine Pr_ind ?_ ?_ ?_ ?_ ?_ ?_ ?_ ?_ ?_ ?_ ?_ ?_ ?_ ?_ ?_ ?_ ?_ ?_ ?_ ?_ ?_ ?_ ?_ ?_ ?_ ?_ ?_
  · intros; trivial
  · intro d s l s1 x hl p1 ih1 p2 ih2 hd h1 h2
    cases x with
    | inl e => trivial
    | inr s2 =>
      have g1 := goS p1 h1 h2
      have w1 := ih1 hd h1 h2
      have w2 := ih2 hd g1.2.1 (g1.c_le h2)
      rcases l4 hl with rfl | rfl | rfl | rfl
      · obtain ⟨N, hN⟩ := w1.2.2.2.2.2.1 (Or.inr (Or.inr (Or.inr rfl)))
        exact ⟨fun q => absurd q (by decide), fun q => absurd q (by decide), fun q => absurd q (by decide), fun q => absurd q (by decide), fun q => absurd q (by decide), fun _ => w2.2.2.2.2.2.2 (Or.inl rfl) s.c N hN, fun q => absurd q (by decide)⟩
      · obtain ⟨N, hN⟩ := w1.2.2.2.2.2.1 (Or.inl rfl)
        exact ⟨fun q => absurd q (by decide), fun q => absurd q (by decide), fun q => absurd q (by decide), fun q => absurd q (by decide), fun q => absurd q (by decide), fun _ => w2.2.2.2.2.2.2 (Or.inr rfl) s.c N hN, fun q => absurd q (by decide)⟩
      · refine ⟨fun q => absurd q (by decide), fun q => absurd q (by decide), fun _ S hS => ?_, fun q => absurd q (by decide), fun q => absurd q (by decide), fun q => absurd q (by decide), fun q => absurd q (by decide)⟩
        obtain ⟨N, hN⟩ := w1.2.1 rfl S (by omega)
        exact w2.2.2.2.2.1 rfl s.c N S hS hN
      · refine ⟨fun q => absurd q (by decide), fun _ S hS => ?_, fun q => absurd q (by decide), fun q => absurd q (by decide), fun q => absurd q (by decide), fun q => absurd q (by decide), fun q => absurd q (by decide)⟩
        obtain ⟨N, hN⟩ := w1.1 rfl S (by omega)
        exact w2.2.2.2.1 rfl s.c N S hS hN
  · intro d s l hl _ hd h1 h2
    exact ⟨fun q => absurd q (by omega), fun q => absurd q (by omega), fun q => absurd q (by omega), fun _ a N0 S _ h => ⟨N0, h⟩, fun _ a N0 S _ h => ⟨N0, h⟩, fun q => absurd q (by omega), fun _ a N0 h => ⟨N0, h⟩⟩
  · intros; trivial
  · intro d s l w s1 x hl h2l hj p1 ih1 p2 ih2 hd h1 h2
    cases x with
    | inl e => trivial
    | inr s2 =>
      obtain ⟨hp, hw⟩ := ca_some hj
      have hw5 := (jt_le hw).2.2 h2l
      have g1 := goS p1 (by rw [pa]; omega) (by rw [pa, pc]; omega)
      have g0 : Go0 n s s1 := ((Go0.rfl' h1).adv hp).trans g1
      have w1 := ih1 hd (by rw [pa]; omega) (by rw [pa, pc]; omega)
      have hc1 := g1.2.2.2.1
      rw [pa, pc] at hc1
      have w2 := ih2 hd (by show s1.p ≤ n; exact g1.2.1) (by show s1.c + 1 ≤ s1.p; omega)
      have hl23 : l = 2 ∨ l = 3 := by omega
      rcases hl23 with rfl | rfl
      · refine ⟨fun q => absurd q (by decide), fun q => absurd q (by decide), fun q => absurd q (by decide), fun q => absurd q (by decide), fun _ a N0 S hS h => ?_, fun q => absurd q (by decide), fun q => absurd q (by decide)⟩
        obtain ⟨N, hN⟩ := w1.2.1 rfl (S - 1) (by omega)
        exact w2.2.2.2.2.1 rfl a _ S hS (we_two g0 hw5 (by omega) h hN)
      · refine ⟨fun q => absurd q (by decide), fun q => absurd q (by decide), fun q => absurd q (by decide), fun _ a N0 S hS h => ?_, fun q => absurd q (by decide), fun q => absurd q (by decide), fun q => absurd q (by decide)⟩
        obtain ⟨N, hN⟩ := w1.1 rfl (S - 1) (by omega)
        exact w2.2.2.2.1 rfl a _ S hS (we_two g0 hw5 (by omega) h hN)
  · intros; trivial
  · intro d s l w s1 x hl hj p1 ih1 p2 ih2 hd h1 h2
    cases x with
    | inl e => trivial
    | inr s2 =>
      obtain ⟨hp, hw⟩ := ca_some hj
      have hw' := (jt_le hw).2.1 hl
      have q1 : (s.adv.emit w 0).p = s.p + 1 := rfl
      have q2 : (s.adv.emit w 0).c = s.c + 1 := rfl
      have ge : Go0 n s (s.adv.emit w 0) := ((Go0.rfl' h1).adv hp).emit (by rw [pa, pc]; omega) (jt_le hw).1 (by omega)
      have g1 := goS p1 (by rw [q1]; omega) (by rw [q1, q2]; omega)
      have g0 : Go0 n s s1 := ge.trans g1
      have w1 := ih1 hd (by rw [q1]; omega) (by rw [q1, q2]; omega)
      have w2 := ih2 hd (by show s1.p ≤ n; exact g1.2.1) (by show s1.c ≤ s1.p; exact g0.c_le h2)
      have key : WC (s.adv.emit w 0) s1 → ∀ a N0, sg_C (opI s) (arI s) N0 a s.c → ∃ N, sg_C (opI (s1.land s.c)) (arI (s1.land s.c)) N a (s1.land s.c).c := fun hC a N0 h => by
        obtain ⟨N1, h1'⟩ := hC
        rw [q2] at h1'
        have la := sg_C_lt h
        have lb := sg_C_lt h1'
        have hlo : ∀ k, ¬ k = s.c → opI (s1.land s.c) k = opI s1 k ∧ arI (s1.land s.c) k = arI s1 k := fun k hk => by
          refine ⟨rfl, ?_⟩
          show nI (updN s1.ar s.c s1.c k) = _
          rw [updN_n hk]
          rfl
        have hop : s1.op s.c = w := by
          have := (g1.2.2.2.2.1 s.c (by rw [q2]; omega)).1
          rw [this]
          show updN s.adv.op s.adv.c w s.c = w
          exact updN_s
        refine ⟨max N0 N1 + 1, Or.inr (Or.inr ⟨s.c, la, lb, ?_, ?_, ?_, ?_⟩)⟩
        · show nI (s1.op s.c) = 11 ∨ nI (s1.op s.c) = 12
          rw [hop, hw']
          have hl01 : l = 0 ∨ l = 1 := by omega
          rcases hl01 with rfl | rfl
          · exact Or.inr rfl
          · exact Or.inl rfl
        · show nI (updN s1.ar s.c s1.c s.c) = nI s1.c
          rw [updN_s]
        · refine sg_C_le (by omega) (sg_C_cg (fun k x y => ?_) h)
          obtain ⟨a1, a2⟩ := hlo k (by omega)
          obtain ⟨b1, b2⟩ := go_cg g0 k x y
          exact ⟨a1.trans b1, a2.trans b2⟩
        · exact sg_C_le (by omega) (sg_C_cg (fun k x y => hlo k (by omega)) h1')
      have hl01 : l = 0 ∨ l = 1 := by omega
      rcases hl01 with rfl | rfl
      · refine ⟨fun q => absurd q (by decide), fun q => absurd q (by decide), fun q => absurd q (by decide), fun q => absurd q (by decide), fun q => absurd q (by decide), fun q => absurd q (by decide), fun _ a N0 h => ?_⟩
        obtain ⟨N, hN⟩ := key (w1.2.2.2.2.2.1 (Or.inr (Or.inr (Or.inr rfl)))) a N0 h
        exact w2.2.2.2.2.2.2 (Or.inl rfl) a N hN
      · refine ⟨fun q => absurd q (by decide), fun q => absurd q (by decide), fun q => absurd q (by decide), fun q => absurd q (by decide), fun q => absurd q (by decide), fun q => absurd q (by decide), fun _ a N0 h => ?_⟩
        obtain ⟨N, hN⟩ := key (w1.2.2.2.2.2.1 (Or.inl rfl)) a N0 h
        exact w2.2.2.2.2.2.2 (Or.inr rfl) a N hN
  · intro d s k hk hd h1 h2
    have hk12 := lt_le (ca_some hk).2
    refine ⟨fun _ S hS => ⟨1, Or.inl ⟨rfl, by omega, Or.inr ⟨?_, ?_⟩⟩⟩, fun q => absurd q (by decide), fun q => absurd q (by decide), fun q => absurd q (by decide), fun q => absurd q (by decide), fun q => absurd q (by decide), fun q => absurd q (by decide)⟩
    · show nI (updN s.op s.c 9 s.c) = 9
      rw [updN_s]; rfl
    · show ro_in (nI (updN s.ar s.c k s.c)) 12
      rw [updN_s]; exact rt_in hk12 (by decide)
  · intro d s k k1 k5 hd' he hd h1 h2
    refine ⟨fun _ S hS => ⟨1, Or.inl ⟨rfl, by omega, Or.inl ?_⟩⟩, fun q => absurd q (by decide), fun q => absurd q (by decide), fun q => absurd q (by decide), fun q => absurd q (by decide), fun q => absurd q (by decide), fun q => absurd q (by decide)⟩
    show nI (updN s.op s.c 8 s.c) = 8
    rw [updN_s]; rfl
  · intros; trivial
  · intros; trivial
  · intros; trivial
  · intros; trivial
  · intros; trivial
  · intro d s s1 hb hd6 hc p1 ih hd h1 h2
    have w1 := ih (by omega) (by rw [pa]; omega) (by rw [pa, pc]; omega)
    refine ⟨fun _ S hS => ?_, fun q => absurd q (by decide), fun q => absurd q (by decide), fun q => absurd q (by decide), fun q => absurd q (by decide), fun q => absurd q (by decide), fun q => absurd q (by decide)⟩
    exact w1.2.2.1 rfl S (by omega)
  · intros; trivial
  · intros; trivial
  · intro d s s1 hb hd6 p1 ih hd h1 h2
    obtain ⟨N, hN⟩ := (ih (by omega) (by rw [pa]; omega) (by rw [pa, pc]; omega)).2.2.2.2.2.1 (Or.inl rfl)
    have hN : sg_C (opI s1) (arI s1) N s.c s1.c := hN
    have hlt := sg_C_lt hN
    refine ⟨fun q => absurd q (by decide), fun q => absurd q (by decide), fun q => absurd q (by decide), fun q => absurd q (by decide), fun q => absurd q (by decide), fun _ => ⟨N + 1, Or.inr (Or.inl ⟨?_, ?_, ?_⟩)⟩, fun q => absurd q (by decide)⟩
    · show s.c + 1 < s1.c + 1; omega
    · show nI (updN s1.op s1.c 10 (s1.c + 1 - 1)) = 10
      rw [Nat.add_sub_cancel, updN_s]; rfl
    · show sg_C (opI (s1.emit 10 0)) (arI (s1.emit 10 0)) N s.c (s1.c + 1 - 1)
      rw [Nat.add_sub_cancel]
      exact sg_C_cg (fun k x y => emit_cg s1 10 0 k x y) hN
  · intros; trivial
  · intros; trivial
  · intros; trivial
  · intro d s s1 hb hd6 hc p1 ih hd h1 h2
    have w1 := (ih (by omega) (by rw [pa]; omega) (by rw [pa, pc]; omega)).2.2.2.2.2.1 (Or.inr (Or.inr (Or.inl rfl)))
    exact ⟨fun q => absurd q (by decide), fun q => absurd q (by decide), fun q => absurd q (by decide), fun q => absurd q (by decide), fun q => absurd q (by decide), fun _ => w1, fun q => absurd q (by decide)⟩
  · intro d s x hx p1 ih hd h1 h2
    cases x with
    | inl e => trivial
    | inr s1 =>
      have w1 := (ih hd h1 h2).2.2.2.2.2.1 (Or.inr (Or.inl rfl))
      exact ⟨fun q => absurd q (by decide), fun q => absurd q (by decide), fun q => absurd q (by decide), fun q => absurd q (by decide), fun q => absurd q (by decide), fun _ => w1, fun q => absurd q (by decide)⟩
  · intros; trivial
  · intros; trivial
  · intros; trivial
  · intro d s s1 w s2 hc p1 ih1 p2 ih2 hd h1 h2
    obtain ⟨hp, hw⟩ := ca_some hc
    have hw := cp_le hw
    have g1 := goS p1 h1 h2
    have hc1 := g1.c_le h2
    have g2 := goS p2 (by rw [pa]; omega) (by rw [pa, pc]; omega)
    have g2' : Go0 n s1 s2 := ((Go0.rfl' g1.2.1).adv hp).trans g2
    obtain ⟨N1, e1⟩ := (ih1 hd h1 h2).2.2.1 rfl 32 (by omega)
    obtain ⟨N2, e2⟩ := (ih2 hd (by rw [pa]; omega) (by rw [pa, pc]; omega)).2.2.1 rfl 31 (by omega)
    have e2 : sg_E (opI s2) (arI s2) N2 31 s1.c s2.c := e2
    have l1 := (sg_E_lt e1).1
    have l2 := (sg_E_lt e2).1
    refine ⟨fun q => absurd q (by decide), fun q => absurd q (by decide), fun q => absurd q (by decide), fun q => absurd q (by decide), fun q => absurd q (by decide), fun _ => ⟨max N1 N2 + 1, Or.inl ⟨s1.c, w, l1, ?_, hw.1, hw.2, ?_, ?_, ?_⟩⟩, fun q => absurd q (by decide)⟩
    · show s1.c + 1 < s2.c + 1; omega
    · show nI (updN s2.op s2.c w (s2.c + 1 - 1)) = nI w
      rw [Nat.add_sub_cancel, updN_s]
    · refine sg_E_le (by omega) (sg_E_cg (fun k x y => ?_) e1)
      obtain ⟨a1, a2⟩ := emit_cg s2 w 0 k x (by omega)
      obtain ⟨b1, b2⟩ := go_cg g2' k x y
      exact ⟨a1.trans b1, a2.trans b2⟩
    · show sg_E (opI (s2.emit w 0)) (arI (s2.emit w 0)) (max N1 N2) 31 s1.c (s2.c + 1 - 1)
      rw [Nat.add_sub_cancel]
      exact sg_E_le (by omega) (sg_E_cg (fun k x y => emit_cg s2 w 0 k x y) e2)
