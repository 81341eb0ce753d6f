-- ===== what a reading of the law leaves alone =====
theorem ca_some {b : Nat → Nat} {n : Nat} {f : Nat → Option Nat} {p w : Nat} (h : ca_ b n f p = some w) : p < n ∧ f (b p) = some w := by
  unfold ca_ at h
  by_cases c : p < n
  · rw [if_pos c] at h; exact ⟨c, h⟩
  · rw [if_neg c] at h; cases h
theorem jt_le {l c w : Nat} (h : jt_ l c = some w) : w ≤ 12 ∧ (l < 2 → w = 12 - l) ∧ (2 ≤ l → w < 5) := by
  unfold jt_ at h
  by_cases c0 : l = 0
  · rw [if_pos c0] at h
    split at h
    · cases h; omega
    · cases h
  · rw [if_neg c0] at h
    by_cases c1 : l = 1
    · rw [if_pos c1] at h
      split at h
      · cases h; omega
      · cases h
    · rw [if_neg c1] at h
      by_cases c2 : l = 2
      · rw [if_pos c2] at h
        split at h
        · cases h; omega
        · split at h
          · cases h; omega
          · cases h
      · rw [if_neg c2] at h
        split at h
        · cases h; omega
        · split at h
          · cases h; omega
          · split at h
            · cases h; omega
            · cases h
theorem lt_le : ∀ {c w : Nat}, lt_ c = some w → w < 12 := by
  intro c w h
  unfold lt_ at h
  repeat' split at h
  all_goals (cases h; try decide)
theorem cp_le : ∀ {c w : Nat}, cp_ c = some w → 5 ≤ w ∧ w ≤ 7 := by
  intro c w h
  unfold cp_ at h
  repeat' split at h
  all_goals (cases h; try decide)
theorem nu_lt {b : Nat → Nat} {n p : Nat} : ∀ k, (∀ j, j < k → ¬ dg_ b n (p + j) = none) → nu_ b p k < 10 ^ k := by
  intro k
  induction k with
  | zero => intro _; show 0 < 1; decide
  | succ k ih =>
    intro h
    have h1 := ih (fun j hj => h j (by omega))
    have h2 : b (p + k) - 48 ≤ 9 := by
      cases e : dg_ b n (p + k) with
      | none => exact absurd e (h k (by omega))
      | some d => have := dg_lt e; omega
    show 10 * nu_ b p k + (b (p + k) - 48) < 10 ^ (k + 1)
    rw [Nat.pow_succ]
    omega
/-- nothing below is touched, and there is no more code than there are letters -/
def Go0 (n : Nat) (s s1 : Sx) : Prop := s.p ≤ s1.p ∧ s1.p ≤ n ∧ s.c ≤ s1.c ∧ s1.c + s.p ≤ s1.p + s.c ∧ (∀ k, k < s.c → s1.op k = s.op k ∧ s1.ar k = s.ar k) ∧ ∀ k, s.c ≤ k → k < s1.c → s1.op k ≤ 12 ∧ s1.ar k < 1048576
theorem Go0.rfl' {n : Nat} {s : Sx} (h : s.p ≤ n) : Go0 n s s := ⟨Nat.le_refl _, h, Nat.le_refl _, by omega, fun _ _ => ⟨rfl, rfl⟩, fun k h1 h2 => absurd h2 (by omega)⟩
theorem Go0.trans {n : Nat} {s s1 s2 : Sx} (h : Go0 n s s1) (g : Go0 n s1 s2) : Go0 n s s2 := by
  obtain ⟨a1, a2, a3, a4, a5, a6⟩ := h
  obtain ⟨b1, b2, b3, b4, b5, b6⟩ := g
  refine ⟨by omega, b2, by omega, by omega, fun k hk => ?_, fun k h1 h2 => ?_⟩
  · obtain ⟨x1, x2⟩ := b5 k (by omega)
    obtain ⟨y1, y2⟩ := a5 k hk
    exact ⟨x1.trans y1, x2.trans y2⟩
  · by_cases c : k < s1.c
    · obtain ⟨x1, x2⟩ := b5 k c
      rw [x1, x2]
      exact a6 k h1 c
    · exact b6 k (by omega) h2
theorem Go0.to {n : Nat} {s s1 : Sx} {q : Nat} (h : Go0 n s s1) (h1 : s1.p ≤ q) (h2 : q ≤ n) : Go0 n s (s1.to q) := by
  obtain ⟨a1, a2, a3, a4, a5, a6⟩ := h
  exact ⟨by show s.p ≤ q; omega, h2, a3, by show s1.c + s.p ≤ q + s.c; omega, a5, a6⟩
theorem Go0.adv {n : Nat} {s s1 : Sx} (h : Go0 n s s1) (h1 : s1.p < n) : Go0 n s s1.adv := h.to (by omega) (by omega)
/-- code for a letter that has been passed -/
theorem Go0.emit {n : Nat} {s s1 : Sx} {w v : Nat} (h : Go0 n s s1) (h1 : s1.c + s.p < s1.p + s.c) (hw : w ≤ 12) (hv : v < 1048576) : Go0 n s (s1.emit w v) := by
  obtain ⟨a1, a2, a3, a4, a5, a6⟩ := h
  refine ⟨a1, a2, by show s.c ≤ s1.c + 1; omega, by show s1.c + 1 + s.p ≤ s1.p + s.c; omega, fun k hk => ?_, fun k k1 k2 => ?_⟩
  · show updN s1.op s1.c w k = _ ∧ updN s1.ar s1.c v k = _
    rw [updN_n (by omega), updN_n (by omega)]
    exact a5 k hk
  · show updN s1.op s1.c w k ≤ 12 ∧ updN s1.ar s1.c v k < 1048576
    have k2 : k < s1.c + 1 := k2
    by_cases c : k = s1.c
    · rw [c, updN_s, updN_s]; exact ⟨hw, hv⟩
    · rw [updN_n c, updN_n c]; exact a6 k k1 (by omega)
theorem Go0.land {n : Nat} {s s1 : Sx} {i : Nat} (h : Go0 n s s1) (hi : s.c ≤ i) (hc : s1.c < 1048576) : Go0 n s (s1.land i) := by
  obtain ⟨a1, a2, a3, a4, a5, a6⟩ := h
  refine ⟨a1, a2, a3, a4, fun k hk => ?_, fun k k1 k2 => ?_⟩
  · show s1.op k = _ ∧ updN s1.ar i s1.c k = _
    rw [updN_n (by omega)]
    exact a5 k hk
  · show s1.op k ≤ 12 ∧ updN s1.ar i s1.c k < 1048576
    have := a6 k k1 k2
    by_cases c : k = i
    · rw [c, updN_s, ← c]; exact ⟨this.1, hc⟩
    · rw [updN_n c]; exact this
def GoR (n t : Nat) (s : Sx) (r : Res) : Prop := match r with
  | .inl e => ¬ e = 0 ∧ e ≤ 0
  | .inr s1 => Go0 n s s1 ∧ ((t < 4 ∨ 8 ≤ t) → s.p < s1.p)
theorem Go0.c_le {n : Nat} {s s1 : Sx} (h : Go0 n s s1) (hc : s.c ≤ s.p) : s1.c ≤ s1.p := by have := h.2.2.2.1; omega
theorem GoR.of {n t t' : Nat} {s s' : Sx} {r : Res} (h : GoR n t s' r) (g : Go0 n s s') (ht : s.p < s'.p ∨ ((t' < 4 ∨ 8 ≤ t') → (t < 4 ∨ 8 ≤ t))) : GoR n t' s r := by
  cases r with
  | inl e => exact h
  | inr s1 =>
    obtain ⟨h1, h2⟩ := h
    refine ⟨g.trans h1, fun q => ?_⟩
    have := g.1
    have := h1.1
    rcases ht with z | z
    · omega
    · have := h2 (z q); omega
theorem opd_t (l : Nat) : opd_ l < 4 ∨ 8 ≤ opd_ l := by
  unfold opd_
  split
  · omega
  · split
    · omega
    · split <;> omega
theorem Pr_go {b : Nat → Nat} {n : Nat} (hn : n ≤ 200) : ∀ t d s r, Pr b n t d s r → s.p ≤ n → s.c ≤ s.p → GoR n t s r := by
  have ft : ∀ k q, q ≤ 210 → k ∈ [(1 : Int32), 2, 3, 4, 5, 6] → ¬ flt k q = 0 ∧ flt k q ≤ 0 := fun k q hq hk => flt_ok q (by omega) k hk
  have pa : ∀ s : Sx, s.adv.p = s.p + 1 := fun _ => rfl
  have pc : ∀ s : Sx, s.adv.c = s.c := fun _ => rfl
  have go1 : ∀ s : Sx, s.p < n → Go0 n s s.adv := fun s h => (Go0.rfl' (by omega)).adv h
  have go2 : ∀ (s : Sx) w v, s.p < n → w ≤ 12 → v < 1048576 → Go0 n s (s.adv.emit w v) := fun s w v h hw hv => (go1 s h).emit (by show s.c + s.p < s.p + 1 + s.c; omega) hw hv
  have post : ∀ (s s1 : Sx) w v, s.p < n → Go0 n s.adv s1 → w ≤ 12 → v < 1048576 → Go0 n s (s1.emit w v) := fun s s1 w v h g hw hv => ((go1 s h).trans g).emit (by have := g.2.2.2.1; rw [pa, pc] at this; omega) hw hv
  refine Pr_ind ?_ ?_ ?_ ?_ ?_ ?_ ?_ ?_ ?_ ?_ ?_ ?_ ?_ ?_ ?_ ?_ ?_ ?_ ?_ ?_ ?_ ?_ ?_ ?_ ?_ ?_ ?_
  · intro d s l e hl _ ih h1 h2; exact ih h1 h2
  · intro d s l s1 x hl _ ih1 _ ih2 h1 h2
    obtain ⟨g1, g2⟩ := ih1 h1 h2
    exact (ih2 g1.2.1 (g1.c_le h2)).of g1 (Or.inl (g2 (opd_t l)))
  · intro d s l hl _ h1 h2
    exact ⟨Go0.rfl' h1, fun q => by omega⟩
  · intro d s l w e hl h2l hj _ ih h1 h2
    have hp := (ca_some hj).1
    exact ih (by rw [pa]; omega) (by rw [pa, pc]; omega)
  · intro d s l w s1 x hl h2l hj _ ih1 _ ih2 h1 h2
    obtain ⟨hp, hw⟩ := ca_some hj
    obtain ⟨g1, g2⟩ := ih1 (by rw [pa]; omega) (by rw [pa, pc]; omega)
    have g := post s s1 w 0 hp g1 (jt_le hw).1 (by omega)
    exact (ih2 g.2.1 (g.c_le h2)).of g (Or.inr (fun q => by omega))
  · intro d s l w e hl hj _ ih h1 h2
    obtain ⟨hp, hw⟩ := ca_some hj
    have g := go2 s w 0 hp (jt_le hw).1 (by omega)
    exact ih g.2.1 (g.c_le h2)
  · intro d s l w s1 x hl hj _ ih1 _ ih2 h1 h2
    obtain ⟨hp, hw⟩ := ca_some hj
    have g := go2 s w 0 hp (jt_le hw).1 (by omega)
    obtain ⟨g1, g2⟩ := ih1 g.2.1 (g.c_le h2)
    have g3 := g.trans g1
    have hc := g3.c_le h2
    have hpn := g3.2.1
    have g4 := g3.land (i := s.c) (Nat.le_refl _) (by omega)
    exact (ih2 g4.2.1 (g4.c_le h2)).of g4 (Or.inr (fun q => by omega))
  · intro d s k hk h1 h2
    obtain ⟨hp, hw⟩ := ca_some hk
    exact ⟨go2 s 9 k hp (by omega) (by have := lt_le hw; omega), fun _ => by show s.p < s.p + 1; omega⟩
  · intro d s k k1 k5 hd he h1 h2
    have hnu := nu_lt k hd
    have h10 : (10 : Nat) ^ k ≤ 10 ^ 5 := Nat.pow_le_pow_right (by decide) k5
    have e5 : (10 : Nat) ^ 5 = 100000 := rfl
    have hp : s.p + k ≤ n := by
      cases e : dg_ b n (s.p + (k - 1)) with
      | none => exact absurd e (hd (k - 1) (by omega))
      | some d => have := (dg_lt e).2.1; omega
    exact ⟨((Go0.rfl' h1).to (by omega) hp).emit (by show s.c + s.p < s.p + k + s.c; omega) (by omega) (by omega), fun _ => by show s.p < s.p + k; omega⟩
  · intro d s _ h1 h2
    exact ft 2 _ (by omega) (by decide)
  · intro d s _ _ _ h1 h2
    exact ft 1 _ (by omega) (by decide)
  · intro d s _ _ h1 h2
    exact ft 5 _ (by omega) (by decide)
  · intro d s e hb _ _ ih h1 h2
    exact ih (by rw [pa]; omega) (by rw [pa, pc]; omega)
  · intro d s s1 hb _ _ _ ih h1 h2
    obtain ⟨g1, -⟩ := ih (by rw [pa]; omega) (by rw [pa, pc]; omega)
    exact ft 1 _ (by have := g1.2.1; omega) (by decide)
  · intro d s s1 hb _ hc _ ih h1 h2
    obtain ⟨g1, -⟩ := ih (by rw [pa]; omega) (by rw [pa, pc]; omega)
    have g := ((go1 s hb.1).trans g1)
    exact ⟨g.adv hc.1, fun _ => by have := g.1; rw [pa]; omega⟩
  · intro d s _ _ h1 h2
    exact ft 5 _ (by omega) (by decide)
  · intro d s e hb _ _ ih h1 h2
    exact ih (by rw [pa]; omega) (by rw [pa, pc]; omega)
  · intro d s s1 hb _ _ ih h1 h2
    obtain ⟨g1, -⟩ := ih (by rw [pa]; omega) (by rw [pa, pc]; omega)
    exact ⟨post s s1 10 0 hb.1 g1 (by omega) (by omega), fun _ => by have := g1.1; rw [pa] at this; show s.p < s1.p; omega⟩
  · intro d s _ _ h1 h2
    exact ft 5 _ (by omega) (by decide)
  · intro d s e hb _ _ ih h1 h2
    exact ih (by rw [pa]; omega) (by rw [pa, pc]; omega)
  · intro d s s1 hb _ _ _ ih h1 h2
    obtain ⟨g1, -⟩ := ih (by rw [pa]; omega) (by rw [pa, pc]; omega)
    exact ft 1 _ (by have := g1.2.1; omega) (by decide)
  · intro d s s1 hb _ hc _ ih h1 h2
    obtain ⟨g1, -⟩ := ih (by rw [pa]; omega) (by rw [pa, pc]; omega)
    have g := ((go1 s hb.1).trans g1)
    exact ⟨g.adv hc.1, fun _ => by have := g.1; rw [pa]; omega⟩
  · intro d s x _ _ ih h1 h2
    exact (ih h1 h2).of (Go0.rfl' h1) (Or.inr (fun _ => Or.inr (by omega)))
  · intro d s e _ ih h1 h2; exact ih h1 h2
  · intro d s s1 _ _ ih h1 h2
    obtain ⟨g1, -⟩ := ih h1 h2
    exact ft 1 _ (by have := g1.2.1; omega) (by decide)
  · intro d s s1 w e hc _ ih1 _ ih2 h1 h2
    obtain ⟨g1, -⟩ := ih1 h1 h2
    have hp := (ca_some hc).1
    exact ih2 (by rw [pa]; omega) (by have := g1.c_le h2; rw [pa, pc]; omega)
  · intro d s s1 w s2 hc _ ih1 _ ih2 h1 h2
    obtain ⟨g1, g0⟩ := ih1 h1 h2
    obtain ⟨hp, hw⟩ := ca_some hc
    obtain ⟨g2, g3⟩ := ih2 (by rw [pa]; omega) (by have := g1.c_le h2; rw [pa, pc]; omega)
    have hw := cp_le hw
    exact ⟨g1.trans (post s1 s2 w 0 hp g2 (by omega) (by omega)), fun _ => by have := g1.1; have := g2.1; rw [pa] at this; show s.p < s2.p; omega⟩
