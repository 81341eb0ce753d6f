-- ===== the score, as it is read =====
def flt (k : Int32) (p : Nat) : Int32 := ((-1000) * k) - nI p
theorem flt_ok : ∀ p, p < 256 → ∀ k ∈ [(1 : Int32), 2, 3, 4, 5, 6], ¬ flt k p = 0 ∧ flt k p ≤ 0 := by decide +kernel
def vo_ (c : Nat) : Option Nat := if c = 115 then some 0 else if c = 97 then some 1 else if c = 116 then some 2 else if c = 98 then some 3 else none
def on_ (x : Option Nat) : Int32 := match x with
  | none => -1
  | some v => nI v
theorem vo_C : ∀ c, c < 256 → fn_J0_indexOf_0f7a4 0 (ro_i2c (nI c)) = some (on_ (vo_ c)) := by decide +kernel
theorem vo_M : ∀ c, c < 256 → fn_X12_voice (nI c) = some (on_ (vo_ c)) := by decide +kernel
theorem vo_lt {c v : Nat} (h : vo_ c = some v) : v < 4 := by
  unfold vo_ at h
  split at h
  · cases h; decide
  · split at h
    · cases h; decide
    · split at h
      · cases h; decide
      · split at h
        · cases h; decide
        · cases h
section
variable (b : Nat → Nat) (n : Nat)
def ch_ (p : Nat) : Int32 := if p < n then nI (b p) else -1
def dg_ (p : Nat) : Option Nat := if p < n ∧ 48 ≤ b p ∧ b p ≤ 57 then some (b p - 48) else none
def pp_ (p : Nat) : Nat × Nat := match dg_ b n (p + 1) with
  | none => ((dg_ b n p).getD 0, p + 1)
  | some d => (10 * (dg_ b n p).getD 0 + d, p + 2)
/-- a note: a fault, or voice, pitch, length and where it ends -/
def pn_ (N p : Nat) : Int32 ⊕ (Nat × Nat × Nat × Nat) := match (if p < n then vo_ (b p) else none) with
  | none => .inl (flt 1 p)
  | some v => if N = 32 then .inl (flt 4 p) else match dg_ b n (p + 1) with
    | none => .inl (flt 1 (p + 1))
    | some _ => if 47 < (pp_ b n (p + 1)).1 then .inl (flt 3 (p + 1)) else if ¬ ((pp_ b n (p + 1)).2 < n ∧ b (pp_ b n (p + 1)).2 = 120) then .inl (flt 1 (pp_ b n (p + 1)).2) else match dg_ b n ((pp_ b n (p + 1)).2 + 1) with
      | none => .inl (flt 1 ((pp_ b n (p + 1)).2 + 1))
      | some l => if l = 0 then .inl (flt 1 ((pp_ b n (p + 1)).2 + 1)) else .inr (v, (pp_ b n (p + 1)).1, l, (pp_ b n (p + 1)).2 + 2)
def pm_ (B A q : Nat) : Int32 ⊕ (Nat × Nat) := if b q = 44 then .inr (B, A) else if b q = 124 ∨ b q = 47 then (if B = 12 ∨ (b q = 47 ∧ A = 4) then .inl (flt 6 q) else .inr (B + 1, if b q = 47 then A + 1 else A)) else .inl (flt 1 q)
def rw_ (R : Nat → Nat → Nat) (N : Nat) (x : Nat → Nat) : Nat → Nat → Nat := fun j i => if i = N then x j else R j i
def nx_ (v pt l B A : Nat) : Nat → Nat := fun j => [0, v, pt, l, B - 1, A - 1].getD j 0
def ps_s : Nat → Nat → Nat → Nat → Nat → (Nat → Nat → Nat) → Int32 ⊕ (Nat × Nat × Nat × (Nat → Nat → Nat))
  | 0, _, _, _, _, _ => .inl (flt 1 0)
  | f + 1, p, N, B, A, R => match pn_ b n N p with
    | .inl e => .inl e
    | .inr (v, pt, l, q) => if n ≤ q then .inr (N + 1, B, A, rw_ R N (nx_ v pt l B A)) else match pm_ b B A q with
      | .inl e => .inl e
      | .inr (B', A') => ps_s f (q + 1) (N + 1) B' A' (rw_ R N (nx_ v pt l B A))
end
theorem dg_lt {b : Nat → Nat} {n p d : Nat} (h : dg_ b n p = some d) : d ≤ 9 ∧ p < n ∧ b p = 48 + d := by
  unfold dg_ at h
  split at h
  · rename_i c
    cases h
    omega
  · cases h
theorem pp_le {b : Nat → Nat} {n p : Nat} : (pp_ b n p).2 ≤ p + 2 ∧ p < (pp_ b n p).2 ∧ (pp_ b n p).1 ≤ 99 := by
  have hd : ∀ p, (dg_ b n p).getD 0 ≤ 9 := fun p => by
    cases e : dg_ b n p with
    | none => exact Nat.zero_le _
    | some d => exact (dg_lt e).1
  have := hd p
  unfold pp_
  cases e : dg_ b n (p + 1) with
  | none => exact ⟨by show p + 1 ≤ _; omega, by show p < p + 1; omega, by show (dg_ b n p).getD 0 ≤ 99; omega⟩
  | some d =>
    have := (dg_lt e).1
    exact ⟨by show p + 2 ≤ _; omega, by show p < p + 2; omega, by show 10 * (dg_ b n p).getD 0 + d ≤ 99; omega⟩
theorem pn_ok {b : Nat → Nat} {n N p v pt l q : Nat} (h : pn_ b n N p = .inr (v, pt, l, q)) : ¬ N = 32 ∧ p < n ∧ v < 4 ∧ pt < 48 ∧ 1 ≤ l ∧ l ≤ 9 ∧ p < q ∧ q ≤ n := by
  unfold pn_ at h
  by_cases c : p < n
  · rw [if_pos c] at h
    cases e1 : vo_ (b p) with
    | none => rw [e1] at h; cases h
    | some v' =>
      rw [e1] at h
      dsimp only at h
      by_cases c2 : N = 32
      · rw [if_pos c2] at h; cases h
      · rw [if_neg c2] at h
        cases e2 : dg_ b n (p + 1) with
        | none => rw [e2] at h; cases h
        | some d =>
          rw [e2] at h
          dsimp only at h
          by_cases c3 : 47 < (pp_ b n (p + 1)).1
          · rw [if_pos c3] at h; cases h
          · rw [if_neg c3] at h
            by_cases c4 : ¬ ((pp_ b n (p + 1)).2 < n ∧ b (pp_ b n (p + 1)).2 = 120)
            · rw [if_pos c4] at h; cases h
            · rw [if_neg c4] at h
              cases e3 : dg_ b n ((pp_ b n (p + 1)).2 + 1) with
              | none => rw [e3] at h; cases h
              | some l' =>
                rw [e3] at h
                dsimp only at h
                by_cases c5 : l' = 0
                · rw [if_pos c5] at h; cases h
                · rw [if_neg c5] at h
                  have hv := vo_lt e1
                  obtain ⟨d1, d2, -⟩ := dg_lt e3
                  have hp := pp_le (b := b) (n := n) (p := p + 1)
                  cases h
                  exact ⟨c2, c, hv, by omega, by omega, d1, by omega, by omega⟩
  · rw [if_neg c] at h; cases h
theorem pn_bad {b : Nat → Nat} {n N p : Nat} {e : Int32} (hn : n ≤ 200) (hp : p ≤ 200) (h : pn_ b n N p = .inl e) : ¬ e = 0 ∧ e ≤ 0 := by
  have hpp := pp_le (b := b) (n := n) (p := p + 1)
  unfold pn_ at h
  cases e1 : (if p < n then vo_ (b p) else none) with
  | none => rw [e1] at h; rw [← Sum.inl.inj h]; exact flt_ok p (by omega) 1 (by decide)
  | some v' =>
    rw [e1] at h
    dsimp only at h
    by_cases c2 : N = 32
    · rw [if_pos c2] at h; rw [← Sum.inl.inj h]; exact flt_ok p (by omega) 4 (by decide)
    · rw [if_neg c2] at h
      cases e2 : dg_ b n (p + 1) with
      | none => rw [e2] at h; rw [← Sum.inl.inj h]; exact flt_ok (p + 1) (by omega) 1 (by decide)
      | some d =>
        rw [e2] at h
        dsimp only at h
        by_cases c3 : 47 < (pp_ b n (p + 1)).1
        · rw [if_pos c3] at h; rw [← Sum.inl.inj h]; exact flt_ok (p + 1) (by omega) 3 (by decide)
        · rw [if_neg c3] at h
          by_cases c4 : ¬ ((pp_ b n (p + 1)).2 < n ∧ b (pp_ b n (p + 1)).2 = 120)
          · rw [if_pos c4] at h; rw [← Sum.inl.inj h]; exact flt_ok _ (by omega) 1 (by decide)
          · rw [if_neg c4] at h
            cases e3 : dg_ b n ((pp_ b n (p + 1)).2 + 1) with
            | none => rw [e3] at h; rw [← Sum.inl.inj h]; exact flt_ok _ (by omega) 1 (by decide)
            | some l' =>
              rw [e3] at h
              dsimp only at h
              by_cases c5 : l' = 0
              · rw [if_pos c5] at h; rw [← Sum.inl.inj h]; exact flt_ok _ (by omega) 1 (by decide)
              · rw [if_neg c5] at h; cases h
theorem pm_bad {b : Nat → Nat} {B A q : Nat} {e : Int32} (hq : q ≤ 200) (h : pm_ b B A q = .inl e) : ¬ e = 0 ∧ e ≤ 0 := by
  unfold pm_ at h
  split at h
  · cases h
  · split at h
    · split at h
      · rw [← Sum.inl.inj h]; exact flt_ok q (by omega) 6 (by decide)
      · cases h
    · rw [← Sum.inl.inj h]; exact flt_ok q (by omega) 1 (by decide)
/-- what has been read so far -/
def Rd (N B A : Nat) (R : Nat → Nat → Nat) : Prop := (∀ i, i < N → R 1 i < 4 ∧ R 2 i < 48 ∧ 1 ≤ R 3 i ∧ R 3 i ≤ 9 ∧ R 4 i < B ∧ R 5 i < A) ∧ ∀ i, i + 1 < N → R 5 i ≤ R 5 (i + 1) ∧ R 4 i ≤ R 4 (i + 1)
theorem ps_ok {b : Nat → Nat} {n : Nat} : ∀ f p N B A R N' B' A' R', ps_s b n f p N B A R = .inr (N', B', A', R') → N ≤ 32 → 1 ≤ B → B ≤ 12 → 1 ≤ A → A ≤ 4 → Rd N B A R → (∀ x, x + 1 < A → ∃ i, i < N ∧ R 5 i = x) → 1 ≤ N' ∧ N' ≤ 32 ∧ B' ≤ 12 ∧ A' ≤ 4 ∧ Rd N' B' A' R' ∧ ∀ x, x < A' → ∃ i, i < N' ∧ R' 5 i = x := by
  intro f
  induction f with
  | zero => intro p N B A R N' B' A' R' h; cases h
  | succ f ih =>
    intro p N B A R N' B' A' R' h hN hB1 hB hA1 hA hR hx
    unfold ps_s at h
    cases e : pn_ b n N p with
    | inl e' => rw [e] at h; cases h
    | inr t =>
      obtain ⟨v, pt, l, q⟩ := t
      rw [e] at h
      dsimp only at h
      obtain ⟨k1, k2, k3, k4, k5, k6, -, -⟩ := pn_ok e
      have hR' : Rd (N + 1) B A (rw_ R N (nx_ v pt l B A)) := by
        refine ⟨fun i hi => ?_, fun i hi => ?_⟩
        · unfold rw_
          by_cases c : i = N
          · simp only [if_pos c]
            exact ⟨k3, k4, k5, k6, by show B - 1 < B; omega, by show A - 1 < A; omega⟩
          · simp only [if_neg c]
            exact hR.1 i (by omega)
        · unfold rw_
          by_cases c : i + 1 = N
          · simp only [if_pos c, if_neg (show ¬ i = N by omega)]
            have := hR.1 i (by omega)
            exact ⟨by show R 5 i ≤ A - 1; omega, by show R 4 i ≤ B - 1; omega⟩
          · simp only [if_neg c, if_neg (show ¬ i = N by omega)]
            exact hR.2 i (by omega)
      have hx' : ∀ x, x < A → ∃ i, i < N + 1 ∧ rw_ R N (nx_ v pt l B A) 5 i = x := fun x hxA => by
        by_cases c : x + 1 = A
        · exact ⟨N, by omega, by unfold rw_; rw [if_pos rfl]; show A - 1 = x; omega⟩
        · obtain ⟨i, i1, i2⟩ := hx x (by omega)
          exact ⟨i, by omega, by unfold rw_; rw [if_neg (show ¬ i = N by omega)]; exact i2⟩
      by_cases cq : n ≤ q
      · rw [if_pos cq] at h
        cases h
        exact ⟨by omega, by omega, hB, hA, hR', hx'⟩
      · rw [if_neg cq] at h
        cases e2 : pm_ b B A q with
        | inl e' => rw [e2] at h; cases h
        | inr t =>
          obtain ⟨B2, A2⟩ := t
          rw [e2] at h
          dsimp only at h
          have hm : (B2 = B ∧ A2 = A) ∨ (B2 = B + 1 ∧ B + 1 ≤ 12 ∧ (A2 = A ∨ (A2 = A + 1 ∧ A + 1 ≤ 4))) := by
            unfold pm_ at e2
            split at e2
            · cases e2; exact Or.inl ⟨rfl, rfl⟩
            · split at e2
              · split at e2
                · cases e2
                · rename_i c1 c2 c3
                  cases e2
                  refine Or.inr ⟨rfl, by omega, ?_⟩
                  by_cases c4 : b q = 47
                  · rw [if_pos c4]; exact Or.inr ⟨rfl, by omega⟩
                  · rw [if_neg c4]; exact Or.inl rfl
              · cases e2
          refine ih _ _ _ _ _ _ _ _ _ h (by omega) (by omega) (by omega) (by omega) (by omega) ⟨fun i hi => ?_, hR'.2⟩ (fun x hx2 => ?_)
          · have := hR'.1 i hi
            exact ⟨this.1, this.2.1, this.2.2.1, this.2.2.2.1, by omega, by omega⟩
          · exact hx' x (by omega)
