-- ===== a sum, as the reference reads it: what is said of it =====
theorem jt_sg3 {c w : Nat} (h : jt_ 3 c = some w) : sg_ c = some w ∧ 2 ≤ w ∧ w < 5 := by
  have h : (if c = 42 then some 2 else if c = 47 then some 3 else if c = 37 then some 4 else none) = some w := h
  repeat' split at h
  all_goals (cases h; try (rename_i e; rw [e]; decide))
theorem jt_sg2 {c w : Nat} (h : jt_ 2 c = some w) : sg_ c = some w ∧ w < 2 := by
  have h : (if c = 43 then some 0 else if c = 45 then some 1 else none) = some w := h
  repeat' split at h
  all_goals (cases h; try (rename_i e; rw [e]; decide))
theorem jt_sgn {c : Nat} (h2 : jt_ 2 c = none) (h3 : jt_ 3 c = none) : sg_ c = none := by
  have h2 : (if c = 43 then some 0 else if c = 45 then some 1 else none) = none := h2
  have h3 : (if c = 42 then some 2 else if c = 47 then some 3 else if c = 37 then some 4 else none) = none := h3
  unfold sg_
  repeat' split at h2
  all_goals first | cases h2 | skip
  repeat' split at h3
  all_goals first | cases h3 | skip
  rename_i a1 a2 a3 a4 a5
  rw [if_neg a1, if_neg a2, if_neg a3, if_neg a4, if_neg a5]
theorem ca_of {b : Nat → Nat} {n : Nat} {f g : Nat → Option Nat} {p w : Nat} (hfg : ∀ c, f c = some w → g c = some w) (h : ca_ b n f p = some w) : ca_ b n g p = some w := by
  unfold ca_ at *
  split at h
  · rename_i c; rw [if_pos c]; exact hfg _ h
  · cases h
theorem ca_sgn {b : Nat → Nat} {n p : Nat} (h2 : ca_ b n (jt_ 2) p = none) (h3 : ca_ b n (jt_ 3) p = none) : ca_ b n sg_ p = none := by
  unfold ca_ at *
  split
  · rename_i c; rw [if_pos c] at h2 h3; exact jt_sgn h2 h3
  · rfl
/-- no sign of a sum waits on top -/
def NT (k : Nat) (W : List Nat) : Prop := ∀ s : Sx, cl_ k s W = (s, W)
theorem NT_nil (k : Nat) : NT k [] := fun _ => rfl
theorem NT_cons {k x : Nat} (W : List Nat) (h : ¬ isg_ k x) : NT k (x :: W) := fun _ => if_neg h
theorem NT_10 {W : List Nat} (h : NT 1 W) : NT 0 W := by
  cases W with
  | nil => exact NT_nil 0
  | cons x W =>
    apply NT_cons
    intro c
    have c1 : isg_ 1 x := by unfold isg_ at *; omega
    have h1 := h (Sx.mk 0 0 (fun _ => 0) (fun _ => 0))
    have e1 : cl_ 1 (Sx.mk 0 0 (fun _ => 0) (fun _ => 0)) (x :: W) = cl_ 1 ((Sx.mk 0 0 (fun _ => 0) (fun _ => 0)).emit (x / 1048576 - 2) 0) W := if_pos c1
    rw [e1] at h1
    have h2 := (cl_p 1 W ((Sx.mk 0 0 (fun _ => 0) (fun _ => 0)).emit (x / 1048576 - 2) 0)).2.1
    rw [h1, List.length_cons] at h2
    omega
theorem hOp_cl {z k : Nat} : ∀ (W : List Nat) (s : Sx), hOp z (cl_ k s W).2 ↔ hOp z W := by
  intro W
  induction W with
  | nil => intro s; exact Iff.rfl
  | cons x W ih =>
    intro s
    by_cases c : isg_ k x
    · have e : cl_ k s (x :: W) = cl_ k (s.emit (x / 1048576 - 2) 0) W := if_pos c
      rw [e, ih]
      constructor
      · exact Or.inr
      · rintro (⟨_, q⟩ | q)
        · exfalso; unfold isg_ at c; omega
        · exact q
    · have e : cl_ k s (x :: W) = (s, x :: W) := if_neg c
      rw [e]
theorem sgw_d (w : Nat) : 1048576 * (w + 2) / 1048576 = w + 2 := Nat.mul_div_cancel_left _ (by decide)
theorem cl_sg {k w : Nat} (W : List Nat) (s : Sx) (h : isg_ k (1048576 * (w + 2))) : cl_ k s (1048576 * (w + 2) :: W) = cl_ k (s.emit w 0) W := by
  have e : cl_ k s (1048576 * (w + 2) :: W) = cl_ k (s.emit (1048576 * (w + 2) / 1048576 - 2) 0) W := if_pos h
  rw [e, sgw_d, Nat.add_sub_cancel]
/-- where a sum has ended, no sign stands -/
theorem Pr_end {b : Nat → Nat} {n : Nat} : ∀ t d s r, Pr b n t d s r → ∀ s1, r = .inr s1 → ((t = 3 ∨ t = 7) → ca_ b n (jt_ 3) s1.p = none) ∧ (t = 2 → ca_ b n sg_ s1.p = none) ∧ (t = 6 → ca_ b n (jt_ 3) s.p = none → ca_ b n sg_ s1.p = none) := by
  apply Pr_ind
  case c_chainB => intro d s l e _ _ _ s1 h; cases h
  case c_chain =>
    intro d s l s0 x hl _ h1 _ h2 s1 hx
    have h1 := h1 s0 rfl
    have h2 := h2 s1 hx
    refine ⟨fun h => ?_, fun h => ?_, fun h => by omega⟩
    · exact h2.1 (Or.inr (by omega))
    · exact h2.2.2 (by omega) (h1.1 (Or.inl (by rw [h]; rfl)))
  case c_stop =>
    intro d s l hl hj s1 hx
    have hx : s = s1 := Sum.inr.inj hx
    rw [← hx]
    refine ⟨fun h => ?_, fun h => by omega, fun h h3 => ?_⟩
    · rw [show l = 3 by omega] at hj; exact hj
    · rw [show l = 2 by omega] at hj; exact ca_sgn hj h3
  case c_arB => intro d s l w e _ _ _ _ _ s1 h; cases h
  case c_ar =>
    intro d s l w s0 x hl _ hj _ h1 _ h2 s1 hx
    have h1 := h1 s0 rfl
    have h2 := h2 s1 hx
    refine ⟨fun h => h2.1 h, fun h => by omega, fun h _ => ?_⟩
    exact h2.2.2 h (h1.1 (Or.inl (by rw [show l = 2 by omega]; rfl)))
  case c_lgB => intro d s l w e _ _ _ _ s1 h; cases h
  case c_lg =>
    intro d s l w s0 x hl hj _ h1 _ h2 s1 hx
    exact ⟨fun h => by omega, fun h => by omega, fun h => by omega⟩
  all_goals (intros; refine ⟨fun h => by omega, fun h => by omega, fun h => by omega⟩)
def OKw (n z j : Nat) (s : Sx) (W : List Nat) : Prop := s.p ≤ n ∧ s.c + W.length ≤ s.p + j ∧ z ≤ W.length ∧ ∀ x, x ∈ W → x < 2 ^ 31
def OutS (n : Nat) (m : ro_Mem) (z j d : Nat) (K : Sx → List Nat → Sx × List Nat) (W : List Nat) (r : Res) (X : Option (Int32 × ro_Mem)) : Prop := match r with
  | .inl e => ∃ M', X = some (0, M') ∧ RX m e M'
  | .inr s1 => ∃ f' M' s' W', X = RLx z f' M' ∧ RW m s' W' d M' ∧ K s' W' = (s1, W) ∧ OKw n z j s' W' ∧ n < f' + s'.p
/-- what is said of a sum's pieces, t by t -/
def TS (n : Nat) (m : ro_Mem) (b : Nat → Nat) (z j t d : Nat) (s : Sx) (r : Res) : Prop := d ≤ 6 →
  (t = 9 → ∀ W M k f, OKw n z j s W → n < k + s.p → n < f + s.p → RW m s W d M → OutS n m z j d (fun a b => (a, b)) W r (FMx z k f M)) ∧
  (t = 3 → ∀ W M k f, OKw n z j s W → n < k + s.p → n < f + s.p → NT 0 W → RW m s W d M → OutS n m z j d (cl_ 0) W r (FMx z k f M)) ∧
  (t = 2 → ∀ W M k f, OKw n z j s W → n < k + s.p → n < f + s.p → NT 1 W → RW m s W d M → OutS n m z j d (cl_ 1) W r (FMx z k f M)) ∧
  (t = 7 → ∀ s' W' W M f, OKw n z j s' W' → n < f + s.p → NT 0 W → cl_ 0 s' W' = (s, W) → z ≤ W.length → (∀ x, x ∈ W → x < 2 ^ 31) → RW m s' W' d M → OutS n m z j d (cl_ 0) W r (RLx z f M)) ∧
  (t = 6 → ca_ b n (jt_ 3) s.p = none → ∀ s' W' W M f, OKw n z j s' W' → n < f + s.p → NT 1 W → cl_ 1 s' W' = (s, W) → z ≤ W.length → (∀ x, x ∈ W → x < 2 ^ 31) → RW m s' W' d M → OutS n m z j d (cl_ 1) W r (RLx z f M))
theorem TS_no {n : Nat} {m : ro_Mem} {b : Nat → Nat} {z j t d : Nat} {s : Sx} {r : Res} (h : t < 2 ∨ t = 4 ∨ t = 5 ∨ t = 8 ∨ 10 ≤ t) : TS n m b z j t d s r := fun _ => ⟨fun e => by omega, fun e => by omega, fun e => by omega, fun e => by omega, fun e => by omega⟩
