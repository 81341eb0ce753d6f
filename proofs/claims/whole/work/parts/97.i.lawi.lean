-- ===== is a sum open? a number, as the reference reads it =====
def hOp (z : Nat) : List Nat → Prop
  | [] => False
  | x :: W => (z ≤ W.length ∧ x / 1048576 = 14) ∨ hOp z W
theorem hOp_no {z : Nat} : ∀ {W : List Nat}, W.length ≤ z → ¬ hOp z W := by
  intro W
  induction W with
  | nil => intro _ h; exact h
  | cons x W ih =>
    intro h hh
    rw [List.length_cons] at h
    rcases hh with h1 | h1
    · omega
    · exact ih (by omega) h1
theorem hOp_at {z : Nat} {f : Nat → Int32} : ∀ {W : List Nat}, StW f W → (∀ x, x ∈ W → x < 2 ^ 31) → (hOp z W ↔ ∃ i, z ≤ i ∧ i < W.length ∧ f i / 1048576 = 14) := by
  intro W
  induction W with
  | nil => intro _ _; exact ⟨fun h => absurd h (fun x => x), fun ⟨i, _, h, _⟩ => absurd h (Nat.not_lt_zero _)⟩
  | cons x W ih =>
    intro h hx
    have hx0 := hx x (List.mem_cons_self ..)
    have e : f W.length / 1048576 = nI (x / 1048576) := by
      rw [h.1]
      exact pk_div (d := 1048576) hx0 (by decide) (by decide)
    have e14 : f W.length / 1048576 = 14 ↔ x / 1048576 = 14 := by
      rw [e]
      exact nI_eq (b := 14) (by omega) (by decide)
    have ih' := ih h.2 (fun y hy => hx y (List.mem_cons_of_mem _ hy))
    constructor
    · rintro (⟨h1, h2⟩ | h1)
      · exact ⟨W.length, h1, by rw [List.length_cons]; omega, e14.mpr h2⟩
      · obtain ⟨i, i1, i2, i3⟩ := ih'.mp h1
        exact ⟨i, i1, by rw [List.length_cons]; omega, i3⟩
    · rintro ⟨i, i1, i2, i3⟩
      rw [List.length_cons] at i2
      by_cases c : i = W.length
      · rw [c] at i1 i3
        exact Or.inl ⟨i1, e14.mp i3⟩
      · exact Or.inr (ih'.mpr ⟨i, i1, by omega, i3⟩)
section
variable {b : Nat → Nat} {n : Nat} {m M : ro_Mem} {s : Sx} {W : List Nat} {d : Nat}
theorem rt_hasOpen {z : Nat} (h : RW m s W d M) (hW : W.length ≤ 219) (hz : z ≤ 219) (hx : ∀ x, x ∈ W → x < 2 ^ 31) : (hOp z W ∧ fn_X12_hasOpenSum (nI z) M = some 1) ∨ (¬ hOp z W ∧ fn_X12_hasOpenSum (nI z) M = some 0) := by
  have hat := hOp_at (z := z) h.2.2.2.2.2.2 hx
  have h36 := h.2.2.2.1
  have key : ∀ j i fuel, i + j = max z W.length → j < fuel → z ≤ i → ((∃ i', i ≤ i' ∧ i' < W.length ∧ M 229 i' / 1048576 = 14) ∧ ro_loop (fun rec s => fb_X12_hasOpenSum_2 M rec s) fuel (nI i) = some (.inl ())) ∨ ((¬ ∃ i', i ≤ i' ∧ i' < W.length ∧ M 229 i' / 1048576 = 14) ∧ ro_loop (fun rec s => fb_X12_hasOpenSum_2 M rec s) fuel (nI i) = some (.inr ())) := by
    intro j
    induction j with
    | zero =>
      intro i fuel hi hf hz
      cases fuel with
      | zero => omega
      | succ F =>
        refine Or.inr ⟨fun ⟨i', a1, a2, _⟩ => by omega, ?_⟩
        show fb_X12_hasOpenSum_2 M _ (nI i) = _
        unfold fb_X12_hasOpenSum_2
        rw [h36, if_pos (nI_le (by omega) (by omega))]
    | succ j ih =>
      intro i fuel hi hf hz
      cases fuel with
      | zero => omega
      | succ F =>
        have hil : i < W.length := by omega
        have hih := ih (i + 1) F (by omega) (by omega) (by omega)
        have hu : ro_loop (fun rec s => fb_X12_hasOpenSum_2 M rec s) (F + 1) (nI i) = if M 229 i / 1048576 = 14 then some (.inl ()) else ro_loop (fun rec s => fb_X12_hasOpenSum_2 M rec s) F (nI (i + 1)) := by
          show fb_X12_hasOpenSum_2 M (ro_loop (fun rec s => fb_X12_hasOpenSum_2 M rec s) F) (nI i) = _
          generalize ro_loop (fun rec s => fb_X12_hasOpenSum_2 M rec s) F = R
          unfold fb_X12_hasOpenSum_2
          rw [h36, if_neg (nI_ge hil (by omega)), if_pos (rt_in (n := 220) (by omega) (by decide)), nI_clamp (show i < 2 ^ 31 by omega), nI_1]
        rw [hu]
        by_cases c : M 229 i / 1048576 = 14
        · rw [if_pos c]
          exact Or.inl ⟨⟨i, by omega, hil, c⟩, rfl⟩
        · rw [if_neg c]
          rcases hih with ⟨⟨i', a1, a2, a3⟩, e⟩ | ⟨a1, e⟩
          · exact Or.inl ⟨⟨i', by omega, a2, a3⟩, e⟩
          · refine Or.inr ⟨fun ⟨i', b1, b2, b3⟩ => ?_, e⟩
            by_cases ci : i' = i
            · rw [ci] at b3; exact c b3
            · exact a1 ⟨i', by omega, b2, b3⟩
  unfold fn_X12_hasOpenSum
  rcases key (max z W.length - z) z ro_FU (by omega) (Nat.lt_of_le_of_lt (show max z W.length - z ≤ 219 by omega) (by decide)) (Nat.le_refl _) with ⟨a1, e⟩ | ⟨a1, e⟩
  · have e : fl_X12_hasOpenSum_2 M (nI z) = some (.inl ()) := e
    rw [e, Option.bind_some]
    exact Or.inl ⟨hat.mpr a1, rfl⟩
  · have e : fl_X12_hasOpenSum_2 M (nI z) = some (.inr ()) := e
    rw [e, Option.bind_some]
    exact Or.inr ⟨fun q => a1 (hat.mp q), rfl⟩
end
