-- ===== signs that wait, noted =====
abbrev isg_ (k x : Nat) : Prop := (4 ≤ x / 1048576 ∧ x / 1048576 ≤ 6) ∨ (k = 1 ∧ (x / 1048576 = 2 ∨ x / 1048576 = 3))
def cl_ (k : Nat) : Sx → List Nat → Sx × List Nat
  | s, [] => (s, [])
  | s, x :: W => if isg_ k x then cl_ k (s.emit (x / 1048576 - 2) 0) W else (s, x :: W)
theorem cl_p (k : Nat) : ∀ (W : List Nat) (s : Sx), (cl_ k s W).1.p = s.p ∧ (cl_ k s W).2.length ≤ W.length ∧ (cl_ k s W).1.c + (cl_ k s W).2.length = s.c + W.length := by
  intro W
  induction W with
  | nil => intro s; exact ⟨rfl, Nat.le_refl _, rfl⟩
  | cons x W ih =>
    intro s
    unfold cl_
    by_cases c : isg_ k x
    · rw [if_pos c]
      obtain ⟨a1, a2, a3⟩ := ih (s.emit (x / 1048576 - 2) 0)
      refine ⟨a1, by rw [List.length_cons]; omega, ?_⟩
      rw [a3, List.length_cons]
      show s.c + 1 + W.length = _
      omega
    · rw [if_neg c]
      exact ⟨rfl, Nat.le_refl _, rfl⟩
theorem cl_cl : ∀ (W : List Nat) (s : Sx), cl_ 1 (cl_ 0 s W).1 (cl_ 0 s W).2 = cl_ 1 s W := by
  intro W
  induction W with
  | nil => intro s; rfl
  | cons x W ih =>
    intro s
    by_cases c : isg_ 0 x
    · have c1 : isg_ 1 x := by
        unfold isg_ at *
        omega
      have e0 : cl_ 0 s (x :: W) = cl_ 0 (s.emit (x / 1048576 - 2) 0) W := if_pos c
      have e1 : cl_ 1 s (x :: W) = cl_ 1 (s.emit (x / 1048576 - 2) 0) W := if_pos c1
      rw [e0, e1]
      exact ih _
    · have e0 : cl_ 0 s (x :: W) = (s, x :: W) := if_neg c
      rw [e0]
section
variable {m : ro_Mem} {d : Nat}
theorem rt_closesL {k : Nat} (hk : k < 2) : ∀ (W : List Nat) (s : Sx) (M : ro_Mem) fuel, W.length < fuel → s.c + W.length ≤ 219 → (∀ x, x ∈ W → x < 2 ^ 31) → RW m s W d M → ∃ M', ro_loop (fun rec s => fb_X12_closesSums_0 (nI k) rec s) fuel M = some M' ∧ RW m (cl_ k s W).1 (cl_ k s W).2 d M' := by
  intro W
  induction W with
  | nil =>
    intro s M fuel hf _ _ h
    cases fuel with
    | zero => omega
    | succ F =>
      refine ⟨M, ?_, h⟩
      show fb_X12_closesSums_0 (nI k) _ M = _
      unfold fb_X12_closesSums_0 fj_X12_closesSums_17
      rw [rt_top0 h, Option.bind_some, if_pos (show (-1 : Int32) < 4 by decide), Option.bind_some, if_neg (show ¬ (-1 : Int32) = 2 by decide), Option.bind_some, if_neg (show ¬ (-1 : Int32) = 3 by decide)]
      by_cases c : nI k = 0
      · rw [if_pos c]
      · rw [if_neg c]
  | cons x W ih =>
    intro s M fuel hf hc hx h
    rw [List.length_cons] at hf hc
    have hx0 := hx x (List.mem_cons_self ..)
    have ht := rt_top h (by omega) hx0
    have hxd : x / 1048576 < 2 ^ 31 := by omega
    cases fuel with
    | zero => omega
    | succ F =>
      have hih := ih (s.emit (x / 1048576 - 2) 0)
      show ∃ M', fb_X12_closesSums_0 (nI k) (ro_loop (fun rec s => fb_X12_closesSums_0 (nI k) rec s) F) M = some M' ∧ _
      by_cases c : isg_ k x
      · have e1 : cl_ k s (x :: W) = cl_ k (s.emit (x / 1048576 - 2) 0) W := if_pos c
        rw [e1]
        have hr : 2 ≤ x / 1048576 ∧ x / 1048576 ≤ 6 := by unfold isg_ at c; omega
        have hm : iv_mop (x / 1048576 - 2) = x / 1048576 := by
          unfold iv_mop
          rw [if_pos (by omega)]
          omega
        obtain ⟨M1, n1, n2⟩ := rt_notesM (w := x / 1048576 - 2) (v := 0) h (by omega)
        rw [hm] at n1
        have n1 : fn_X12_notes (nI (x / 1048576)) 0 M = some M1 := n1
        obtain ⟨M2, y1, y2⟩ := hih _ F (by omega) (by show s.c + 1 + W.length ≤ 219; omega) (fun y hy => hx y (List.mem_cons_of_mem _ hy)) n2.pop
        refine ⟨M2, ?_, y2⟩
        have e37 : fj_X12_closesSums_37 (ro_loop (fun rec s => fb_X12_closesSums_0 (nI k) rec s) F) (nI k) M = some M2 := by
          unfold fj_X12_closesSums_37
          rw [ht, Option.bind_some, n1, Option.bind_some, ro_lt, y1]
        generalize ro_loop (fun rec s => fb_X12_closesSums_0 (nI k) rec s) F = R at e37 ⊢
        unfold fb_X12_closesSums_0 fj_X12_closesSums_17
        rw [ht, Option.bind_some, Option.bind_some, Option.bind_some, Option.bind_some, e37]
        by_cases c4 : 4 ≤ x / 1048576
        · rw [if_neg (show ¬ nI (x / 1048576) < 4 from nI_nlt (b := 4) c4 hxd), if_pos (show nI (x / 1048576) ≤ 6 from nI_le (b := 6) hr.2 (by decide))]
        · have hk1 : k = 1 := by unfold isg_ at c; omega
          rw [if_pos (show nI (x / 1048576) < 4 from nI_lt (b := 4) (by omega) (by decide)), hk1, if_neg (show ¬ nI 1 = 0 by decide)]
          by_cases c2 : x / 1048576 = 2
          · rw [if_pos (show nI (x / 1048576) = 2 by rw [c2]; rfl)]
          · have c3 : x / 1048576 = 3 := by omega
            rw [if_neg (show ¬ nI (x / 1048576) = 2 by rw [c3]; decide), if_pos (show nI (x / 1048576) = 3 by rw [c3]; rfl)]
      · have e1 : cl_ k s (x :: W) = (s, x :: W) := if_neg c
        rw [e1]
        refine ⟨M, ?_, h⟩
        have e17 : fj_X12_closesSums_17 (ro_loop (fun rec s => fb_X12_closesSums_0 (nI k) rec s) F) (nI k) M = some M := by
          unfold fj_X12_closesSums_17
          by_cases c0 : k = 0
          · rw [c0, if_pos (show nI 0 = 0 from rfl)]
          · have hk1 : k = 1 := by omega
            have h23 : ¬ x / 1048576 = 2 ∧ ¬ x / 1048576 = 3 := by unfold isg_ at c; omega
            rw [hk1, if_neg (show ¬ nI 1 = 0 by decide), ht, Option.bind_some, if_neg (show ¬ nI (x / 1048576) = 2 from fun z => h23.1 ((nI_eq (b := 2) hxd (by decide)).mp z)), Option.bind_some, if_neg (show ¬ nI (x / 1048576) = 3 from fun z => h23.2 ((nI_eq (b := 3) hxd (by decide)).mp z))]
        generalize ro_loop (fun rec s => fb_X12_closesSums_0 (nI k) rec s) F = R at e17 ⊢
        unfold fb_X12_closesSums_0
        rw [ht, Option.bind_some, Option.bind_some, e17]
        by_cases c4 : 4 ≤ x / 1048576
        · have c6 : ¬ x / 1048576 ≤ 6 := by unfold isg_ at c; omega
          rw [if_neg (show ¬ nI (x / 1048576) < 4 from nI_nlt (b := 4) c4 hxd), if_neg (show ¬ nI (x / 1048576) ≤ 6 from nI_ge (a := 6) (by omega) hxd)]
        · rw [if_pos (show nI (x / 1048576) < 4 from nI_lt (b := 4) (by omega) (by decide))]
theorem rt_closes {k : Nat} {W : List Nat} {s : Sx} {M : ro_Mem} (hk : k < 2) (hc : s.c + W.length ≤ 219) (hx : ∀ x, x ∈ W → x < 2 ^ 31) (h : RW m s W d M) : ∃ M', fn_X12_closesSums (nI k) M = some M' ∧ RW m (cl_ k s W).1 (cl_ k s W).2 d M' := by
  obtain ⟨M', x1, x2⟩ := rt_closesL hk W s M ro_FU (Nat.lt_of_le_of_lt (show W.length ≤ 219 by omega) (by decide)) hc hx h
  have x1 : fl_X12_closesSums_0 (nI k) M = some M' := x1
  refine ⟨M', ?_, x2⟩
  unfold fn_X12_closesSums
  rw [x1, Option.bind_some]
end
