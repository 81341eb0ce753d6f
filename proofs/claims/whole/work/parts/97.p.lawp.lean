-- ===== jumps that land, and the ends of pieces =====
abbrev isl_ (k x : Nat) : Prop := x / 1048576 = 11 ∨ (k = 1 ∧ x / 1048576 = 12)
def la_ (k : Nat) : Sx → List Nat → Sx × List Nat
  | s, [] => (s, [])
  | s, x :: W => if isl_ k x then la_ k (s.land (x % 1048576)) W else (s, x :: W)
def AW (s : Sx) : Prop := ∀ k, k < s.c → s.op k ≤ 12 ∧ s.ar k < 1048576
def LW (W : List Nat) : Prop := W.length ≤ 219 ∧ ∀ x, x ∈ W → x < 2 ^ 31 ∧ x % 1048576 < 220
theorem LW.tail {x : Nat} {W : List Nat} (h : LW (x :: W)) : LW W := ⟨by have := h.1; rw [List.length_cons] at this; omega, fun y hy => h.2 y (List.mem_cons_of_mem _ hy)⟩
theorem LW.cons {x : Nat} {W : List Nat} (h : LW W) (hl : W.length < 219) (h1 : x < 2 ^ 31) (h2 : x % 1048576 < 220) : LW (x :: W) := by
  refine ⟨by rw [List.length_cons]; omega, fun y hy => ?_⟩
  rcases List.mem_cons.mp hy with q | q
  · rw [q]; exact ⟨h1, h2⟩
  · exact h.2 y q
theorem AW.land {s : Sx} (h : AW s) (hc : s.c < 1048576) (i : Nat) : AW (s.land i) := by
  intro k hk
  have := h k hk
  show s.op k ≤ 12 ∧ updN s.ar i s.c k < 1048576
  by_cases c : k = i
  · rw [c, updN_s, ← c]; exact ⟨this.1, hc⟩
  · rw [updN_n c]; exact this
theorem AW.emit {s : Sx} {w v : Nat} (h : AW s) (hw : w ≤ 12) (hv : v < 1048576) : AW (s.emit w v) := by
  intro k hk
  have hk : k < s.c + 1 := hk
  show updN s.op s.c w k ≤ 12 ∧ updN s.ar s.c v k < 1048576
  by_cases c : k = s.c
  · rw [c, updN_s, updN_s]; exact ⟨hw, hv⟩
  · rw [updN_n c, updN_n c]; exact h k (by omega)
theorem AW.go {n : Nat} {s s1 : Sx} (h : AW s) (g : Go0 n s s1) : AW s1 := by
  intro k hk
  by_cases c : k < s.c
  · have := g.2.2.2.2.1 k c
    rw [this.1, this.2]
    exact h k c
  · exact g.2.2.2.2.2 k (by omega) hk
theorem la_p (k : Nat) : ∀ (W : List Nat) (s : Sx), (la_ k s W).1.p = s.p ∧ (la_ k s W).1.c = s.c ∧ (la_ k s W).2.length ≤ W.length := by
  intro W
  induction W with
  | nil => intro s; exact ⟨rfl, rfl, Nat.le_refl _⟩
  | cons x W ih =>
    intro s
    unfold la_
    by_cases c : isl_ k x
    · rw [if_pos c]
      obtain ⟨a1, a2, a3⟩ := ih (s.land (x % 1048576))
      exact ⟨a1, a2, by rw [List.length_cons]; omega⟩
    · rw [if_neg c]
      exact ⟨rfl, rfl, Nat.le_refl _⟩
theorem la_la : ∀ (W : List Nat) (s : Sx), la_ 1 (la_ 0 s W).1 (la_ 0 s W).2 = la_ 1 s W := by
  intro W
  induction W with
  | nil => intro s; rfl
  | cons x W ih =>
    intro s
    by_cases c : isl_ 0 x
    · have c1 : isl_ 1 x := by unfold isl_ at *; omega
      have e0 : la_ 0 s (x :: W) = la_ 0 (s.land (x % 1048576)) W := if_pos c
      have e1 : la_ 1 s (x :: W) = la_ 1 (s.land (x % 1048576)) W := if_pos c1
      rw [e0, e1]
      exact ih _
    · have e0 : la_ 0 s (x :: W) = (s, x :: W) := if_neg c
      rw [e0]
/-- no jump waits on top -/
def NL (k : Nat) (W : List Nat) : Prop := ∀ s : Sx, la_ k s W = (s, W)
theorem NL_cons {k x : Nat} (W : List Nat) (h : ¬ isl_ k x) : NL k (x :: W) := fun _ => if_neg h
theorem NL_10 {W : List Nat} (h : NL 1 W) : NL 0 W := by
  cases W with
  | nil => exact fun _ => rfl
  | cons x W =>
    apply NL_cons
    intro c
    have c1 : isl_ 1 x := by unfold isl_ at *; omega
    have h1 := h (Sx.mk 0 0 (fun _ => 0) (fun _ => 0))
    have e1 : la_ 1 (Sx.mk 0 0 (fun _ => 0) (fun _ => 0)) (x :: W) = la_ 1 ((Sx.mk 0 0 (fun _ => 0) (fun _ => 0)).land (x % 1048576)) W := if_pos c1
    rw [e1] at h1
    have h2 := (la_p 1 W ((Sx.mk 0 0 (fun _ => 0) (fun _ => 0)).land (x % 1048576))).2.2
    rw [h1, List.length_cons] at h2
    omega
/-- what waits to be turned round, turned round -/
def en_ : Sx → List Nat → Nat → Sx × List Nat × Nat
  | s, [], d => (s, [], d)
  | s, x :: W, d => if x / 1048576 = 10 then en_ (s.emit 10 0) W (d - 1) else (s, x :: W, d)
def NN : List Nat → Nat → Prop
  | [], _ => True
  | x :: W, d => x / 1048576 = 10 → 1 ≤ d ∧ NN W (d - 1)
def NE (W : List Nat) : Prop := ∀ s d, en_ s W d = (s, W, d)
theorem NE_cons {x : Nat} (W : List Nat) (h : ¬ x / 1048576 = 10) : NE (x :: W) := fun _ _ => if_neg h
theorem NE_NN {W : List Nat} (h : NE W) (d : Nat) : NN W d := by
  cases W with
  | nil => trivial
  | cons x W =>
    intro c
    have h1 := h (Sx.mk 0 0 (fun _ => 0) (fun _ => 0)) 0
    have e1 : en_ (Sx.mk 0 0 (fun _ => 0) (fun _ => 0)) (x :: W) 0 = en_ ((Sx.mk 0 0 (fun _ => 0) (fun _ => 0)).emit 10 0) W (0 - 1) := if_pos c
    rw [e1] at h1
    have key : ∀ (W : List Nat) (s : Sx) d, (en_ s W d).2.1.length ≤ W.length := by
      intro W
      induction W with
      | nil => intro s d; exact Nat.le_refl _
      | cons y W ih =>
        intro s d
        unfold en_
        by_cases c : y / 1048576 = 10
        · rw [if_pos c, List.length_cons]
          have := ih (s.emit 10 0) (d - 1)
          omega
        · rw [if_neg c]; exact Nat.le_refl _
    have h2 := key W ((Sx.mk 0 0 (fun _ => 0) (fun _ => 0)).emit 10 0) (0 - 1)
    rw [h1] at h2
    have h2 : (x :: W).length ≤ W.length := h2
    rw [List.length_cons] at h2
    omega
section
variable {b : Nat → Nat} {n : Nat} {m M : ro_Mem} {s : Sx} {W : List Nat} {d : Nat}
theorem mop_le {w : Nat} (h : w ≤ 12) : iv_mop w ≤ 12 := by
  unfold iv_mop
  repeat' split
  all_goals omega
theorem RW.land {x : Nat} (h : RW m s (x :: W) d M) (hA : AW s) (hx : x < 2 ^ 31) : RW m (s.land (x % 1048576)) W d (ro_set (ro_set M 228 (x % 1048576) (1048576 * (M 228 (x % 1048576) / 1048576) + M 207 35)) 207 36 (nI W.length)) := by
  obtain ⟨h1, h2, h3, h4, h5, h6, h7⟩ := h
  refine ⟨(h1.arr (Or.inl rfl) _ _).set (Or.inr (Or.inr (Or.inr (by omega)))) _, ?_, ?_, ?_, ?_, fun k hk => ?_, ?_⟩
  · rw [ro_set_same, pk_un (by decide), ro_set_ne _ _ _ (by decide)]; exact h2
  · rw [ro_set_same, pk_un (by decide), ro_set_ne _ _ _ (by decide)]; exact h3
  · rw [ro_set_same, pk_us]
  · rw [ro_set_same, pk_un (by decide), ro_set_ne _ _ _ (by decide)]; exact h5
  · have hk : k < s.c := hk
    rw [ro_set_ne _ _ _ (by decide), ro_set_same]
    show _ = nI (cw_ (s.op k) (updN s.ar (x % 1048576) s.c k))
    by_cases c : k = x % 1048576
    · rw [← c, pk_us, updN_s, h6 k hk, h3]
      have a1 := hA k hk
      have a2 := mop_le a1.1
      have e : nI (cw_ (s.op k) (s.ar k)) / 1048576 = nI (iv_mop (s.op k)) := by
        have e1 : nI (cw_ (s.op k) (s.ar k)) / nI 1048576 = nI (cw_ (s.op k) (s.ar k) / 1048576) := pk_div (by unfold cw_; omega) (by decide) (by decide)
        have e2 : cw_ (s.op k) (s.ar k) / 1048576 = iv_mop (s.op k) := by unfold cw_; omega
        rw [e2] at e1
        exact e1
      rw [e]
      show nI 1048576 * nI (iv_mop (s.op k)) + nI s.c = _
      rw [pk_mul, nI_add]
      rfl
    · rw [pk_un c, updN_n c]; exact h6 k hk
  · rw [ro_set_ne _ _ _ (by decide), ro_set_ne _ _ _ (by decide)]; exact h7.2
theorem rt_landsL {k : Nat} (hk : k < 2) : ∀ (W : List Nat) (s : Sx) (M : ro_Mem) fuel, W.length < fuel → s.c < 1048576 → LW W → AW s → RW m s W d M → ∃ M', ro_loop (fun rec s => fb_X12_lands_0 (nI k) rec s) fuel M = some M' ∧ RW m (la_ k s W).1 (la_ k s W).2 d M' := by
  intro W
  induction W with
  | nil =>
    intro s M fuel hf _ _ _ h
    cases fuel with
    | zero => omega
    | succ F =>
      refine ⟨M, ?_, h⟩
      show fb_X12_lands_0 (nI k) _ M = _
      unfold fb_X12_lands_0
      rw [rt_top0 h, Option.bind_some, if_neg (show ¬ (-1 : Int32) = 11 by decide), Option.bind_some, if_neg (show ¬ (-1 : Int32) = 12 by decide)]
      by_cases c : nI k = 0
      · rw [if_pos c]
      · rw [if_neg c]
  | cons x W ih =>
    intro s M fuel hf hc hL hA h
    rw [List.length_cons] at hf
    have hl := hL.1
    rw [List.length_cons] at hl
    obtain ⟨hx0, hx1⟩ := hL.2 x (List.mem_cons_self ..)
    have ht := rt_top h (by omega) hx0
    have hxd : x / 1048576 < 2 ^ 31 := by omega
    cases fuel with
    | zero => omega
    | succ F =>
      show ∃ M', fb_X12_lands_0 (nI k) (ro_loop (fun rec s => fb_X12_lands_0 (nI k) rec s) F) M = some M' ∧ _
      by_cases c : isl_ k x
      · have e1 : la_ k s (x :: W) = la_ k (s.land (x % 1048576)) W := if_pos c
        rw [e1]
        obtain ⟨M2, y1, y2⟩ := ih (s.land (x % 1048576)) _ F (by omega) hc hL.tail (hA.land hc _) (h.land hA hx0)
        refine ⟨M2, ?_, y2⟩
        have h36 : M 207 36 - 1 = nI W.length := by
          rw [h.2.2.2.1, List.length_cons, show nI (W.length + 1) - 1 = nI (W.length + 1 - 1) from pk_sub (b := 1) (by omega), Nat.add_sub_cancel]
        have hrm : ro_rem (nI x) 1048576 = nI (x % 1048576) := by
          show nI x - nI x / nI 1048576 * nI 1048576 = _
          exact pk_rem hx0 (by decide) (by decide)
        have e22 : fj_X12_lands_22 (ro_loop (fun rec s => fb_X12_lands_0 (nI k) rec s) F) (nI k) M = some M2 := by
          unfold fj_X12_lands_22
          rw [h36, if_pos (rt_in (show W.length < 220 by omega) (by decide)), nI_clamp (show W.length < 2 ^ 31 by omega), h.2.2.2.2.2.2.1, hrm, ro_lt, if_pos (rt_in hx1 (by decide)), nI_clamp (show x % 1048576 < 2 ^ 31 by omega), ro_lt, ro_set_ne _ _ _ (show ¬ 207 = 228 by decide), h36, ro_lt, y1]
        generalize ro_loop (fun rec s => fb_X12_lands_0 (nI k) rec s) F = R at e22 ⊢
        unfold fb_X12_lands_0
        rw [ht, Option.bind_some, Option.bind_some, e22]
        by_cases c11 : x / 1048576 = 11
        · rw [if_pos (show nI (x / 1048576) = 11 by rw [c11]; rfl)]
        · have hk1 : k = 1 ∧ x / 1048576 = 12 := by unfold isl_ at c; omega
          rw [if_neg (show ¬ nI (x / 1048576) = 11 by rw [hk1.2]; decide), hk1.1, if_neg (show ¬ nI 1 = 0 by decide), if_pos (show nI (x / 1048576) = 12 by rw [hk1.2]; rfl)]
      · have e1 : la_ k s (x :: W) = (s, x :: W) := if_neg c
        rw [e1]
        refine ⟨M, ?_, h⟩
        generalize ro_loop (fun rec s => fb_X12_lands_0 (nI k) rec s) F = R
        unfold fb_X12_lands_0
        have c11 : ¬ x / 1048576 = 11 := by unfold isl_ at c; omega
        rw [ht, Option.bind_some, if_neg (show ¬ nI (x / 1048576) = 11 from fun z => c11 ((nI_eq (b := 11) hxd (by decide)).mp z)), Option.bind_some]
        by_cases c0 : k = 0
        · rw [c0, if_pos (show nI 0 = 0 from rfl)]
        · have hk1 : k = 1 := by omega
          have c12 : ¬ x / 1048576 = 12 := by unfold isl_ at c; omega
          rw [hk1, if_neg (show ¬ nI 1 = 0 by decide), if_neg (show ¬ nI (x / 1048576) = 12 from fun z => c12 ((nI_eq (b := 12) hxd (by decide)).mp z))]
theorem rt_lands {k : Nat} (hk : k < 2) (hc : s.c < 1048576) (hL : LW W) (hA : AW s) (h : RW m s W d M) : ∃ M', fn_X12_lands (nI k) M = some M' ∧ RW m (la_ k s W).1 (la_ k s W).2 d M' := by
  obtain ⟨M', x1, x2⟩ := rt_landsL hk W s M ro_FU (Nat.lt_of_le_of_lt hL.1 (by decide)) hc hL hA h
  have x1 : fl_X12_lands_0 (nI k) M = some M' := x1
  refine ⟨M', ?_, x2⟩
  unfold fn_X12_lands
  rw [x1, Option.bind_some]
theorem rt_endsL : ∀ (W : List Nat) (s : Sx) (d : Nat) (M : ro_Mem) fuel, W.length < fuel → s.c + W.length ≤ 219 → (∀ x, x ∈ W → x < 2 ^ 31) → NN W d → RW m s W d M → ∃ M', ro_loop (fun rec s => fb_X12_endsPiece_0 rec s) fuel M = some M' ∧ RW m (en_ s W d).1 (en_ s W d).2.1 (en_ s W d).2.2 M' := by
  intro W
  induction W with
  | nil =>
    intro s d M fuel hf _ _ _ h
    cases fuel with
    | zero => omega
    | succ F =>
      refine ⟨M, ?_, h⟩
      show fb_X12_endsPiece_0 _ M = _
      unfold fb_X12_endsPiece_0
      rw [rt_top0 h, Option.bind_some, if_neg (show ¬ (-1 : Int32) = 10 by decide)]
  | cons x W ih =>
    intro s d M fuel hf hc hL hN h
    rw [List.length_cons] at hf hc
    have hx0 := hL x (List.mem_cons_self ..)
    have ht := rt_top h (by omega) hx0
    have hxd : x / 1048576 < 2 ^ 31 := by omega
    cases fuel with
    | zero => omega
    | succ F =>
      show ∃ M', fb_X12_endsPiece_0 (ro_loop (fun rec s => fb_X12_endsPiece_0 rec s) F) M = some M' ∧ _
      by_cases c : x / 1048576 = 10
      · have e1 : en_ s (x :: W) d = en_ (s.emit 10 0) W (d - 1) := if_pos c
        rw [e1]
        obtain ⟨hd1, hN'⟩ := hN c
        obtain ⟨M1, n1, n2⟩ := rt_notesM (w := 10) (v := 0) h (by omega)
        have n1 : fn_X12_notes 10 0 M = some M1 := n1
        have n3 := n2.pop
        obtain ⟨M2, y1, y2⟩ := ih _ (d - 1) _ F (by omega) (by show s.c + 1 + W.length ≤ 219; omega) (fun y hy => hL y (List.mem_cons_of_mem _ hy)) hN' (n3.dep (d' := d - 1))
        refine ⟨M2, ?_, y2⟩
        have e34 : ro_set M1 207 36 (M1 207 36 - 1) 207 34 - 1 = nI (d - 1) := by
          rw [n3.2.2.2.2.1]
          exact pk_sub (b := 1) hd1
        generalize ro_loop (fun rec s => fb_X12_endsPiece_0 rec s) F = R at y1 ⊢
        unfold fb_X12_endsPiece_0
        rw [ht, Option.bind_some, if_pos (show nI (x / 1048576) = 10 by rw [c]; rfl), n1, Option.bind_some, ro_lt, e34, ro_lt, y1]
      · have e1 : en_ s (x :: W) d = (s, x :: W, d) := if_neg c
        rw [e1]
        refine ⟨M, ?_, h⟩
        generalize ro_loop (fun rec s => fb_X12_endsPiece_0 rec s) F = R
        unfold fb_X12_endsPiece_0
        rw [ht, Option.bind_some, if_neg (show ¬ nI (x / 1048576) = 10 from fun z => c ((nI_eq (b := 10) hxd (by decide)).mp z))]
theorem rt_ends (hc : s.c + W.length ≤ 219) (hL : ∀ x, x ∈ W → x < 2 ^ 31) (hN : NN W d) (h : RW m s W d M) : ∃ M', fn_X12_endsPiece M = some M' ∧ RW m (en_ s W d).1 (en_ s W d).2.1 (en_ s W d).2.2 M' := by
  obtain ⟨M', x1, x2⟩ := rt_endsL W s d M ro_FU (Nat.lt_of_le_of_lt (show W.length ≤ 219 by omega) (by decide)) hc hL hN h
  have x1 : fl_X12_endsPiece_0 M = some M' := x1
  refine ⟨M', ?_, x2⟩
  unfold fn_X12_endsPiece
  rw [x1, Option.bind_some]
theorem rt_jumps {w : Nat} (hw : w = 11 ∨ w = 12) (hc : s.c < 220) (hW : W.length < 220) (h : RW m s W d M) : ∃ M', fn_X12_jumps (nI w) M = some M' ∧ RW m (s.adv.emit w 0) ((1048576 * w + s.c) :: W) d M' := by
  have h1 := h.push (x := 1048576 * w + s.c)
  obtain ⟨M1, n1, n2⟩ := rt_notesM (w := w) (v := 0) h1 hc
  have hm : iv_mop w = w := by rcases hw with e | e <;> rw [e] <;> rfl
  rw [hm] at n1
  have n1 : fn_X12_notes (nI w) 0 _ = some M1 := n1
  refine ⟨_, ?_, n2.adv⟩
  unfold fn_X12_jumps
  have e36 : M 207 36 = nI W.length := h.2.2.2.1
  rw [e36, if_pos (rt_in hW (by decide)), nI_clamp (show W.length < 2 ^ 31 by omega), h.2.2.1, show (1048576 : Int32) * nI w + nI s.c = nI (1048576 * w + s.c) by show nI 1048576 * nI w + nI s.c = _; rw [pk_mul, nI_add], ro_lt, ro_set_ne _ _ _ (show ¬ 207 = 229 by decide), e36, nI_1, ro_lt, n1, Option.bind_some, ro_lt]
end
