-- ===== sums =====
theorem sp_sum_cg {f g : Nat → Nat} : ∀ {n : Nat}, (∀ i, i < n → f i = g i) → sp_sum f n = sp_sum g n := by
  intro n
  induction n with
  | zero => intro _; rfl
  | succ n ih =>
    intro h
    show sp_sum f n + f n = sp_sum g n + g n
    rw [ih (fun i hi => h i (by omega)), h n (by omega)]
theorem sp_sum_add {f g : Nat → Nat} : ∀ {n : Nat}, sp_sum (fun i => f i + g i) n = sp_sum f n + sp_sum g n := by
  intro n
  induction n with
  | zero => rfl
  | succ n ih =>
    show sp_sum (fun i => f i + g i) n + (f n + g n) = (sp_sum f n + f n) + (sp_sum g n + g n)
    rw [ih]; omega
theorem sp_sum_zero {f : Nat → Nat} : ∀ {n : Nat}, (∀ i, i < n → f i = 0) → sp_sum f n = 0 := by
  intro n
  induction n with
  | zero => intro _; rfl
  | succ n ih =>
    intro h
    show sp_sum f n + f n = 0
    rw [ih (fun i hi => h i (by omega)), h n (by omega)]
theorem sp_sum_le {f g : Nat → Nat} : ∀ {n : Nat}, (∀ i, i < n → f i ≤ g i) → sp_sum f n ≤ sp_sum g n := by
  intro n
  induction n with
  | zero => intro _; exact Nat.le_refl _
  | succ n ih =>
    intro h
    show sp_sum f n + f n ≤ sp_sum g n + g n
    have := ih (fun i hi => h i (by omega))
    have := h n (by omega)
    omega
theorem sp_sum_const {c : Nat} : ∀ {n : Nat}, sp_sum (fun _ => c) n = n * c := by
  intro n
  induction n with
  | zero => simp [sp_sum]
  | succ n ih =>
    show sp_sum (fun _ => c) n + c = _
    rw [ih, Nat.succ_mul]
theorem sp_sum_bd {f : Nat → Nat} {c n : Nat} (h : ∀ i, i < n → f i ≤ c) : sp_sum f n ≤ n * c := by
  rw [← sp_sum_const]; exact sp_sum_le h
/-- one place more -/
theorem sp_sum_one {f g : Nat → Nat} {j x : Nat} : ∀ {n : Nat}, j < n → (∀ i, i < n → f i = g i + (if i = j then x else 0)) → sp_sum f n = sp_sum g n + x := by
  intro n
  induction n with
  | zero => intro h; omega
  | succ n ih =>
    intro hj h
    show sp_sum f n + f n = sp_sum g n + g n + x
    by_cases e : j = n
    · rw [h n (by omega), if_pos e.symm, sp_sum_cg (g := g) (fun i hi => by rw [h i (by omega), if_neg (by omega)]; rfl)]
      omega
    · rw [h n (by omega), if_neg (by omega), ih (by omega) (fun i hi => h i (by omega))]
      omega
theorem sp_sum_single {f : Nat → Nat} {j n : Nat} (hj : j < n) (h : ∀ i, i < n → ¬ i = j → f i = 0) : sp_sum f n = f j := by
  have := sp_sum_one (f := f) (g := fun _ => 0) (j := j) (x := f j) hj (fun i hi => by
    by_cases e : i = j
    · rw [if_pos e, e]; omega
    · rw [if_neg e, h i hi e])
  rw [this, sp_sum_zero (fun _ _ => rfl)]
  omega
theorem sp_sum_swap {f : Nat → Nat → Nat} {m : Nat} : ∀ {n : Nat}, sp_sum (fun i => sp_sum (fun j => f i j) m) n = sp_sum (fun j => sp_sum (fun i => f i j) n) m := by
  intro n
  induction n with
  | zero => exact (sp_sum_zero (fun _ _ => rfl)).symm
  | succ n ih =>
    show sp_sum (fun i => sp_sum (fun j => f i j) m) n + sp_sum (fun j => f n j) m = sp_sum (fun j => sp_sum (fun i => f i j) n + f n j) m
    rw [ih, sp_sum_add]
theorem sp_sum_app {f : Nat → Nat} {n : Nat} : ∀ {m : Nat}, sp_sum f (n + m) = sp_sum f n + sp_sum (fun i => f (n + i)) m := by
  intro m
  induction m with
  | zero => rfl
  | succ m ih =>
    show sp_sum f (n + m) + f (n + m) = sp_sum f n + (sp_sum (fun i => f (n + i)) m + f (n + m))
    rw [ih]; omega
theorem sp_sum_16 {f : Nat → Nat} : ∀ {n : Nat}, sp_sum f (16 * n) = sp_sum (fun i => sp_sum (fun k => f (16 * i + k)) 16) n := by
  intro n
  induction n with
  | zero => rfl
  | succ n ih =>
    show _ = sp_sum (fun i => sp_sum (fun k => f (16 * i + k)) 16) n + sp_sum (fun k => f (16 * n + k)) 16
    rw [← ih, ← sp_sum_app]; rfl
theorem sp_sum_mono {f : Nat → Nat} {n m : Nat} (h : n ≤ m) : sp_sum f n ≤ sp_sum f m := by
  obtain ⟨d, rfl⟩ : ∃ d, m = n + d := ⟨m - n, by omega⟩
  rw [sp_sum_app]; omega
-- ===== the evening, step by step =====
section
variable (D F : Nat → Nat → Nat) (um ss bu : Nat → Int32)
def ev_R (a t : Nat) : Nat := sp_sum (fun s => sp_rest D F um ss bu a s t) 96
def ev_BN (T a τ i : Nat) : Nat := sp_sum (fun a' => sp_sum (fun k => if (a' < a ∧ 16 * i + k < T) ∨ (a' = a ∧ 16 * i + k < τ) then ev_R D F um ss bu a' (16 * i + k) else 0) 16) 4
def ev_BS (T a τ k : Nat) : Nat := sp_sum (fun a' => sp_sum (fun i => if (a' < a ∧ 16 * i + k < T) ∨ (a' = a ∧ 16 * i + k < τ) then ev_R D F um ss bu a' (16 * i + k) else 0) 32) 4
end
variable {D F : Nat → Nat → Nat} {um ss bu : Nat → Int32}
theorem ev_add0 {a b : Nat} (h : a = b) : a = b + 0 := h
theorem ev_BN_s {T a τ i : Nat} (ha : a < 4) : ev_BN D F um ss bu T a (τ + 1) i = ev_BN D F um ss bu T a τ i + (if i = τ / 16 then ev_R D F um ss bu a τ else 0) := by
  unfold ev_BN
  refine sp_sum_one (j := a) ha (fun a' ha' => ?_)
  by_cases e : a' = a
  · subst e
    rw [if_pos rfl]
    by_cases ei : i = τ / 16
    · rw [if_pos ei]
      refine sp_sum_one (j := τ % 16) (Nat.mod_lt _ (by decide)) (fun k hk => ?_)
      by_cases ek : k = τ % 16
      · have : 16 * i + k = τ := by omega
        rw [if_pos ek, if_pos (by omega), if_neg (by omega), this, Nat.zero_add]
      · rw [if_neg ek]
        by_cases c : 16 * i + k < τ
        · rw [if_pos (by omega), if_pos (by omega)]; exact ev_add0 rfl
        · rw [if_neg (by omega), if_neg (by omega)]
    · rw [if_neg ei]
      refine ev_add0 ?_
      apply sp_sum_cg
      intro k hk
      by_cases c : 16 * i + k < τ
      · rw [if_pos (by omega), if_pos (by omega)]
      · rw [if_neg (by omega), if_neg (by omega)]
  · rw [if_neg e]
    refine ev_add0 ?_
    apply sp_sum_cg
    intro k hk
    by_cases c : a' < a ∧ 16 * i + k < T
    · rw [if_pos (Or.inl c), if_pos (Or.inl c)]
    · rw [if_neg (by omega), if_neg (by omega)]
theorem ev_BS_s {T a τ k : Nat} (ha : a < 4) (hk : k < 16) (hτ : τ < 512) : ev_BS D F um ss bu T a (τ + 1) k = ev_BS D F um ss bu T a τ k + (if k = τ % 16 then ev_R D F um ss bu a τ else 0) := by
  unfold ev_BS
  refine sp_sum_one (j := a) ha (fun a' ha' => ?_)
  by_cases e : a' = a
  · subst e
    rw [if_pos rfl]
    by_cases ei : k = τ % 16
    · rw [if_pos ei]
      refine sp_sum_one (j := τ / 16) (by omega) (fun i hi => ?_)
      by_cases ek : i = τ / 16
      · have : 16 * i + k = τ := by omega
        rw [if_pos ek, if_pos (by omega), if_neg (by omega), this, Nat.zero_add]
      · rw [if_neg ek]
        by_cases c : 16 * i + k < τ
        · rw [if_pos (by omega), if_pos (by omega)]; exact ev_add0 rfl
        · rw [if_neg (by omega), if_neg (by omega)]
    · rw [if_neg ei]
      refine ev_add0 ?_
      apply sp_sum_cg
      intro i hi
      by_cases c : 16 * i + k < τ
      · rw [if_pos (by omega), if_pos (by omega)]
      · rw [if_neg (by omega), if_neg (by omega)]
  · rw [if_neg e]
    refine ev_add0 ?_
    apply sp_sum_cg
    intro i hi
    by_cases c : a' < a ∧ 16 * i + k < T
    · rw [if_pos (Or.inl c), if_pos (Or.inl c)]
    · rw [if_neg (by omega), if_neg (by omega)]
theorem ev_BN_a {T a i : Nat} : ev_BN D F um ss bu T (a + 1) 0 i = ev_BN D F um ss bu T a T i := by
  unfold ev_BN
  refine sp_sum_cg (fun a' _ => sp_sum_cg (fun k _ => ?_))
  by_cases c : (a' < a + 1 ∧ 16 * i + k < T) ∨ (a' = a + 1 ∧ 16 * i + k < 0)
  · rw [if_pos c, if_pos (by omega)]
  · rw [if_neg c, if_neg (by omega)]
theorem ev_BS_a {T a k : Nat} : ev_BS D F um ss bu T (a + 1) 0 k = ev_BS D F um ss bu T a T k := by
  unfold ev_BS
  refine sp_sum_cg (fun a' _ => sp_sum_cg (fun i _ => ?_))
  by_cases c : (a' < a + 1 ∧ 16 * i + k < T) ∨ (a' = a + 1 ∧ 16 * i + k < 0)
  · rw [if_pos c, if_pos (by omega)]
  · rw [if_neg c, if_neg (by omega)]
theorem ev_BN_0 {T i : Nat} : ev_BN D F um ss bu T 0 0 i = 0 := by
  unfold ev_BN
  exact sp_sum_zero (fun a' _ => sp_sum_zero (fun k _ => if_neg (by omega)))
theorem ev_BS_0 {T k : Nat} : ev_BS D F um ss bu T 0 0 k = 0 := by
  unfold ev_BS
  exact sp_sum_zero (fun a' _ => sp_sum_zero (fun i _ => if_neg (by omega)))
theorem ev_BN_4 {N i : Nat} : ev_BN D F um ss bu (16 * N) 4 0 i = if i < N then sp_bn D F um ss bu i else 0 := by
  unfold ev_BN
  by_cases c : i < N
  · rw [if_pos c]
    unfold sp_bn
    refine sp_sum_cg (fun a ha => ?_)
    rw [sp_sum_swap]
    refine sp_sum_cg (fun k hk => ?_)
    rw [if_pos (by omega)]
    rfl
  · rw [if_neg c]
    exact sp_sum_zero (fun a' _ => sp_sum_zero (fun k hk => if_neg (by omega)))
theorem ev_BS_4 {N k : Nat} (hk : k < 16) (hN : N ≤ 32) : ev_BS D F um ss bu (16 * N) 4 0 k = sp_bs D F um ss bu N k := by
  unfold ev_BS sp_bs
  refine sp_sum_cg (fun a ha => ?_)
  rw [sp_sum_swap]
  have hsplit : ∀ f : Nat → Nat, (∀ i, N ≤ i → i < 32 → f i = 0) → sp_sum f 32 = sp_sum f N := by
    intro f hf
    have h1 : sp_sum f (N + (32 - N)) = _ := sp_sum_app
    rw [show N + (32 - N) = 32 by omega, sp_sum_zero (f := fun i => f (N + i)) (fun i hi => hf _ (by omega) (by omega)), Nat.add_zero] at h1
    exact h1
  rw [hsplit _ (fun i h1 h2 => if_neg (by omega))]
  refine sp_sum_cg (fun i hi => ?_)
  rw [if_pos (by omega)]
  rfl
theorem ev_prev_s {a s t : Nat} : sp_prev D F um ss a s (t + 1) = sp_prev D F um ss a s t + sp_fall D F um ss a s (t / 16) (t % 16) := rfl
theorem ev_dry {a t : Nat} (h : ¬ (0 < D (t / 16) (t % 16) ∧ F (t / 16) (t % 16) = a)) : (∀ s, sp_prev D F um ss a s (t + 1) = sp_prev D F um ss a s t) ∧ ev_R D F um ss bu a t = 0 := by
  have h1 : ∀ s, sp_prev D F um ss a s (t + 1) = sp_prev D F um ss a s t := fun s => by
    rw [ev_prev_s]
    unfold sp_fall
    rw [if_neg h]; rfl
  refine ⟨h1, ?_⟩
  unfold ev_R sp_rest
  exact sp_sum_zero (fun s _ => by rw [h1 s]; omega)
