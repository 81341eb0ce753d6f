-- ===== the heaviest ones: what c of n weigh at most =====
theorem sp_sum_front {f : Nat → Nat} : ∀ {n : Nat}, sp_sum f (n + 1) = f 0 + sp_sum (fun i => f (i + 1)) n := by
  intro n
  induction n with
  | zero => show 0 + f 0 = f 0 + 0; omega
  | succ n ih =>
    show sp_sum f (n + 1) + f (n + 1) = f 0 + (sp_sum (fun i => f (i + 1)) n + f (n + 1))
    rw [ih]; omega
theorem sp_sum_mul {f : Nat → Nat} {c : Nat} : ∀ {n : Nat}, sp_sum (fun i => c * f i) n = c * sp_sum f n := by
  intro n
  induction n with
  | zero => rfl
  | succ n ih =>
    show sp_sum (fun i => c * f i) n + c * f n = c * (sp_sum f n + f n)
    rw [ih, Nat.mul_add]
def tp_ (w : Nat → Nat) : Nat → Nat → Nat → Nat
  | 0, _, _ => 0
  | n + 1, lo, c => max (tp_ w n (lo + 1) c) (if c = 0 then 0 else w lo + tp_ w n (lo + 1) (c - 1))
theorem tp_s (w : Nat → Nat) (n lo c : Nat) : tp_ w (n + 1) lo c = max (tp_ w n (lo + 1) c) (if c = 0 then 0 else w lo + tp_ w n (lo + 1) (c - 1)) := rfl
theorem tp_c0 {w : Nat → Nat} : ∀ n lo, tp_ w n lo 0 = 0 := by
  intro n
  induction n with
  | zero => intro lo; rfl
  | succ n ih => intro lo; rw [tp_s, ih, if_pos rfl]; rfl
theorem tp_fe {w χ : Nat → Nat} (h1 : ∀ i, χ i ≤ 1) : ∀ n lo c, sp_sum (fun i => χ (lo + i)) n ≤ c → sp_sum (fun i => χ (lo + i) * w (lo + i)) n ≤ tp_ w n lo c := by
  intro n
  induction n with
  | zero => intro lo c _; exact Nat.le_refl _
  | succ n ih =>
    intro lo c h
    rw [sp_sum_front, Nat.add_zero] at h ⊢
    have e1 : sp_sum (fun i => χ (lo + (i + 1))) n = sp_sum (fun i => χ (lo + 1 + i)) n := sp_sum_cg (fun i _ => by rw [show lo + (i + 1) = lo + 1 + i by omega])
    have e2 : sp_sum (fun i => χ (lo + (i + 1)) * w (lo + (i + 1))) n = sp_sum (fun i => χ (lo + 1 + i) * w (lo + 1 + i)) n := sp_sum_cg (fun i _ => by rw [show lo + (i + 1) = lo + 1 + i by omega])
    rw [e1] at h
    rw [e2, tp_s]
    have hx := h1 lo
    by_cases c0 : χ lo = 0
    · rw [c0, Nat.zero_mul, Nat.zero_add]
      have := ih (lo + 1) c (by omega)
      exact Nat.le_trans this (Nat.le_max_left _ _)
    · have hx1 : χ lo = 1 := by omega
      have := ih (lo + 1) (c - 1) (by omega)
      rw [hx1, Nat.one_mul, if_neg (by omega)]
      exact Nat.le_trans (Nat.add_le_add_left this _) (Nat.le_max_right _ _)
theorem tp_ub {w : Nat → Nat} (θ : Nat) : ∀ n lo c, tp_ w n lo c ≤ sp_sum (fun i => w (lo + i) - θ) n + θ * c := by
  intro n
  induction n with
  | zero => intro lo c; exact Nat.zero_le _
  | succ n ih =>
    intro lo c
    rw [sp_sum_front, tp_s]
    simp only [Nat.add_zero]
    have e2 : sp_sum (fun i => w (lo + (i + 1)) - θ) n = sp_sum (fun i => w (lo + 1 + i) - θ) n := sp_sum_cg (fun i _ => by rw [show lo + (i + 1) = lo + 1 + i by omega])
    rw [e2]
    refine Nat.max_le.mpr ⟨?_, ?_⟩
    · have := ih (lo + 1) c
      omega
    · by_cases c0 : c = 0
      · rw [if_pos c0]; exact Nat.zero_le _
      · rw [if_neg c0]
        have := ih (lo + 1) (c - 1)
        have e : θ * c = θ * (c - 1) + θ := by
          obtain ⟨d, rfl⟩ : ∃ d, c = d + 1 := ⟨c - 1, by omega⟩
          rw [Nat.add_sub_cancel, Nat.mul_succ]
        rw [e]
        omega
theorem tp_eq {w χ : Nat → Nat} {n lo c v θ : Nat} (h1 : ∀ i, χ i ≤ 1) (h2 : sp_sum (fun i => χ (lo + i)) n ≤ c) (h3 : v = sp_sum (fun i => χ (lo + i) * w (lo + i)) n) (h4 : sp_sum (fun i => w (lo + i) - θ) n + θ * c ≤ v) : v = tp_ w n lo c := by
  have a := tp_fe (w := w) h1 n lo c h2
  have b := tp_ub (w := w) θ n lo c
  omega
-- ===== by an order =====
/-- ord runs through 0 .. n-1 -/
def Pm (ord : Nat → Nat) (n : Nat) : Prop := ∀ g : Nat → Nat, sp_sum (fun j => g (ord j)) n = sp_sum g n
def hv_ (w ord : Nat → Nat) (lo hi most : Nat) : Nat → Nat × Nat
  | 0 => (0, 0)
  | j + 1 => if most ≤ (hv_ w ord lo hi most j).2 then hv_ w ord lo hi most j else if lo ≤ ord j ∧ ord j < hi then ((hv_ w ord lo hi most j).1 + w (ord j), (hv_ w ord lo hi most j).2 + 1) else hv_ w ord lo hi most j
def hc_ (w ord : Nat → Nat) (lo hi most j : Nat) : Nat := if most ≤ (hv_ w ord lo hi most j).2 then 0 else if lo ≤ ord j ∧ ord j < hi then 1 else 0
section
variable {w ord : Nat → Nat} {lo hi most : Nat}
theorem hv_s (j : Nat) : hv_ w ord lo hi most (j + 1) = if most ≤ (hv_ w ord lo hi most j).2 then hv_ w ord lo hi most j else if lo ≤ ord j ∧ ord j < hi then ((hv_ w ord lo hi most j).1 + w (ord j), (hv_ w ord lo hi most j).2 + 1) else hv_ w ord lo hi most j := rfl
theorem hv_stop {j : Nat} (h : most ≤ (hv_ w ord lo hi most j).2) : ∀ d, hv_ w ord lo hi most (j + d) = hv_ w ord lo hi most j := by
  intro d
  induction d with
  | zero => rfl
  | succ d ih =>
    rw [show j + (d + 1) = j + d + 1 from rfl, hv_s, ih, if_pos h]
theorem hv_sum : ∀ j, (hv_ w ord lo hi most j).1 = sp_sum (fun j => hc_ w ord lo hi most j * w (ord j)) j ∧ (hv_ w ord lo hi most j).2 = sp_sum (fun j => hc_ w ord lo hi most j) j ∧ (hv_ w ord lo hi most j).2 ≤ most := by
  intro j
  induction j with
  | zero => exact ⟨rfl, rfl, Nat.zero_le _⟩
  | succ j ih =>
    obtain ⟨h1, h2, h3⟩ := ih
    show _ = sp_sum (fun j => hc_ w ord lo hi most j * w (ord j)) j + hc_ w ord lo hi most j * w (ord j) ∧ _ = sp_sum (fun j => hc_ w ord lo hi most j) j + hc_ w ord lo hi most j ∧ _
    rw [← h1, ← h2, hv_s]
    unfold hc_
    by_cases c : most ≤ (hv_ w ord lo hi most j).2
    · rw [if_pos c, if_pos c, Nat.zero_mul]
      exact ⟨rfl, rfl, h3⟩
    · rw [if_neg c, if_neg c]
      by_cases c2 : lo ≤ ord j ∧ ord j < hi
      · rw [if_pos c2, if_pos c2, Nat.one_mul]
        refine ⟨rfl, rfl, ?_⟩
        show (hv_ w ord lo hi most j).2 + 1 ≤ most
        omega
      · rw [if_neg c2, if_neg c2, Nat.zero_mul]
        exact ⟨rfl, rfl, h3⟩
/-- a weight that parts the chosen from the others -/
theorem hv_part {n B : Nat} (hs : ∀ j j', j ≤ j' → j' < n → w (ord j') ≤ w (ord j)) (hB : ∀ j, j < n → w (ord j) ≤ B) : ∀ J, J ≤ n → ((hv_ w ord lo hi most J).2 < most ∧ ∀ j, j < J → hc_ w ord lo hi most j = if lo ≤ ord j ∧ ord j < hi then 1 else 0) ∨ ((hv_ w ord lo hi most J).2 = most ∧ ∃ θ, (∀ j, j < J → (hc_ w ord lo hi most j = 1 ∧ (lo ≤ ord j ∧ ord j < hi) ∧ θ ≤ w (ord j)) ∨ (hc_ w ord lo hi most j = 0 ∧ ((lo ≤ ord j ∧ ord j < hi) → w (ord j) ≤ θ))) ∧ ∀ j, J ≤ j → j < n → w (ord j) ≤ θ) := by
  intro J
  induction J with
  | zero =>
    intro _
    by_cases c : most = 0
    · right
      exact ⟨c.symm, B, fun j h => absurd h (by omega), fun j _ h => hB j h⟩
    · left
      exact ⟨by show 0 < most; omega, fun j h => absurd h (by omega)⟩
  | succ J ih =>
    intro hJ
    have e := hv_s (w := w) (ord := ord) (lo := lo) (hi := hi) (most := most) J
    rcases ih (by omega) with ⟨h1, h2⟩ | ⟨h1, θ, h2, h3⟩
    · have hc : hc_ w ord lo hi most J = if lo ≤ ord J ∧ ord J < hi then 1 else 0 := by
        unfold hc_
        rw [if_neg (by omega)]
      rw [if_neg (by omega)] at e
      have hall : ∀ j, j < J + 1 → hc_ w ord lo hi most j = if lo ≤ ord j ∧ ord j < hi then 1 else 0 := fun j hj => by
        by_cases q : j = J
        · rw [q]; exact hc
        · exact h2 j (by omega)
      by_cases c : lo ≤ ord J ∧ ord J < hi
      · rw [if_pos c] at e
        have e2 : (hv_ w ord lo hi most (J + 1)).2 = (hv_ w ord lo hi most J).2 + 1 := by rw [e]
        by_cases q : (hv_ w ord lo hi most J).2 + 1 < most
        · left
          exact ⟨by omega, hall⟩
        · right
          refine ⟨by omega, w (ord J), fun j hj => ?_, fun j hj hj2 => hs J j (by omega) hj2⟩
          rw [hall j hj]
          by_cases cj : lo ≤ ord j ∧ ord j < hi
          · rw [if_pos cj]
            exact Or.inl ⟨rfl, cj, hs j J (by omega) (by omega)⟩
          · rw [if_neg cj]
            exact Or.inr ⟨rfl, fun h => absurd h cj⟩
      · rw [if_neg c] at e
        left
        rw [e]
        exact ⟨h1, hall⟩
    · right
      rw [if_pos (by omega)] at e
      rw [e]
      refine ⟨h1, θ, fun j hj => ?_, fun j hj hj2 => h3 j (by omega) hj2⟩
      by_cases q : j = J
      · subst q
        right
        refine ⟨?_, fun _ => h3 j (Nat.le_refl _) (by omega)⟩
        unfold hc_
        rw [if_pos (by omega)]
      · exact h2 j (by omega)
theorem hc_le (j : Nat) : hc_ w ord lo hi most j ≤ 1 := by
  unfold hc_
  by_cases c : most ≤ (hv_ w ord lo hi most j).2
  · rw [if_pos c]; omega
  · rw [if_neg c]
    by_cases c2 : lo ≤ ord j ∧ ord j < hi
    · rw [if_pos c2]; exact Nat.le_refl _
    · rw [if_neg c2]; omega
theorem hc_in {j : Nat} (h : ¬ (lo ≤ ord j ∧ ord j < hi)) : hc_ w ord lo hi most j = 0 := by
  unfold hc_
  by_cases c : most ≤ (hv_ w ord lo hi most j).2
  · rw [if_pos c]
  · rw [if_neg c, if_neg h]
end
/-- a sum over a range, as one over all places -/
theorem sp_sum_rng {f : Nat → Nat} {lo hi n : Nat} (h1 : lo ≤ hi) (h2 : hi ≤ n) : sp_sum (fun i => if lo ≤ i ∧ i < hi then f i else 0) n = sp_sum (fun i => f (lo + i)) (hi - lo) := by
  obtain ⟨a, rfl⟩ : ∃ a, hi = lo + a := ⟨hi - lo, by omega⟩
  obtain ⟨b, rfl⟩ : ∃ b, n = lo + a + b := ⟨n - (lo + a), by omega⟩
  rw [sp_sum_app, sp_sum_app, sp_sum_zero (f := fun i => if lo ≤ i ∧ i < lo + a then f i else 0) (fun i hi => if_neg (by omega)), sp_sum_zero (f := fun i => if lo ≤ lo + a + i ∧ lo + a + i < lo + a then f (lo + a + i) else 0) (fun i hi => if_neg (by omega)), show lo + a - lo = a by omega, Nat.zero_add, Nat.add_zero]
  exact sp_sum_cg (fun i hi => if_pos (by omega))
theorem hv_top {w ord : Nat → Nat} {lo hi most n B : Nat} (h1 : lo ≤ hi) (h2 : hi ≤ n) (hp : Pm ord n) (ho : ∀ j, j < n → ord j < n) (hs : ∀ j j', j ≤ j' → j' < n → w (ord j') ≤ w (ord j)) (hB : ∀ j, j < n → w (ord j) ≤ B) : (hv_ w ord lo hi most n).1 = tp_ w (hi - lo) lo most := by
  obtain ⟨s1, s2, s3⟩ := hv_sum (w := w) (ord := ord) (lo := lo) (hi := hi) (most := most) n
  -- chosen places
  have hχ : ∀ f : Nat → Nat, sp_sum (fun i => (sp_sum (fun j => if ord j = i then hc_ w ord lo hi most j else 0) n) * f i) n = sp_sum (fun j => hc_ w ord lo hi most j * f (ord j)) n := by
    intro f
    have e1 : ∀ i, (sp_sum (fun j => if ord j = i then hc_ w ord lo hi most j else 0) n) * f i = sp_sum (fun j => if ord j = i then hc_ w ord lo hi most j * f i else 0) n := fun i => by
      rw [Nat.mul_comm, ← sp_sum_mul]
      refine sp_sum_cg (fun j _ => ?_)
      by_cases c : ord j = i
      · rw [if_pos c, if_pos c, Nat.mul_comm]
      · rw [if_neg c, if_neg c, Nat.mul_zero]
    rw [sp_sum_cg (fun i _ => e1 i), sp_sum_swap]
    refine sp_sum_cg (fun j hj => ?_)
    rw [sp_sum_single (ho j hj) (fun i _ hne => if_neg (fun q => hne q.symm)), if_pos rfl]
  have hle1 : ∀ i, i < n → sp_sum (fun j => if ord j = i then hc_ w ord lo hi most j else 0) n ≤ 1 := fun i hi' => by
    have hone := hp (fun x => if x = i then 1 else 0)
    rw [sp_sum_single hi' (fun x _ hne => if_neg hne), if_pos rfl] at hone
    rw [← hone]
    refine sp_sum_le (fun j _ => ?_)
    by_cases c : ord j = i
    · rw [if_pos c, if_pos c]; exact hc_le j
    · rw [if_neg c, if_neg c]; exact Nat.le_refl _
  have hout : ∀ i, ¬ (lo ≤ i ∧ i < hi) → sp_sum (fun j => if ord j = i then hc_ w ord lo hi most j else 0) n = 0 := fun i hi' => by
    refine sp_sum_zero (fun j _ => ?_)
    by_cases c : ord j = i
    · rw [if_pos c]; exact hc_in (by rw [c]; exact hi')
    · rw [if_neg c]
  have hrng : ∀ f : Nat → Nat, sp_sum (fun i => (sp_sum (fun j => if ord j = lo + i then hc_ w ord lo hi most j else 0) n) * f (lo + i)) (hi - lo) = sp_sum (fun j => hc_ w ord lo hi most j * f (ord j)) n := by
    intro f
    rw [← hχ f, ← sp_sum_rng (f := fun i => (sp_sum (fun j => if ord j = i then hc_ w ord lo hi most j else 0) n) * f i) h1 h2]
    refine sp_sum_cg (fun i _ => ?_)
    by_cases c : lo ≤ i ∧ i < hi
    · rw [if_pos c]
    · rw [if_neg c, hout i c, Nat.zero_mul]
  -- the bound
  have hub : ∃ θ, sp_sum (fun i => w (lo + i) - θ) (hi - lo) + θ * most ≤ (hv_ w ord lo hi most n).1 := by
    have hre : ∀ θ, sp_sum (fun i => w (lo + i) - θ) (hi - lo) = sp_sum (fun j => if lo ≤ ord j ∧ ord j < hi then w (ord j) - θ else 0) n := fun θ => by
      rw [← sp_sum_rng (f := fun i => w i - θ) h1 h2, ← hp (fun i => if lo ≤ i ∧ i < hi then w i - θ else 0)]
    rcases hv_part (lo := lo) (hi := hi) (most := most) hs hB n (Nat.le_refl _) with ⟨p1, p2⟩ | ⟨p1, θ, p2, -⟩
    · refine ⟨0, ?_⟩
      rw [hre, s1, Nat.zero_mul, Nat.add_zero]
      refine sp_sum_le (fun j hj => ?_)
      rw [p2 j hj]
      by_cases c : lo ≤ ord j ∧ ord j < hi
      · rw [if_pos c, if_pos c]; omega
      · rw [if_neg c, if_neg c]; omega
    · refine ⟨θ, ?_⟩
      rw [hre, s1, show θ * most = θ * sp_sum (fun j => hc_ w ord lo hi most j) n by rw [← s2, p1], ← sp_sum_mul, ← sp_sum_add]
      refine sp_sum_le (fun j hj => ?_)
      rcases p2 j hj with ⟨q1, q2, q3⟩ | ⟨q1, q2⟩
      · rw [q1, if_pos q2]; omega
      · rw [q1]
        by_cases c : lo ≤ ord j ∧ ord j < hi
        · rw [if_pos c]; have := q2 c; omega
        · rw [if_neg c]; omega
  obtain ⟨θ, hθ⟩ := hub
  refine tp_eq (χ := fun i => if i < n then sp_sum (fun j => if ord j = i then hc_ w ord lo hi most j else 0) n else 0) (θ := θ) (fun i => ?_) ?_ ?_ hθ
  · show (if i < n then _ else 0) ≤ 1
    by_cases c : i < n
    · rw [if_pos c]; exact hle1 i c
    · rw [if_neg c]; omega
  · have e := hrng (fun _ => 1)
    rw [sp_sum_cg (f := fun j => hc_ w ord lo hi most j * 1) (g := fun j => hc_ w ord lo hi most j) (fun j _ => Nat.mul_one _), ← s2] at e
    have e2 : sp_sum (fun i => (fun i => if i < n then sp_sum (fun j => if ord j = i then hc_ w ord lo hi most j else 0) n else 0) (lo + i)) (hi - lo) = sp_sum (fun i => (sp_sum (fun j => if ord j = lo + i then hc_ w ord lo hi most j else 0) n) * 1) (hi - lo) := sp_sum_cg (fun i hi' => by
      show (if lo + i < n then _ else 0) = _
      rw [if_pos (by omega), Nat.mul_one])
    rw [e2, e]
    exact s3
  · rw [s1, ← hrng w]
    refine sp_sum_cg (fun i hi' => ?_)
    show _ = (if lo + i < n then _ else 0) * _
    rw [if_pos (by omega)]
-- ===== the class sorts =====
/-- the first i places are sorted -/
def So (w ord : Nat → Nat) (i : Nat) (f : Nat → Int32) : Prop := (∀ j, j < i → f j = nI (ord j) ∧ ord j < i) ∧ (∀ j j', j ≤ j' → j' < i → w (ord j') ≤ w (ord j)) ∧ Pm ord i
/-- a gap at p, all behind it moved by one -/
def Sg (w ord : Nat → Nat) (i p : Nat) (f : Nat → Int32) : Prop := (∀ j, j < p → f j = nI (ord j)) ∧ (∀ j, p ≤ j → j < i → f (j + 1) = nI (ord j)) ∧ ∀ j, p ≤ j → j < i → w (ord j) < w i
theorem So.ins {w ord : Nat → Nat} {i p : Nat} {f0 f : Nat → Int32} (h : So w ord i f0) (hg : Sg w ord i p f) (hp : p ≤ i) (hx : p = 0 ∨ w i ≤ w (ord (p - 1))) : So w (fun j => if j < p then ord j else if j = p then i else ord (j - 1)) (i + 1) (upd f p (nI i)) := by
  obtain ⟨h1, h2, h3⟩ := h
  obtain ⟨g1, g2, g3⟩ := hg
  have A : ∀ j, j < p → (fun j => if j < p then ord j else if j = p then i else ord (j - 1)) j = ord j := fun j hj => if_pos hj
  have Bq : (fun j => if j < p then ord j else if j = p then i else ord (j - 1)) p = i := by
    show (if p < p then _ else _) = _
    rw [if_neg (Nat.lt_irrefl _), if_pos rfl]
  have Cq : ∀ j, p ≤ j → (fun j => if j < p then ord j else if j = p then i else ord (j - 1)) (j + 1) = ord j := fun j hj => by
    show (if j + 1 < p then _ else _) = _
    rw [if_neg (by omega), if_neg (by omega), Nat.add_sub_cancel]
  generalize (fun j => if j < p then ord j else if j = p then i else ord (j - 1)) = od at *
  refine ⟨fun j hj => ?_, fun j j' hj hj' => ?_, fun g => ?_⟩
  · by_cases c : j < p
    · rw [A j c, pk_un (by omega), g1 j c]
      exact ⟨rfl, by have := (h1 j (by omega)).2; omega⟩
    · by_cases e : j = p
      · rw [e, Bq, pk_us]; exact ⟨rfl, by omega⟩
      · obtain ⟨k, rfl⟩ : ∃ k, j = k + 1 := ⟨j - 1, by omega⟩
        rw [Cq k (by omega), pk_un (by omega), g2 k (by omega) (by omega)]
        exact ⟨rfl, by have := (h1 k (by omega)).2; omega⟩
  · by_cases c' : j' < p
    · rw [A j' c', A j (by omega)]; exact h2 j j' hj (by omega)
    · by_cases e' : j' = p
      · rw [e', Bq]
        by_cases c : j < p
        · rw [A j c]
          rcases hx with q | q
          · omega
          · exact Nat.le_trans q (h2 j (p - 1) (by omega) (by omega))
        · have : j = p := by omega
          rw [this, Bq]; exact Nat.le_refl _
      · obtain ⟨k', rfl⟩ : ∃ k, j' = k + 1 := ⟨j' - 1, by omega⟩
        rw [Cq k' (by omega)]
        by_cases c : j < p
        · rw [A j c]; exact h2 j k' (by omega) (by omega)
        · by_cases e : j = p
          · rw [e, Bq]; have := g3 k' (by omega) (by omega); omega
          · obtain ⟨k, rfl⟩ : ∃ k, j = k + 1 := ⟨j - 1, by omega⟩
            rw [Cq k (by omega)]; exact h2 k k' (by omega) (by omega)
  · obtain ⟨d, rfl⟩ : ∃ d, i = p + d := ⟨i - p, by omega⟩
    have e1 : sp_sum (fun j => g (od j)) (p + d + 1) = sp_sum (fun j => g (od j)) (p + (d + 1)) := rfl
    rw [e1, sp_sum_app, sp_sum_front, sp_sum_cg (f := fun j => g (od j)) (g := fun j => g (ord j)) (fun j hj => by rw [A j hj]), sp_sum_cg (f := fun i => g (od (p + (i + 1)))) (g := fun i => g (ord (p + i))) (fun j _ => by rw [show p + (j + 1) = p + j + 1 from rfl, Cq (p + j) (by omega)])]
    show _ + (g (od p) + _) = sp_sum g (p + d) + g (p + d)
    rw [Bq, ← h3 g, sp_sum_app]
    omega
theorem rt_sort {o0 n : Nat} {μ : ro_Mem} {w : Nat → Nat} (hl1 : ro_len (o0 + 1) = n) (hl2 : ro_len (o0 + 2) = n) (hn : n ≤ 32) (hw : ∀ i, i < n → μ (o0 + 1) i = nI (w i) ∧ w i < 2 ^ 20) : ∃ m', fn_X10_sort o0 μ = some m' ∧ (∀ o, ¬ o = o0 + 2 → m' o = μ o) ∧ ∃ ord, So w ord n (m' (o0 + 2)) := by
  have hin : ∀ i, i < n → ∀ (ord : Nat → Nat) (f0 : Nat → Int32), So w ord i f0 → ∀ p fuel M, p ≤ i → p < fuel → (∀ o, ¬ o = o0 + 2 → M o = μ o) → Sg w ord i p (M (o0 + 2)) → ∃ p' M', ro_loop (fun rec (s : Int32 × ro_Mem) => fb_X10_sort_13 o0 (nI i) rec s.1 s.2) fuel (nI p, M) = some (nI p', M') ∧ p' ≤ i ∧ (∀ o, ¬ o = o0 + 2 → M' o = μ o) ∧ Sg w ord i p' (M' (o0 + 2)) ∧ (p' = 0 ∨ w i ≤ w (ord (p' - 1))) := by
    intro i hi ord f0 hS p
    induction p with
    | zero =>
      intro fuel M _ hf hM hG
      cases fuel with
      | zero => omega
      | succ f =>
        refine ⟨0, M, ?_, by omega, hM, hG, Or.inl rfl⟩
        show fb_X10_sort_13 o0 (nI i) _ (nI 0) M = _
        unfold fb_X10_sort_13
        rw [if_pos (show nI 0 ≤ 0 from Int32.le_refl _)]
    | succ p ih =>
      intro fuel M hp hf hM hG
      cases fuel with
      | zero => omega
      | succ f =>
        show ∃ p' M', fb_X10_sort_13 o0 (nI i) (ro_loop _ f) (nI (p + 1)) M = _ ∧ _
        have hop := (hS.1 p (by omega)).2
        have e1 : M (o0 + 2) p = nI (ord p) := hG.1 p (by omega)
        have e2 : M (o0 + 1) i = nI (w i) := by rw [hM _ (by omega)]; exact (hw i hi).1
        have e3 : M (o0 + 1) (ord p) = nI (w (ord p)) := by rw [hM _ (by omega)]; exact (hw _ (by omega)).1
        have b1 := (hw i hi).2
        have b2 := (hw (ord p) (by omega)).2
        have hih := ih f
        generalize ro_loop (fun rec (s : Int32 × ro_Mem) => fb_X10_sort_13 o0 (nI i) rec s.1 s.2) f = R at hih ⊢
        unfold fb_X10_sort_13
        rw [if_neg (nI_nle (by omega) (by omega)), nI_pred, hl2, hl1, if_pos (rt_in (show p < n by omega) (by omega)), nI_clamp (show p < 2 ^ 31 by omega), e1, if_pos (rt_in (show ord p < n by omega) (by omega)), if_pos (rt_in hi (by omega)), nI_clamp (show i < 2 ^ 31 by omega), nI_clamp (show ord p < 2 ^ 31 by omega), e2, e3]
        by_cases c : w i ≤ w (ord p)
        · rw [if_pos (nI_le c (by omega))]
          exact ⟨p + 1, M, rfl, hp, hM, hG, Or.inr c⟩
        · rw [if_neg (nI_ge (by omega) (by omega)), if_pos (rt_in (show p + 1 < n by omega) (by omega)), nI_clamp (show p + 1 < 2 ^ 31 by omega), ro_lt, pk_m1]
          refine hih _ (by omega) (by omega) (fun o ho => by rw [ro_set_ne _ _ _ ho]; exact hM o ho) ?_
          rw [ro_set_same]
          refine ⟨fun j hj => by rw [pk_un (by omega)]; exact hG.1 j (by omega), fun j hj hj2 => ?_, fun j hj hj2 => ?_⟩
          · by_cases e : j = p
            · rw [e, pk_us]
            · rw [pk_un (by omega)]; exact hG.2.1 j (by omega) hj2
          · by_cases e : j = p
            · rw [e]; omega
            · exact hG.2.2 j (by omega) hj2
  have hout : ∃ m', ((∀ o, ¬ o = o0 + 2 → m' o = μ o) ∧ ∃ ord, So w ord n (m' (o0 + 2))) ∧ fl_X10_sort_2 o0 (0, μ) = some m' := by
    unfold fl_X10_sort_2
    refine rt_cnt (fun i (m' : ro_Mem) => (nI i, m')) (fun m' => m') n (fun i m' => (∀ o, ¬ o = o0 + 2 → m' o = μ o) ∧ ∃ ord, So w ord i (m' (o0 + 2))) ?_ ?_ ro_FU (Nat.lt_of_le_of_lt hn (by decide)) μ ⟨fun _ _ => rfl, fun j => j, fun j h => absurd h (by omega), fun j j' _ h => absurd h (by omega), fun g => rfl⟩
    · intro i hi rec M hP
      obtain ⟨hM, ord, hS⟩ := hP
      show ∃ s', _ ∧ fb_X10_sort_2 o0 rec (nI i) M = rec (nI (i + 1), s')
      obtain ⟨p', M', e, a1, a2, a3, a4⟩ := hin i hi ord _ hS i ro_FU M (Nat.le_refl _) (Nat.lt_of_lt_of_le hi (Nat.le_trans hn (by decide))) hM ⟨fun j hj => (hS.1 j hj).1, fun j h1 h2 => absurd h2 (by omega), fun j h1 h2 => absurd h2 (by omega)⟩
      have e : fl_X10_sort_13 o0 (nI i) (nI i, M) = some (nI p', M') := e
      unfold fb_X10_sort_2 fj_X10_sort_59
      rw [hl2, if_neg (nI_ge hi (by omega)), e, Option.bind_some, if_pos (rt_in (show p' < n by omega) (by omega)), ro_lt, nI_1]
      show ∃ s', _ ∧ rec (nI (i + 1), ro_set M' (o0 + 2) (nI p').toNatClampNeg (nI i)) = _
      rw [nI_clamp (show p' < 2 ^ 31 by omega)]
      refine ⟨ro_set M' (o0 + 2) p' (nI i), ⟨fun o ho => by rw [ro_set_ne _ _ _ ho]; exact a2 o ho, (fun j => if j < p' then ord j else if j = p' then i else ord (j - 1)), ?_⟩, rfl⟩
      rw [ro_set_same]
      exact hS.ins a3 a1 a4
    · intro rec M _
      show fb_X10_sort_2 o0 rec (nI n) M = _
      unfold fb_X10_sort_2
      rw [hl2, if_pos (Int32.le_refl _)]
  obtain ⟨m', ⟨h1, h2⟩, e⟩ := hout
  refine ⟨m', ?_, h1, h2⟩
  unfold fn_X10_sort
  rw [e]
  rfl
theorem rt_heaviest {o0 n : Nat} {m : ro_Mem} {w ord : Nat → Nat} (hl1 : ro_len (o0 + 1) = n) (hl2 : ro_len (o0 + 2) = n) (hn : n ≤ 32) (hw : ∀ i, i < n → m (o0 + 1) i = nI (w i) ∧ w i < 2 ^ 20) (hS : So w ord n (m (o0 + 2))) {lo hi most : Nat} (h1 : lo ≤ hi) (h2 : hi ≤ n) (hm : most < 2 ^ 20) : fn_X10_heaviest o0 (nI lo) (nI hi) (nI most) m = some (nI (tp_ w (hi - lo) lo most)) := by
  have key : ∀ k j fuel, j + k = n → k < fuel → ro_loop (fun rec (s : Int32 × Int32 × Int32) => fb_X10_heaviest_9 o0 (nI lo) (nI hi) (nI most) m rec s.1 s.2.1 s.2.2) fuel (nI (hv_ w ord lo hi most j).1, nI (hv_ w ord lo hi most j).2, nI j) = some (nI (hv_ w ord lo hi most n).1) := by
    intro k
    induction k with
    | zero =>
      intro j fuel hj hf
      cases fuel with
      | zero => omega
      | succ f =>
        have : j = n := by omega
        subst this
        show fb_X10_heaviest_9 o0 (nI lo) (nI hi) (nI most) m _ _ _ (nI j) = _
        unfold fb_X10_heaviest_9
        rw [hl2, if_pos (Int32.le_refl _)]
    | succ k ih =>
      intro j fuel hj hf
      cases fuel with
      | zero => omega
      | succ f =>
        show fb_X10_heaviest_9 o0 (nI lo) (nI hi) (nI most) m (ro_loop _ f) (nI (hv_ w ord lo hi most j).1) (nI (hv_ w ord lo hi most j).2) (nI j) = _
        obtain ⟨-, -, s3⟩ := hv_sum (w := w) (ord := ord) (lo := lo) (hi := hi) (most := most) j
        have e := hv_s (w := w) (ord := ord) (lo := lo) (hi := hi) (most := most) j
        obtain ⟨o1, o2⟩ := hS.1 j (by omega)
        have e3 : m (o0 + 1) (ord j) = nI (w (ord j)) := (hw _ o2).1
        have hrec := ih (j + 1) f (by omega) (by omega)
        generalize ro_loop (fun rec (s : Int32 × Int32 × Int32) => fb_X10_heaviest_9 o0 (nI lo) (nI hi) (nI most) m rec s.1 s.2.1 s.2.2) f = R at hrec ⊢
        unfold fb_X10_heaviest_9
        rw [hl2, hl1, if_neg (nI_ge (show j < n by omega) (by omega))]
        by_cases c : most ≤ (hv_ w ord lo hi most j).2
        · have := hv_stop c (k + 1)
          rw [hj] at this
          rw [if_pos (nI_le c (by omega)), this]
        · rw [if_neg (nI_ge (by omega) (by omega)), if_pos (rt_in (show j < n by omega) (by omega)), nI_clamp (show j < 2 ^ 31 by omega), o1]
          rw [if_neg c] at e
          by_cases c1 : ord j < lo
          · rw [if_neg (show ¬ (lo ≤ ord j ∧ ord j < hi) by omega)] at e
            rw [e] at hrec
            rw [if_pos (nI_lt c1 (by omega)), nI_1]
            exact hrec
          · rw [if_neg (nI_nlt (by omega) (by omega))]
            by_cases c2 : ord j < hi
            · rw [if_pos (show lo ≤ ord j ∧ ord j < hi by omega)] at e
              rw [e] at hrec
              rw [if_neg (nI_ge c2 (by omega)), if_pos (rt_in o2 (by omega)), nI_clamp (show ord j < 2 ^ 31 by omega), e3, nI_add, ro_lt, nI_1, nI_1]
              exact hrec
            · rw [if_neg (show ¬ (lo ≤ ord j ∧ ord j < hi) by omega)] at e
              rw [e] at hrec
              rw [if_pos (nI_le (by omega) (by omega)), nI_1]
              exact hrec
  have k0 := key n 0 ro_FU (by omega) (Nat.lt_of_le_of_lt hn (by decide))
  have k0 : fl_X10_heaviest_9 o0 (nI lo) (nI hi) (nI most) m (0, 0, 0) = some (nI (hv_ w ord lo hi most n).1) := k0
  unfold fn_X10_heaviest
  rw [k0, Option.bind_some, hv_top (B := 2 ^ 20) h1 h2 hS.2.2 (fun j hj => (hS.1 j hj).2) hS.2.1 (fun j hj => by have := (hw _ (hS.1 j hj).2).2; omega)]
