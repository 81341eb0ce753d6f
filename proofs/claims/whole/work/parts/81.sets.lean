-- ===== sets of bars, one behind the other =====
theorem bit_cat {k c T j : Nat} (h : T < 2 ^ k) : (2 ^ k * c + T) / 2 ^ j % 2 = (2 ^ k * c) / 2 ^ j % 2 + T / 2 ^ j % 2 := by
  have z : (2 ^ k * c).testBit j = (2 ^ k * c + 0).testBit j := rfl
  rw [bit_tb, bit_tb, bit_tb, z, Nat.testBit_two_pow_mul_add c h, Nat.testBit_two_pow_mul_add c (Nat.two_pow_pos k)]
  by_cases q : j < k
  · rw [if_pos q, if_pos q, Nat.zero_testBit]
    simp
  · rw [if_neg q, if_neg q, Nat.testBit_lt_two_pow (Nat.lt_of_lt_of_le h (Nat.pow_le_pow_right (by decide) (by omega)))]
    simp
theorem gq_cat {w : Nat → Nat} {k c T : Nat} (h : T < 2 ^ k) : gq_ w (2 ^ k * c + T) = gq_ w (2 ^ k * c) + gq_ w T := by
  unfold gq_
  rw [← sp_sum_add]
  refine sp_sum_cg (fun j _ => ?_)
  rw [bit_cat h, Nat.add_mul]
theorem gq_le {w : Nat → Nat} {k T : Nat} (hk : k ≤ 16) (h : T < 2 ^ k) : gq_ w T ≤ sp_sum w k := by
  unfold gq_
  obtain ⟨d, hd⟩ : ∃ d, 16 = k + d := ⟨16 - k, by omega⟩
  rw [hd, sp_sum_app, sp_sum_zero (f := fun i => T / 2 ^ (k + i) % 2 * w (k + i)) (fun i _ => by rw [bit_hi h (by omega), Nat.zero_mul]), Nat.add_zero]
  refine sp_sum_le (fun i _ => ?_)
  have : T / 2 ^ i % 2 = 0 ∨ T / 2 ^ i % 2 = 1 := by omega
  rcases this with q | q
  · rw [q]; omega
  · rw [q]; omega
/-- those that are good, below S: how many, the first, what they have in common -/
def sf_ (p : Nat → Bool) : Nat → Nat × Nat × Nat
  | 0 => (0, 0, 0)
  | S + 1 => if p S = true then ((sf_ p S).1 + 1, (if (sf_ p S).1 = 0 then S else (sf_ p S).2.1), (if (sf_ p S).1 = 0 then S else (sf_ p S).2.2 &&& S)) else sf_ p S
theorem sf_s (p : Nat → Bool) (S : Nat) : sf_ p (S + 1) = if p S = true then ((sf_ p S).1 + 1, (if (sf_ p S).1 = 0 then S else (sf_ p S).2.1), (if (sf_ p S).1 = 0 then S else (sf_ p S).2.2 &&& S)) else sf_ p S := rfl
theorem sf_none {p : Nat → Bool} {b : Nat} : ∀ j, (∀ T, T < j → p (b + T) = false) → sf_ p (b + j) = sf_ p b := by
  intro j
  induction j with
  | zero => intro _; rfl
  | succ j ih =>
    intro h
    rw [show b + (j + 1) = b + j + 1 from rfl, sf_s, h j (by omega), if_neg (by decide), ih (fun T hT => h T (by omega))]
theorem sf_all {p : Nat → Bool} {k c : Nat} : ∀ j, j < 2 ^ k → (∀ T, T < j + 1 → p (2 ^ k * c + T) = true) → sf_ p (2 ^ k * c + (j + 1)) = ((sf_ p (2 ^ k * c)).1 + (j + 1), (if (sf_ p (2 ^ k * c)).1 = 0 then 2 ^ k * c else (sf_ p (2 ^ k * c)).2.1), (if (sf_ p (2 ^ k * c)).1 = 0 then 2 ^ k * c else (sf_ p (2 ^ k * c)).2.2 &&& (2 ^ k * c))) := by
  intro j
  induction j with
  | zero =>
    intro _ h
    have h0 : p (2 ^ k * c) = true := h 0 (by omega)
    rw [show 2 ^ k * c + (0 + 1) = 2 ^ k * c + 1 from rfl, sf_s, h0, if_pos rfl]
  | succ j ih =>
    intro hj h
    have hland : (2 ^ k * c) &&& (2 ^ k * c + (j + 1)) = 2 ^ k * c := by
      have h1 := land_cat (k := k) (a := 0) (b := c) (c := j + 1) (d := c) (Nat.two_pow_pos k) hj
      rw [Nat.add_zero, Nat.and_self, Nat.zero_and, Nat.add_zero] at h1
      exact h1
    rw [show 2 ^ k * c + (j + 1 + 1) = 2 ^ k * c + (j + 1) + 1 from rfl, sf_s, h (j + 1) (by omega), if_pos rfl, ih (by omega) (fun T hT => h T (by omega))]
    show ((sf_ p (2 ^ k * c)).1 + (j + 1) + 1, (if (sf_ p (2 ^ k * c)).1 + (j + 1) = 0 then _ else _), (if (sf_ p (2 ^ k * c)).1 + (j + 1) = 0 then _ else _)) = _
    have n0 : ¬ (sf_ p (2 ^ k * c)).1 + (j + 1) = 0 := by omega
    simp only [if_neg n0]
    by_cases c0 : (sf_ p (2 ^ k * c)).1 = 0
    · simp only [if_pos c0]
      rw [hland]
      rfl
    · simp only [if_neg c0]
      rw [Nat.and_assoc, hland]
      rfl
theorem sf_le (p : Nat → Bool) : ∀ S, (sf_ p S).1 ≤ S ∧ (sf_ p S).2.1 ≤ S ∧ (sf_ p S).2.2 ≤ S := by
  intro S
  induction S with
  | zero => exact ⟨Nat.le_refl _, Nat.le_refl _, Nat.le_refl _⟩
  | succ S ih =>
    rw [sf_s]
    obtain ⟨h1, h2, h3⟩ := ih
    by_cases c : p S = true
    · rw [if_pos c]
      by_cases c0 : (sf_ p S).1 = 0
      · rw [if_pos c0, if_pos c0]
        exact ⟨by show (sf_ p S).1 + 1 ≤ S + 1; omega, by show S ≤ S + 1; omega, by show S ≤ S + 1; omega⟩
      · rw [if_neg c0, if_neg c0]
        have := Nat.and_le_left (n := (sf_ p S).2.2) (m := S)
        exact ⟨by show (sf_ p S).1 + 1 ≤ S + 1; omega, by show (sf_ p S).2.1 ≤ S + 1; omega, by show (sf_ p S).2.2 &&& S ≤ S + 1; omega⟩
    · rw [if_neg c]; omega
-- ===== the class's search =====
/-- told seats: n of them; F what falls by a bar, fr and to: from so much to so much, sm: what falls by now -/
def SQ (n : Nat) (F : Nat → Nat → Nat) (fr to sm : Nat → Nat) (μ : ro_Mem) : Prop := μ 199 6 = nI n ∧ n ≤ 20 ∧ ∀ t, t < n → μ 200 t = nI (fr t) ∧ μ 201 t = nI (to t) ∧ μ 202 t = nI (sm t) ∧ fr t < 2 ^ 20 ∧ to t < 2 ^ 20 ∧ (∀ b, b ≤ 12 → μ 203 (13 * t + b) = nI (sp_sum (F t) b)) ∧ sp_sum (F t) 12 < 2 ^ 20
def gd_ (n : Nat) (F : Nat → Nat → Nat) (fr to : Nat → Nat) (S : Nat) : Bool := decide (∀ t, t < n → fr t ≤ gq_ (F t) S ∧ gq_ (F t) S ≤ to t)
theorem rt_e13 (a s : Nat) : nI a * 13 + nI s = nI (13 * a + s) := by
  show nI a * nI 13 + nI s = _
  rw [pk_mul, nI_add, Nat.mul_comm]
theorem SQ.put {n : Nat} {F : Nat → Nat → Nat} {fr to sm sm' : Nat → Nat} {μ μ' : ro_Mem} (h : SQ n F fr to sm μ) (h1 : ∀ o, ¬ o = 199 → ¬ o = 202 → μ' o = μ o) (h2 : μ' 199 6 = μ 199 6) (h3 : ∀ t, t < n → μ' 202 t = nI (sm' t)) : SQ n F fr to sm' μ' := by
  obtain ⟨a1, a2, a3⟩ := h
  refine ⟨by rw [h2, a1], a2, fun t ht => ?_⟩
  obtain ⟨b1, b2, b3, b4, b5, b6, b7⟩ := a3 t ht
  exact ⟨by rw [h1 200 (by decide) (by decide)]; exact b1, by rw [h1 201 (by decide) (by decide)]; exact b2, h3 t ht, b4, b5, fun b hb => by rw [h1 203 (by decide) (by decide)]; exact b6 b hb, b7⟩
theorem sp_sum_12 {f : Nat → Nat} {b : Nat} (hb : b ≤ 12) (h : sp_sum f 12 < 2 ^ 20) : sp_sum f b < 2 ^ 20 := Nat.lt_of_le_of_lt (sp_sum_mono hb) h
theorem rt_sReach {n : Nat} {F : Nat → Nat → Nat} {fr to sm : Nat → Nat} {μ : ro_Mem} (h : SQ n F fr to sm μ) {below : Nat} (hb : below ≤ 12) (hs : ∀ t, t < n → sm t < 2 ^ 20) : ∃ b : Bool, fn_X7_isInReach (nI below) μ = some (if b = true then 1 else 0) ∧ (b = true ↔ ∀ t, t < n → sm t ≤ to t ∧ fr t ≤ sm t + sp_sum (F t) below) := by
  obtain ⟨a1, a2, a3⟩ := h
  have key : fl_X7_isInReach_2 (nI below) μ 0 = some (match sp_first (fun t => decide (¬ (sm t ≤ to t ∧ fr t ≤ sm t + sp_sum (F t) below))) n 0 with
    | none => Sum.inr ()
    | some i => Sum.inl ()) := by
    unfold fl_X7_isInReach_2
    refine rt_find (fun t => decide (¬ (sm t ≤ to t ∧ fr t ≤ sm t + sp_sum (F t) below))) n (fun i => (Sum.inl () : Unit ⊕ Unit)) (Sum.inr ()) ?_ ?_ ro_FU (Nat.lt_of_le_of_lt a2 (by decide))
    · intro t ht rec
      show fb_X7_isInReach_2 (nI below) μ rec (nI t) = _
      obtain ⟨b1, b2, b3, b4, b5, b6, b7⟩ := a3 t ht
      have b8 := hs t ht
      have b9 := sp_sum_12 hb b7
      unfold fb_X7_isInReach_2
      rw [a1, if_neg (nI_ge ht (by omega)), if_pos (rt_in (n := 20) (by omega) (by decide)), nI_clamp (show t < 2 ^ 31 by omega), b1, b2, b3, rt_e13, if_pos (rt_in (n := 260) (by omega) (by decide)), nI_clamp (show 13 * t + below < 2 ^ 31 by omega), b6 below hb, nI_add, nI_1]
      by_cases c1 : sm t ≤ to t
      · rw [if_neg (nI_nlt c1 (by omega))]
        by_cases c2 : fr t ≤ sm t + sp_sum (F t) below
        · rw [if_pos (nI_le c2 (by omega)), if_neg (show ¬ decide (¬ (sm t ≤ to t ∧ fr t ≤ sm t + sp_sum (F t) below)) = true by simp [c1, c2])]
        · rw [if_neg (nI_ge (by omega) (by omega)), if_pos (decide_eq_true (show ¬ (sm t ≤ to t ∧ fr t ≤ sm t + sp_sum (F t) below) from fun q => c2 q.2))]
      · rw [if_pos (nI_lt (by omega) (by omega)), if_pos (decide_eq_true (show ¬ (sm t ≤ to t ∧ fr t ≤ sm t + sp_sum (F t) below) from fun q => c1 q.1))]
    · intro rec
      show fb_X7_isInReach_2 (nI below) μ rec (nI n) = _
      unfold fb_X7_isInReach_2
      rw [a1, if_pos (Int32.le_refl _)]
  unfold fn_X7_isInReach
  rw [key, Option.bind_some]
  cases e : sp_first (fun t => decide (¬ (sm t ≤ to t ∧ fr t ≤ sm t + sp_sum (F t) below))) n 0 with
  | none =>
    refine ⟨true, rfl, fun _ t ht => ?_, fun _ => rfl⟩
    have := sp_first_none e t (by omega) (by omega)
    exact Decidable.byContradiction (fun q => of_decide_eq_false this q)
  | some i =>
    obtain ⟨-, h2, h3, -⟩ := sp_first_some e
    refine ⟨false, rfl, fun q => absurd q (by decide), fun q => ?_⟩
    exact absurd (q i (by omega)) (of_decide_eq_true h3)
theorem rt_sFree {n : Nat} {F : Nat → Nat → Nat} {fr to sm : Nat → Nat} {μ : ro_Mem} (h : SQ n F fr to sm μ) {below : Nat} (hb : below ≤ 12) (hs : ∀ t, t < n → sm t < 2 ^ 20) : ∃ b : Bool, fn_X7_isFree (nI below) μ = some (if b = true then 1 else 0) ∧ (b = true ↔ ∀ t, t < n → fr t ≤ sm t ∧ sm t + sp_sum (F t) below ≤ to t) := by
  obtain ⟨a1, a2, a3⟩ := h
  have key : fl_X7_isFree_2 (nI below) μ 0 = some (match sp_first (fun t => decide (¬ (fr t ≤ sm t ∧ sm t + sp_sum (F t) below ≤ to t))) n 0 with
    | none => Sum.inr ()
    | some i => Sum.inl ()) := by
    unfold fl_X7_isFree_2
    refine rt_find (fun t => decide (¬ (fr t ≤ sm t ∧ sm t + sp_sum (F t) below ≤ to t))) n (fun i => (Sum.inl () : Unit ⊕ Unit)) (Sum.inr ()) ?_ ?_ ro_FU (Nat.lt_of_le_of_lt a2 (by decide))
    · intro t ht rec
      show fb_X7_isFree_2 (nI below) μ rec (nI t) = _
      obtain ⟨b1, b2, b3, b4, b5, b6, b7⟩ := a3 t ht
      have b8 := hs t ht
      have b9 := sp_sum_12 hb b7
      unfold fb_X7_isFree_2
      rw [a1, if_neg (nI_ge ht (by omega)), if_pos (rt_in (n := 20) (by omega) (by decide)), nI_clamp (show t < 2 ^ 31 by omega), b1, b2, b3, rt_e13, if_pos (rt_in (n := 260) (by omega) (by decide)), nI_clamp (show 13 * t + below < 2 ^ 31 by omega), b6 below hb, nI_add, nI_1]
      by_cases c1 : fr t ≤ sm t
      · rw [if_neg (nI_nlt c1 (by omega))]
        by_cases c2 : sm t + sp_sum (F t) below ≤ to t
        · rw [if_pos (nI_le c2 (by omega)), if_neg (show ¬ decide (¬ (fr t ≤ sm t ∧ sm t + sp_sum (F t) below ≤ to t)) = true by simp [c1, c2])]
        · rw [if_neg (nI_ge (by omega) (by omega)), if_pos (decide_eq_true (show ¬ (fr t ≤ sm t ∧ sm t + sp_sum (F t) below ≤ to t) from fun q => c2 q.2))]
      · rw [if_pos (nI_lt (by omega) (by omega)), if_pos (decide_eq_true (show ¬ (fr t ≤ sm t ∧ sm t + sp_sum (F t) below ≤ to t) from fun q => c1 q.1))]
    · intro rec
      show fb_X7_isFree_2 (nI below) μ rec (nI n) = _
      unfold fb_X7_isFree_2
      rw [a1, if_pos (Int32.le_refl _)]
  unfold fn_X7_isFree
  rw [key, Option.bind_some]
  cases e : sp_first (fun t => decide (¬ (fr t ≤ sm t ∧ sm t + sp_sum (F t) below ≤ to t))) n 0 with
  | none =>
    refine ⟨true, rfl, fun _ t ht => ?_, fun _ => rfl⟩
    have := sp_first_none e t (by omega) (by omega)
    exact Decidable.byContradiction (fun q => of_decide_eq_false this q)
  | some i =>
    obtain ⟨-, h2, h3, -⟩ := sp_first_some e
    refine ⟨false, rfl, fun q => absurd q (by decide), fun q => ?_⟩
    exact absurd (q i (by omega)) (of_decide_eq_true h3)
theorem rt_sing {n : Nat} {F : Nat → Nat → Nat} {fr to sm sm' : Nat → Nat} {μ : ro_Mem} (h : SQ n F fr to sm μ) {b : Nat} (hb : b < 12) {sg : Int32} (hsg : ∀ t, t < n → nI (sm t) + sg * nI (F t b) = nI (sm' t)) : ∃ μ', fn_X7_sing (nI b) sg μ = some μ' ∧ (∀ o, ¬ o = 202 → μ' o = μ o) ∧ SQ n F fr to sm' μ' := by
  have h' := h
  obtain ⟨a1, a2, a3⟩ := h
  have l : fl_X7_sing_2 (nI b) sg (0, μ) = some (ro_arr μ 202 (rt_mix (fun t => nI (sm' t)) (μ 202) n)) := by
    unfold fl_X7_sing_2
    refine rt_fillS (fun t => nI (sm' t)) (by omega) (fun t ht rec f hf => ?_) (fun rec f => ?_)
    · show fb_X7_sing_2 (nI b) sg rec (nI t) (ro_arr μ 202 f) = _
      obtain ⟨b1, b2, b3, b4, b5, b6, b7⟩ := a3 t ht
      have e1 : ro_arr μ 202 f 203 (13 * t + b + 1) = nI (sp_sum (F t) (b + 1)) := by rw [ro_arr_ne _ _ (by decide)]; exact b6 (b + 1) (by omega)
      have e0 : ro_arr μ 202 f 203 (13 * t + b) = nI (sp_sum (F t) b) := by rw [ro_arr_ne _ _ (by decide)]; exact b6 b (by omega)
      have e2 : sp_sum (F t) (b + 1) - sp_sum (F t) b = F t b := by show sp_sum (F t) b + F t b - sp_sum (F t) b = _; omega
      unfold fb_X7_sing_2
      rw [ro_arr_ne _ _ (show 199 ≠ 202 by decide), a1, if_neg (nI_ge ht (by omega)), rt_e13, ro_lt, if_pos (rt_in (n := 20) (by omega) (by decide)), nI_1, if_pos (rt_in (n := 260) (by omega) (by decide)), if_pos (rt_in (n := 260) (by omega) (by decide)), nI_clamp (show t < 2 ^ 31 by omega), nI_clamp (show 13 * t + b + 1 < 2 ^ 31 by omega), nI_clamp (show 13 * t + b < 2 ^ 31 by omega), e1, e0, pk_sub (by show sp_sum (F t) b ≤ sp_sum (F t) b + F t b; omega), e2, ro_arr_same, hf t (Nat.le_refl _), b3, hsg t ht, ro_arr_set, ro_lt, nI_1]
    · show fb_X7_sing_2 (nI b) sg rec (nI n) (ro_arr μ 202 f) = _
      unfold fb_X7_sing_2
      rw [ro_arr_ne _ _ (show 199 ≠ 202 by decide), a1, if_pos (Int32.le_refl _)]
  refine ⟨ro_arr μ 202 (rt_mix (fun t => nI (sm' t)) (μ 202) n), ?_, fun o ho => ro_arr_ne _ _ ho, h'.put (fun o _ h2 => ro_arr_ne _ _ h2) (by rw [ro_arr_ne _ _ (by decide)]) (fun t ht => by rw [ro_arr_same, rt_mix_lt ht])⟩
  unfold fn_X7_sing
  rw [l, Option.bind_some]
def Sst (p : Nat → Bool) (S : Nat) (μ : ro_Mem) : Prop := μ 199 0 = nI (sf_ p S).1 ∧ μ 199 1 = nI (sf_ p S).2.1 ∧ μ 199 2 = nI (sf_ p S).2.2
theorem rt_sFound {F : Int32 → Int32 → ro_Mem → Option ro_Mem} {p : Nat → Bool} {μ : ro_Mem} {k c : Nat} (hk : k ≤ 12) (hc : 2 ^ k * c + 2 ^ k ≤ 4096) (hS : Sst p (2 ^ k * c) μ) (hall : ∀ T, T < 2 ^ k → p (2 ^ k * c + T) = true) : ∃ μ', fj_X7_search_21 F (nI k) (nI (2 ^ k * c)) μ = some μ' ∧ (∀ o, ¬ o = 199 → μ' o = μ o) ∧ (∀ j, 3 ≤ j → μ' 199 j = μ 199 j) ∧ Sst p (2 ^ k * c + 2 ^ k) μ' := by
  obtain ⟨s0, s1, s2⟩ := hS
  obtain ⟨l1, l2, l3⟩ := sf_le p (2 ^ k * c)
  have hp := Nat.two_pow_pos k
  have hsf := sf_all (p := p) (k := k) (c := c) (2 ^ k - 1) (by omega) (fun T hT => hall T (by omega))
  rw [show 2 ^ k - 1 + 1 = 2 ^ k by omega] at hsf
  unfold fj_X7_search_21 fj_X7_search_37 fj_X7_search_58
  rw [s0, s1, rt_shl1 (by omega)]
  by_cases c0 : (sf_ p (2 ^ k * c)).1 = 0
  · have e0 : nI (sf_ p (2 ^ k * c)).1 = 0 := by rw [c0]; rfl
    rw [if_pos c0, if_pos c0, c0, Nat.zero_add] at hsf
    rw [if_pos e0, ro_lt]
    have q0 : ro_set μ 199 1 (nI (2 ^ k * c)) 199 0 = 0 := by rw [ro_set_same, pk_un (by decide), s0]; exact e0
    rw [if_pos q0, ro_lt, ro_lt]
    refine ⟨_, rfl, fun o ho => by rw [ro_set_ne _ _ _ ho, ro_set_ne _ _ _ ho, ro_set_ne _ _ _ ho], fun j hj => by rw [ro_set_same, pk_un (by omega), ro_set_same, pk_un (by omega), ro_set_same, pk_un (by omega)], ?_, ?_, ?_⟩
    · rw [hsf, ro_set_same, pk_us, ro_set_same, pk_un (by decide), q0]
      exact Int32.zero_add _
    · rw [hsf, ro_set_same, pk_un (by decide), ro_set_same, pk_un (by decide), ro_set_same, pk_us]
    · rw [hsf, ro_set_same, pk_un (by decide), ro_set_same, pk_us]
  · have e0 : ¬ nI (sf_ p (2 ^ k * c)).1 = 0 := nI_ne0 (by omega) (by omega)
    rw [if_neg c0, if_neg c0] at hsf
    rw [if_neg e0, ro_lt]
    have q0 : ro_set μ 199 1 (nI (sf_ p (2 ^ k * c)).2.1) 199 0 = nI (sf_ p (2 ^ k * c)).1 := by rw [ro_set_same, pk_un (by decide), s0]
    have q2 : ro_set μ 199 1 (nI (sf_ p (2 ^ k * c)).2.1) 199 2 = nI (sf_ p (2 ^ k * c)).2.2 := by rw [ro_set_same, pk_un (by decide), s2]
    rw [q0, if_neg e0, q2, fa_and, ro_lt, ro_lt]
    refine ⟨_, rfl, fun o ho => by rw [ro_set_ne _ _ _ ho, ro_set_ne _ _ _ ho, ro_set_ne _ _ _ ho], fun j hj => by rw [ro_set_same, pk_un (by omega), ro_set_same, pk_un (by omega), ro_set_same, pk_un (by omega)], ?_, ?_, ?_⟩
    · rw [hsf, ro_set_same, pk_us, ro_set_same, pk_un (by decide), q0, nI_add]
    · rw [hsf, ro_set_same, pk_un (by decide), ro_set_same, pk_un (by decide), ro_set_same, pk_us]
    · rw [hsf, ro_set_same, pk_un (by decide), ro_set_same, pk_us]
theorem rt_sSearch {n : Nat} {F : Nat → Nat → Nat} {fr to : Nat → Nat} : ∀ k, k ≤ 12 → ∀ D, k < D → ∀ c sm μ, 2 ^ k * c + 2 ^ k ≤ 4096 → SQ n F fr to sm μ → (∀ t, t < n → sm t = gq_ (F t) (2 ^ k * c) ∧ sm t + sp_sum (F t) k < 2 ^ 20) → Sst (gd_ n F fr to) (2 ^ k * c) μ → ∃ μ', fr_X7_search D (nI k) (nI (2 ^ k * c)) μ = some μ' ∧ (∀ o, ¬ o = 199 → ¬ o = 202 → μ' o = μ o) ∧ (∀ j, 3 ≤ j → μ' 199 j = μ 199 j) ∧ SQ n F fr to sm μ' ∧ Sst (gd_ n F fr to) (2 ^ k * c + 2 ^ k) μ' := by
  have gdT : ∀ {S : Nat}, (∀ t, t < n → fr t ≤ gq_ (F t) S ∧ gq_ (F t) S ≤ to t) → gd_ n F fr to S = true := fun h => decide_eq_true h
  have gdF : ∀ {S : Nat}, ¬ (∀ t, t < n → fr t ≤ gq_ (F t) S ∧ gq_ (F t) S ≤ to t) → gd_ n F fr to S = false := fun h => decide_eq_false h
  -- no set, or all sets, of what is left
  have no : ∀ (k c : Nat) (sm : Nat → Nat), k ≤ 16 → (∀ t, t < n → sm t = gq_ (F t) (2 ^ k * c)) → ¬ (∀ t, t < n → sm t ≤ to t ∧ fr t ≤ sm t + sp_sum (F t) k) → ∀ T, T < 2 ^ k → gd_ n F fr to (2 ^ k * c + T) = false := by
    intro k c sm hk hsm hno T hT
    refine gdF (fun h => hno (fun t ht => ?_))
    have h1 := h t ht
    rw [gq_cat hT, ← hsm t ht] at h1
    have h2 := gq_le (w := F t) hk hT
    omega
  have allg : ∀ (k c : Nat) (sm : Nat → Nat), k ≤ 16 → (∀ t, t < n → sm t = gq_ (F t) (2 ^ k * c)) → (∀ t, t < n → fr t ≤ sm t ∧ sm t + sp_sum (F t) k ≤ to t) → ∀ T, T < 2 ^ k → gd_ n F fr to (2 ^ k * c + T) = true := by
    intro k c sm hk hsm hall T hT
    refine gdT (fun t ht => ?_)
    rw [gq_cat hT, ← hsm t ht]
    have h2 := gq_le (w := F t) hk hT
    have := hall t ht
    omega
  intro k
  induction k with
  | zero =>
    intro _ D hD c sm μ hc hQ hsm hS
    cases D with
    | zero => omega
    | succ D =>
      obtain ⟨b, e, hb⟩ := rt_sReach hQ (below := 0) (by omega) (fun t ht => by have := (hsm t ht).2; omega)
      show ∃ μ', fo_X7_search (fr_X7_search D) (nI 0) (nI (2 ^ 0 * c)) μ = some μ' ∧ _
      unfold fo_X7_search
      rw [e, Option.bind_some]
      cases b with
      | false =>
        rw [if_neg (show ¬ false = true by decide), if_pos rfl]
        have hno : ¬ ∀ t, t < n → sm t ≤ to t ∧ fr t ≤ sm t + sp_sum (F t) 0 := fun q => by have := hb.mpr q; cases this
        refine ⟨μ, rfl, fun _ _ _ => rfl, fun _ _ => rfl, hQ, ?_⟩
        unfold Sst
        rw [sf_none (2 ^ 0) (no 0 c sm (by omega) (fun t ht => (hsm t ht).1) hno)]
        exact hS
      | true =>
        have hr := hb.mp rfl
        rw [if_pos rfl, if_neg rt_10, if_pos (show nI 0 = 0 from rfl)]
        obtain ⟨μ', f1, f2, f3, f4⟩ := rt_sFound (F := fr_X7_search D) (k := 0) (by omega) hc hS (allg 0 c sm (by omega) (fun t ht => (hsm t ht).1) (fun t ht => by have h1 := hr t ht; have h2 : sp_sum (F t) 0 = 0 := rfl; omega))
        refine ⟨μ', f1, fun o h1 _ => f2 o h1, f3, hQ.put (fun o h1 _ => f2 o h1) (f3 6 (by decide)) (fun t ht => by rw [f2 202 (by decide)]; exact (hQ.2.2 t ht).2.2.1), f4⟩
  | succ k ih =>
    intro hk D hD c sm μ hc hQ hsm hS
    cases D with
    | zero => omega
    | succ D =>
      obtain ⟨b, e, hb⟩ := rt_sReach hQ (below := k + 1) hk (fun t ht => by have := (hsm t ht).2; omega)
      show ∃ μ', fo_X7_search (fr_X7_search D) (nI (k + 1)) (nI (2 ^ (k + 1) * c)) μ = some μ' ∧ _
      unfold fo_X7_search
      rw [e, Option.bind_some]
      cases b with
      | false =>
        rw [if_neg (show ¬ false = true by decide), if_pos rfl]
        have hno : ¬ ∀ t, t < n → sm t ≤ to t ∧ fr t ≤ sm t + sp_sum (F t) (k + 1) := fun q => by have := hb.mpr q; cases this
        refine ⟨μ, rfl, fun _ _ _ => rfl, fun _ _ => rfl, hQ, ?_⟩
        unfold Sst
        rw [sf_none (2 ^ (k + 1)) (no (k + 1) c sm (by omega) (fun t ht => (hsm t ht).1) hno)]
        exact hS
      | true =>
        rw [if_pos rfl, if_neg rt_10, if_neg (show ¬ nI (k + 1) = 0 from nI_ne0 (by omega) (by omega))]
        obtain ⟨b2, e2, hb2⟩ := rt_sFree hQ (below := k + 1) hk (fun t ht => by have := (hsm t ht).2; omega)
        rw [e2, Option.bind_some]
        cases b2 with
        | true =>
          rw [if_pos rfl, if_neg rt_10]
          obtain ⟨μ', f1, f2, f3, f4⟩ := rt_sFound (F := fr_X7_search D) (k := k + 1) hk hc hS (allg (k + 1) c sm (by omega) (fun t ht => (hsm t ht).1) (hb2.mp rfl))
          exact ⟨μ', f1, fun o h1 _ => f2 o h1, f3, hQ.put (fun o h1 _ => f2 o h1) (f3 6 (by decide)) (fun t ht => by rw [f2 202 (by decide)]; exact (hQ.2.2 t ht).2.2.1), f4⟩
        | false =>
          rw [if_neg (show ¬ false = true by decide), if_pos rfl, nI_pred, ro_lt]
          have hpw : 2 ^ (k + 1) * c = 2 ^ k * (2 * c) := by rw [Nat.pow_succ, Nat.mul_assoc]
          have hp2 : (2 : Nat) ^ (k + 1) = 2 ^ k + 2 ^ k := by rw [Nat.pow_succ]; omega
          have hsum : ∀ t, sp_sum (F t) (k + 1) = sp_sum (F t) k + F t k := fun t => rfl
          have hnx : 2 ^ (k + 1) * c + 2 ^ k = 2 ^ k * (2 * c + 1) := by rw [hpw, Nat.mul_add, Nat.mul_one]
          have e9 : 2 ^ (k + 1) * c + 2 ^ (k + 1) = 2 ^ (k + 1) * c + 2 ^ k + 2 ^ k := by omega
          rw [e9] at hc
          have hp0 := Nat.two_pow_pos k
          rw [hpw] at hS hsm
          obtain ⟨μ1, e3, g1, g2, g3, g4⟩ := ih (by omega) D (by omega) (2 * c) sm μ (by rw [← hpw]; omega) hQ (fun t ht => ⟨(hsm t ht).1, by have := (hsm t ht).2; rw [hsum] at this; omega⟩) hS
          rw [← hpw] at e3 g4
          rw [e3, Option.bind_some]
          obtain ⟨μ2, e4, o4, q4⟩ := rt_sing (sm' := fun t => sm t + F t k) (sg := 1) g3 (show k < 12 by omega) (fun t _ => by rw [Int32.one_mul, nI_add])
          rw [e4, Option.bind_some]
          have hor : nI (2 ^ (k + 1) * c) ||| ((1 : Int32) <<< (nI k &&& 31)) = nI (2 ^ k * (2 * c + 1)) := by
            rw [rt_shl1 (by omega), fa_or_sum c (show 2 ^ k < 2 ^ (k + 1) by rw [hp2]; have := Nat.two_pow_pos k; omega), hnx]
          rw [hor]
          have sm2 : ∀ t, t < n → sm t + F t k = gq_ (F t) (2 ^ k * (2 * c + 1)) := fun t ht => by
            have h1 := (hsm t ht).1
            have h2 : gq_ (F t) (2 ^ (k + 1) * c + 2 ^ k) = gq_ (F t) (2 ^ (k + 1) * c) + gq_ (F t) (2 ^ k) := gq_cat (by rw [hp2]; have := Nat.two_pow_pos k; omega)
            have h3 : gq_ (F t) (2 ^ k) = F t k := by
              have := (gq_top (w := F t) (n := k) (T := 0) (by omega) (Nat.two_pow_pos k)).1
              rw [Nat.add_zero, gq_0.1, Nat.zero_add] at this
              exact this
            rw [← hnx, h2, h3, hpw, ← h1]
          have hS2 : Sst (gd_ n F fr to) (2 ^ k * (2 * c + 1)) μ2 := by
            rw [← hnx]
            unfold Sst at g4 ⊢
            rw [o4 199 (by decide)]
            exact g4
          obtain ⟨μ3, e5, w1, w2, w3, w4⟩ := ih (by omega) D (by omega) (2 * c + 1) (fun t => sm t + F t k) μ2 (by rw [← hnx]; omega) q4 (fun t ht => ⟨sm2 t ht, by have := (hsm t ht).2; rw [hsum] at this; show sm t + F t k + sp_sum (F t) k < 2 ^ 20; omega⟩) hS2
          rw [e5, Option.bind_some]
          obtain ⟨μ4, e6, o6, q6⟩ := rt_sing (sm' := sm) (sg := -1) w3 (show k < 12 by omega) (fun t _ => by
            rw [Int32.neg_mul, Int32.one_mul, Int32.add_neg_eq_sub, pk_sub (by omega), Nat.add_sub_cancel])
          rw [e6, Option.bind_some]
          refine ⟨μ4, rfl, fun o h1 h2 => by rw [o6 o h2, w1 o h1 h2, o4 o h2, g1 o h1 h2], fun j hj => by rw [o6 199 (by decide), w2 j hj, o4 199 (by decide), g2 j hj], q6, ?_⟩
          rw [← hnx] at w4
          rw [e9]
          unfold Sst at w4 ⊢
          rw [o6 199 (by decide)]
          exact w4
