-- ===== numbers =====
theorem rt_in {j n : Nat} (h : j < n) (hn : n < 2 ^ 31) : ro_in (nI j) n := ⟨nI_pos' (by omega), by rw [nI_clamp (by omega)]; exact h⟩
theorem rt_nin {x : Int32} {n : Nat} (hn : n < 2 ^ 31) (h : ro_in x n) : ∃ j, j < n ∧ x = nI j := by
  rcases pk_ix x hn with h1 | h1 | h1
  · exact absurd h.1 (Int32.not_le.mpr h1)
  · exfalso
    obtain ⟨j, hj, rfl⟩ := nI_of (Int32.not_lt.mpr h.1)
    rw [nI_leI hn hj] at h1
    have := h.2
    rw [nI_clamp hj] at this
    omega
  · exact h1
theorem rt_ix (x : Int32) (n : Nat) (hn : n < 2 ^ 31) : (x < 0 ∨ nI n ≤ x) ∨ ∃ j, j < n ∧ x = nI j := by
  rcases pk_ix x hn with h | h | h
  · exact Or.inl (Or.inl h)
  · exact Or.inl (Or.inr h)
  · exact Or.inr h
theorem rt_lt0 {j : Nat} (h : j < 2 ^ 31) : ¬ nI j < 0 := nI_pos h
theorem rt_bit {x : Int32} {k : Nat} (hk : k < 31) : ((x >>> (nI k &&& 31)) &&& 1) = 1 ↔ bt x k = true := by
  have h1 : ∀ i, i < 32 → bt ((x >>> (nI k &&& 31)) &&& 1) i = (decide (i = 0) && bt x k) := by
    intro i hi
    rw [b_and, b_sshr k (by omega) x hi]
    have h2 : bt 1 i = decide (i = 0) := (by decide +kernel : ∀ i, i < 32 → bt 1 i = decide (i = 0)) i hi
    rw [h2]
    by_cases h0 : i = 0
    · subst h0
      rw [if_pos (by omega)]
      simp
    · simp [h0]
  constructor
  · intro h
    have h3 := h1 0 (by omega)
    rw [h] at h3
    have h4 : bt 1 0 = true := by decide
    rw [h4] at h3
    simpa using h3.symm
  · intro h
    apply b_ext
    intro i hi
    rw [h1 i hi, h]
    have h2 : bt 1 i = decide (i = 0) := (by decide +kernel : ∀ i, i < 32 → bt 1 i = decide (i = 0)) i hi
    rw [h2]
    simp
theorem rt_one {k i : Nat} (hk : k < 32) (hi : i < 32) : bt ((1 : Int32) <<< (nI k &&& 31)) i = decide (i = k) := by
  rw [b_shl k hk 1 hi]
  by_cases h : k ≤ i
  · have h2 : bt 1 (i - k) = decide (i - k = 0) := (by decide +kernel : ∀ i, i < 32 → bt 1 i = decide (i = 0)) (i - k) (by omega)
    rw [h2]
    by_cases h3 : i = k
    · subst h3; simp
    · have : ¬ i - k = 0 := by omega
      simp [h, h3, this]
  · have : ¬ i = k := by omega
    simp [h, this]
theorem rt_or {x : Int32} {k i : Nat} (hk : k < 32) (hi : i < 32) : bt (x ||| ((1 : Int32) <<< (nI k &&& 31))) i = (bt x i || decide (i = k)) := by rw [b_or, rt_one hk hi]
theorem rt_xor {x : Int32} {k i : Nat} (hk : k < 32) (hi : i < 32) : bt (x ^^^ ((1 : Int32) <<< (nI k &&& 31))) i = (bt x i ^^ decide (i = k)) := by rw [b_xor, rt_one hk hi]
theorem rt_clr {x : Int32} {k i : Nat} (hk : k < 32) (hi : i < 32) : bt (x &&& (((1 : Int32) <<< (nI k &&& 31)) ^^^ (-1))) i = (bt x i && !decide (i = k)) := by
  rw [b_and, b_xor, rt_one hk hi, b_m1 i hi]
  cases bt x i <;> simp
-- ===== loops =====
theorem rt_loop {S E : Type} {b : (S → Option E) → S → Option E} (f : Nat → S) (n : Nat) {e : Option E} (hs : ∀ i, i < n → ∀ rec, b rec (f i) = rec (f (i + 1))) (he : ∀ rec, b rec (f n) = e) : ∀ fuel, n < fuel → ro_loop b fuel (f 0) = e := by
  have key : ∀ k, k ≤ n → ∀ fuel, k < fuel → ro_loop b fuel (f (n - k)) = e := by
    intro k
    induction k with
    | zero =>
      intro _ fuel hf
      cases fuel with
      | zero => omega
      | succ m => exact he _
    | succ k ih =>
      intro hk fuel hf
      cases fuel with
      | zero => omega
      | succ m =>
        show b (ro_loop b m) (f (n - (k + 1))) = e
        rw [hs (n - (k + 1)) (by omega), show n - (k + 1) + 1 = n - k by omega]
        exact ih (by omega) m (by omega)
  intro fuel hf
  have := key n (Nat.le_refl _) fuel hf
  rwa [Nat.sub_self] at this
theorem rt_FU {n : Nat} (h : n < 200000) : n < ro_FU := h
-- ===== seats, acts, numbers in range =====
theorem rt_seatNumber {r p : Nat} (hr : r < 8) (hp : p < 12) : fn_X11_seatNumber (nI r) (nI p) = some (nI (12 * r + p)) := by
  have h1 : ¬ nI r < 0 := nI_pos (by omega)
  have h2 : ¬ (8 : Int32) ≤ nI r := nI_ge hr (by decide)
  have h3 : ¬ nI p < 0 := nI_pos (by omega)
  have h4 : ¬ (12 : Int32) ≤ nI p := nI_ge hp (by decide)
  have h5 : ¬ (1 : Int32) = 0 := by decide
  simp only [fn_X11_seatNumber, fj_X11_seatNumber_25, h1, h2, h3, h4, h5, if_false]
  rw [fa_lit, pk_mul, nI_add, Nat.mul_comm]
theorem rt_seatNumber_no {v1 v2 : Int32} (h : (v1 < 0 ∨ (8 : Int32) ≤ v1) ∨ (v2 < 0 ∨ (12 : Int32) ≤ v2)) : fn_X11_seatNumber v1 v2 = some (-1) := by
  simp only [fn_X11_seatNumber, fj_X11_seatNumber_24, fj_X11_seatNumber_25, if_true]
  by_cases h1 : v1 < 0
  · simp [h1]
  · by_cases h2 : (8 : Int32) ≤ v1
    · simp [h1, h2]
    · by_cases h3 : v2 < 0
      · simp [h1, h2, h3]
      · by_cases h4 : (12 : Int32) ≤ v2
        · simp [h1, h2, h3, h4]
        · rcases h with (h | h) | (h | h) <;> contradiction
theorem rt_isPlace {r p : Nat} (hr : r < 8) (hp : p < 12) : fn_X12_isPlace (nI r) (nI p) = some 1 := by
  have h1 : ¬ nI r < 0 := nI_pos (by omega)
  have h2 : ¬ (8 : Int32) ≤ nI r := nI_ge hr (by decide)
  have h3 : ¬ nI p < 0 := nI_pos (by omega)
  have h4 : ¬ (12 : Int32) ≤ nI p := nI_ge hp (by decide)
  simp only [fn_X12_isPlace, h1, h2, h3, h4, if_false]
theorem rt_isPlace_no {v1 v2 : Int32} (h : (v1 < 0 ∨ (8 : Int32) ≤ v1) ∨ (v2 < 0 ∨ (12 : Int32) ≤ v2)) : fn_X12_isPlace v1 v2 = some 0 := by
  simp only [fn_X12_isPlace]
  by_cases h1 : v1 < 0
  · simp [h1]
  · by_cases h2 : (8 : Int32) ≤ v1
    · simp [h1, h2]
    · by_cases h3 : v2 < 0
      · simp [h1, h2, h3]
      · by_cases h4 : (12 : Int32) ≤ v2
        · simp [h1, h2, h3, h4]
        · rcases h with (h | h) | (h | h) <;> contradiction
theorem rt_inn {v a b : Int32} : fn_X12_in v a b = some (if v < a ∨ b < v then 0 else 1) := by
  simp only [fn_X12_in]
  by_cases h1 : v < a
  · simp [h1]
  · by_cases h2 : b < v
    · simp [h1, h2]
    · simp [h1, h2]
theorem rt_act {v : Int32} : fn_X11_isAct v = some (if v < 0 ∨ 4 ≤ v then 0 else 1) ∧ fn_X12_isAct v = some (if v < 0 ∨ 4 ≤ v then 0 else 1) := by
  simp only [fn_X11_isAct, fn_X12_isAct]
  by_cases h1 : v < 0
  · simp [h1]
  · by_cases h2 : (4 : Int32) ≤ v
    · simp [h1, h2]
    · simp [h1, h2]
