-- ===== the same, by the reference =====
theorem rt_findP {E : Type} {b : ((Int32 × ro_Mem) → Option E) → (Int32 × ro_Mem) → Option E} (p : Nat → Bool) (N : Nat) (P : Nat → ro_Mem → Prop) (e1 e0 : ro_Mem → E) (hs : ∀ i, i < N → ∀ rec m, P i m → (p i = true → b rec (nI i, m) = some (e1 m)) ∧ (p i = false → ∃ m', P (i + 1) m' ∧ b rec (nI i, m) = rec (nI (i + 1), m'))) (he : ∀ rec m, P N m → b rec (nI N, m) = some (e0 m)) (fuel : Nat) (hf : N < fuel) (m : ro_Mem) (h0 : P 0 m) : (∃ i m', i < N ∧ p i = true ∧ P i m' ∧ ro_loop b fuel (nI 0, m) = some (e1 m')) ∨ ((∀ i, i < N → p i = false) ∧ ∃ m', P N m' ∧ ro_loop b fuel (nI 0, m) = some (e0 m')) := by
  have key : ∀ k i fuel m, i + k = N → k < fuel → P i m → (∀ j, j < i → p j = false) → (∃ j m', j < N ∧ p j = true ∧ P j m' ∧ ro_loop b fuel (nI i, m) = some (e1 m')) ∨ ((∀ j, j < N → p j = false) ∧ ∃ m', P N m' ∧ ro_loop b fuel (nI i, m) = some (e0 m')) := by
    intro k
    induction k with
    | zero =>
      intro i fuel m hi hf hP hno
      cases fuel with
      | zero => omega
      | succ f =>
        have : i = N := by omega
        subst this
        exact Or.inr ⟨hno, m, hP, he _ m hP⟩
    | succ k ih =>
      intro i fuel m hi hf hP hno
      cases fuel with
      | zero => omega
      | succ f =>
        obtain ⟨h1, h2⟩ := hs i (by omega) (ro_loop b f) m hP
        cases c : p i with
        | true => exact Or.inl ⟨i, m, by omega, c, hP, h1 c⟩
        | false =>
          obtain ⟨m', q1, q2⟩ := h2 c
          have q2 : ro_loop b (f + 1) (nI i, m) = _ := q2
          rw [q2]
          exact ih (i + 1) f m' (by omega) (by omega) q1 (fun j hj => by
            by_cases e : j = i
            · rw [e]; exact c
            · exact hno j (by omega))
  exact key N 0 fuel m (by omega) hf h0 (fun j h => absurd h (by omega))
theorem rt_firstBar {m M : ro_Mem} {N a i0 i1 fb bs : Nat} (hw : Wd m N) (hA : Act m N a i0 i1 fb bs) (ha : a < 4) (h18 : M 207 18 = m 207 18) (h221 : M 221 = m 221) (h222 : M 222 = m 222) : fn_X12_firstBar (nI a) M = some (nI fb) := by
  obtain ⟨c1, c2, c3, c4, c5, c6, c7, c8⟩ := hA
  have hN : N ≤ 32 := hw.2.2.2.2.2
  have hn : M 207 18 = nI N := by rw [h18]; exact hw.notes.1
  have key : fl_X12_firstBar_2 (nI a) M 0 = some (match sp_first (fun i => decide (nt_ m 5 i = a)) N 0 with
    | none => Sum.inr ()
    | some i => Sum.inl (nI i)) := by
    unfold fl_X12_firstBar_2
    refine rt_find (fun i => decide (nt_ m 5 i = a)) N (fun i => (Sum.inl (nI i) : Int32 ⊕ Unit)) (Sum.inr ()) ?_ ?_ ro_FU (Nat.lt_of_le_of_lt hN (by decide))
    · intro i hi rec
      show fb_X12_firstBar_2 (nI a) M rec (nI i) = _
      obtain ⟨hnt, -, -, -, hac⟩ := hw.nt hi
      have e : M 222 i = nI (nt_ m 5 i) := by rw [h222]; exact (hnt 5 (by decide) (by decide)).2.1
      unfold fb_X12_firstBar_2
      rw [hn, if_neg (nI_ge hi (by omega)), if_pos (rt_in (n := 32) (by omega) (by decide)), nI_clamp (show i < 2 ^ 31 by omega), e, nI_1]
      by_cases c : nt_ m 5 i = a
      · rw [if_pos (show nI (nt_ m 5 i) = nI a by rw [c]), if_pos (decide_eq_true c)]
      · rw [if_neg (fun q => c ((nI_eq (by omega) (by omega)).mp q)), if_neg (by simpa using c)]
    · intro rec
      show fb_X12_firstBar_2 (nI a) M rec (nI N) = _
      unfold fb_X12_firstBar_2
      rw [hn, if_pos (Int32.le_refl _)]
  have ef : sp_first (fun i => decide (nt_ m 5 i = a)) N 0 = some i0 := by
    cases e : sp_first (fun i => decide (nt_ m 5 i = a)) N 0 with
    | none =>
      have := of_decide_eq_false (sp_first_none e i0 (by omega) (by omega))
      exact absurd ((c3 i0 (by omega)).mpr ⟨Nat.le_refl _, c1⟩) this
    | some j =>
      obtain ⟨-, h2, h3, h4⟩ := sp_first_some e
      have h3 := (c3 j (by omega)).mp (of_decide_eq_true h3)
      rcases Nat.lt_or_ge i0 j with q | q
      · exact absurd ((c3 i0 (by omega)).mpr ⟨Nat.le_refl _, c1⟩) (of_decide_eq_false (h4 i0 (by omega) q))
      · have : j = i0 := by omega
        rw [this]
  obtain ⟨hnt, -⟩ := hw.nt (show i0 < N by omega)
  unfold fn_X12_firstBar
  rw [key, ef, Option.bind_some]
  show (if ro_in (nI i0) 32 then some (M 221 (nI i0).toNatClampNeg) else none) = _
  rw [if_pos (rt_in (n := 32) (by omega) (by decide)), nI_clamp (show i0 < 2 ^ 31 by omega), h221, c4]
  exact congrArg some (hnt 4 (by decide) (by decide)).2.1
theorem rt_barsIn {m M : ro_Mem} {N a i0 i1 fb bs : Nat} (hw : Wd m N) (hA : Act m N a i0 i1 fb bs) (ha : a < 4) (h18 : M 207 18 = m 207 18) (h221 : M 221 = m 221) (h222 : M 222 = m 222) : fn_X12_barsIn (nI a) M = some (nI bs) := by
  have hfb := rt_firstBar hw hA ha h18 h221 h222
  obtain ⟨c1, c2, c3, c4, c5, c6, c7, c8⟩ := hA
  have hN : N ≤ 32 := hw.2.2.2.2.2
  have hn : M 207 18 = nI N := by rw [h18]; exact hw.notes.1
  have key := rt_loop (b := fun rec (s : Int32 × Int32) => fb_X12_barsIn_4 (nI a) M rec s.1 s.2) (fun i => ((if i ≤ i0 then -1 else nI (nt_ m 4 (min i i1 - 1))), nI i)) N (e := some (nI (nt_ m 4 (i1 - 1)))) (fun i hi rec => by
    show fb_X12_barsIn_4 (nI a) M rec (if i ≤ i0 then -1 else nI (nt_ m 4 (min i i1 - 1))) (nI i) = rec ((if i + 1 ≤ i0 then -1 else nI (nt_ m 4 (min (i + 1) i1 - 1))), nI (i + 1))
    obtain ⟨hnt, -, -, -, hac⟩ := hw.nt hi
    have e : M 222 i = nI (nt_ m 5 i) := by rw [h222]; exact (hnt 5 (by decide) (by decide)).2.1
    have e4 : M 221 i = nI (nt_ m 4 i) := by rw [h221]; exact (hnt 4 (by decide) (by decide)).2.1
    unfold fb_X12_barsIn_4
    rw [hn, if_neg (nI_ge hi (by omega)), if_pos (rt_in (n := 32) (by omega) (by decide)), nI_clamp (show i < 2 ^ 31 by omega), e, e4, nI_1]
    by_cases c : nt_ m 5 i = a
    · obtain ⟨q1, q2⟩ := (c3 i hi).mp c
      rw [if_pos (show nI (nt_ m 5 i) = nI a by rw [c]), ro_lt, if_neg (show ¬ i + 1 ≤ i0 by omega), Nat.min_eq_left (by omega), Nat.add_sub_cancel]
    · have hno : ¬ (i0 ≤ i ∧ i < i1) := fun q => c ((c3 i hi).mpr q)
      rw [if_neg (fun q => c ((nI_eq (by omega) (by omega)).mp q))]
      by_cases ci : i < i0
      · rw [if_pos (show i ≤ i0 by omega), if_pos (show i + 1 ≤ i0 by omega)]
      · rw [if_neg (show ¬ i ≤ i0 by omega), if_neg (show ¬ i + 1 ≤ i0 by omega), Nat.min_eq_right (by omega), Nat.min_eq_right (by omega)]) (fun rec => by
    show fb_X12_barsIn_4 (nI a) M rec (if N ≤ i0 then -1 else nI (nt_ m 4 (min N i1 - 1))) (nI N) = _
    unfold fb_X12_barsIn_4
    rw [hn, if_pos (Int32.le_refl _), if_neg (by omega), Nat.min_eq_right c2]) ro_FU (Nat.lt_of_le_of_lt hN (by decide))
  have key : fl_X12_barsIn_4 (nI a) M (-1, 0) = some (nI (nt_ m 4 (i1 - 1))) := by
    have e0 : ((if 0 ≤ i0 then (-1 : Int32) else nI (nt_ m 4 (min 0 i1 - 1))), nI 0) = (-1, 0) := by rw [if_pos (Nat.zero_le _)]; rfl
    rw [← e0]
    exact key
  unfold fn_X12_barsIn
  rw [key, Option.bind_some, hfb, Option.bind_some, c5, pk_sub (by omega), nI_1]
  congr 2
  omega
/-- the reference's rows: n of them -/
def RQ (bs n : Nat) (F : Nat → Nat → Nat) (wt bu : Nat → Nat) (M : ro_Mem) : Prop := n ≤ 20 ∧ ∀ t, t < n → M 255 t = nI (wt t) ∧ M 256 t = nI (bu t) ∧ wt t < 256 ∧ bu t ≤ 99 ∧ ∀ b, b < bs → M 254 (12 * t + b) = nI (F t b)
theorem rt_so {bs n : Nat} {F : Nat → Nat → Nat} {wt bu : Nat → Nat} {M : ro_Mem} (h : RQ bs n F wt bu M) (hbs : bs ≤ 12) (hF : ∀ t, t < n → sp_sum (F t) 12 < 2 ^ 20) {S : Nat} (hS : S < 2 ^ bs) : fn_X12_wouldBeSo (nI S) (nI bs) (nI n) M = some (if gd_ n F (fun t => if wt t = 0 then 0 else bu t + wt t) (fun t => bu t + wt t) S = true then 1 else 0) := by
  obtain ⟨a2, a3⟩ := h
  have hS31 : S < 2 ^ 31 := Nat.lt_of_lt_of_le hS (Nat.pow_le_pow_right (by decide) (by omega))
  have hgq : ∀ t, gq_ (F t) S = sp_sum (fun b => S / 2 ^ b % 2 * F t b) bs := fun t => by
    unfold gq_
    obtain ⟨d, hd⟩ : ∃ d, 16 = bs + d := ⟨16 - bs, by omega⟩
    rw [hd, sp_sum_app, sp_sum_zero (f := fun i => S / 2 ^ (bs + i) % 2 * F t (bs + i)) (fun i _ => by rw [bit_hi hS (by omega), Nat.zero_mul])]
    rfl
  have hle : ∀ t, t < n → gq_ (F t) S < 2 ^ 20 := fun t ht => by
    have h1 := gq_le (w := F t) (k := bs) (by omega) hS
    have h2 := sp_sum_12 hbs (hF t ht)
    omega
  have hin : ∀ t, t < n → fl_X12_wouldBeSo_15 (nI S) (nI bs) (nI n) (nI t) M (0, 0) = some (nI (gq_ (F t) S)) := by
    intro t ht
    obtain ⟨-, -, -, -, b5⟩ := a3 t ht
    have key := rt_sumL (b := fun rec x => fb_X12_wouldBeSo_15 (nI S) (nI bs) (nI n) (nI t) M rec x.1 x.2) (fun b => S / 2 ^ b % 2 * F t b) 0 bs 0 (by omega) (fun b hb rec x => by
      rw [Nat.zero_add]
      show fb_X12_wouldBeSo_15 (nI S) (nI bs) (nI n) (nI t) M rec (nI x) (nI b) = _
      unfold fb_X12_wouldBeSo_15
      rw [if_neg (nI_ge hb (by omega)), rt_has hS31 (by omega), Option.bind_some, rt_e12', nI_1]
      by_cases c : S / 2 ^ b % 2 = 1
      · rw [c, if_neg (show ¬ nI 1 = 0 by decide), if_pos (rt_in (n := 240) (by omega) (by decide)), nI_clamp (show 12 * t + b < 2 ^ 31 by omega), b5 b hb, ro_lt, nI_add, Nat.one_mul]
      · rw [show S / 2 ^ b % 2 = 0 by omega, if_pos (show nI 0 = 0 from rfl), ro_lt, Int32.add_zero, Nat.zero_mul]
        rfl) (fun rec x => by
      rw [Nat.zero_add]
      show fb_X12_wouldBeSo_15 (nI S) (nI bs) (nI n) (nI t) M rec (nI x) (nI bs) = _
      unfold fb_X12_wouldBeSo_15
      rw [if_pos (Int32.le_refl _)])
    rw [Nat.zero_add, ← hgq t] at key
    exact key
  have conn : ∀ t, gq_ (F t) S - bu t = wt t ↔ ((if wt t = 0 then 0 else bu t + wt t) ≤ gq_ (F t) S ∧ gq_ (F t) S ≤ bu t + wt t) := fun t => by
    by_cases c : wt t = 0
    · rw [if_pos c]; omega
    · rw [if_neg c]; omega
  have key : fl_X12_wouldBeSo_3 (nI S) (nI bs) (nI n) M 0 = some (match sp_first (fun t => decide (¬ gq_ (F t) S - bu t = wt t)) n 0 with
    | none => Sum.inr ()
    | some i => Sum.inl ()) := by
    unfold fl_X12_wouldBeSo_3
    refine rt_find (fun t => decide (¬ gq_ (F t) S - bu t = wt t)) n (fun i => (Sum.inl () : Unit ⊕ Unit)) (Sum.inr ()) ?_ ?_ ro_FU (Nat.lt_of_le_of_lt a2 (by decide))
    · intro t ht rec
      show fb_X12_wouldBeSo_3 (nI S) (nI bs) (nI n) M rec (nI t) = _
      obtain ⟨b1, b2, b3, b4, -⟩ := a3 t ht
      have := hle t ht
      unfold fb_X12_wouldBeSo_3
      rw [if_neg (nI_ge ht (by omega)), hin t ht, Option.bind_some, if_pos (rt_in (n := 20) (by omega) (by decide)), nI_clamp (show t < 2 ^ 31 by omega), b1, b2, rt_maxs (by omega) (by omega), Option.bind_some, nI_1]
      by_cases c : gq_ (F t) S - bu t = wt t
      · rw [if_pos (show nI (gq_ (F t) S - bu t) = nI (wt t) by rw [c]), if_neg (by simp [c])]
      · rw [if_neg (fun q => c ((nI_eq (by omega) (by omega)).mp q)), if_pos (decide_eq_true c)]
    · intro rec
      show fb_X12_wouldBeSo_3 (nI S) (nI bs) (nI n) M rec (nI n) = _
      unfold fb_X12_wouldBeSo_3
      rw [if_pos (Int32.le_refl _)]
  unfold fn_X12_wouldBeSo
  rw [key, Option.bind_some]
  cases e : sp_first (fun t => decide (¬ gq_ (F t) S - bu t = wt t)) n 0 with
  | none =>
    have hg : gd_ n F (fun t => if wt t = 0 then 0 else bu t + wt t) (fun t => bu t + wt t) S = true := decide_eq_true (fun t ht => (conn t).mp (Decidable.byContradiction (fun q => of_decide_eq_false (sp_first_none e t (by omega) (by omega)) q)))
    rw [hg]
    rfl
  | some i =>
    obtain ⟨-, h2, h3, -⟩ := sp_first_some e
    have hg : gd_ n F (fun t => if wt t = 0 then 0 else bu t + wt t) (fun t => bu t + wt t) S = false := decide_eq_false (fun h => (of_decide_eq_true h3) ((conn i).mpr (h i (by omega))))
    rw [hg]
    rfl
theorem rt_sets {bs n : Nat} {F : Nat → Nat → Nat} {wt bu : Nat → Nat} {M : ro_Mem} (h : RQ bs n F wt bu M) (hbs : bs ≤ 12) (hF : ∀ t, t < n → sp_sum (F t) 12 < 2 ^ 20) {p : Nat → Bool} (hp : p = gd_ n F (fun t => if wt t = 0 then 0 else bu t + wt t) (fun t => bu t + wt t)) {v3 : Int32} : fl_X12_sung_270 (nI n) v3 (nI bs) M (0, -2, 4095, 0) = some (nI (sf_ p (2 ^ bs)).1, (if (sf_ p (2 ^ bs)).1 = 0 then -2 else nI (sf_ p (2 ^ bs)).2.1), (if (sf_ p (2 ^ bs)).1 = 0 then 4095 else nI (sf_ p (2 ^ bs)).2.2)) := by
  have hpow : (2 : Nat) ^ bs ≤ 2 ^ 12 := Nat.pow_le_pow_right (by decide) hbs
  have h12 : (2 : Nat) ^ 12 = 4096 := rfl
  have key := rt_loop (b := fun rec (s : Int32 × Int32 × Int32 × Int32) => fb_X12_sung_270 (nI n) v3 (nI bs) M rec s.1 s.2.1 s.2.2.1 s.2.2.2) (fun S => (nI (sf_ p S).1, (if (sf_ p S).1 = 0 then -2 else nI (sf_ p S).2.1), (if (sf_ p S).1 = 0 then 4095 else nI (sf_ p S).2.2), nI S)) (2 ^ bs) (e := some (nI (sf_ p (2 ^ bs)).1, (if (sf_ p (2 ^ bs)).1 = 0 then -2 else nI (sf_ p (2 ^ bs)).2.1), (if (sf_ p (2 ^ bs)).1 = 0 then 4095 else nI (sf_ p (2 ^ bs)).2.2))) (fun S hS rec => by
    show fb_X12_sung_270 (nI n) v3 (nI bs) M rec (nI (sf_ p S).1) (if (sf_ p S).1 = 0 then -2 else nI (sf_ p S).2.1) (if (sf_ p S).1 = 0 then 4095 else nI (sf_ p S).2.2) (nI S) = rec (nI (sf_ p (S + 1)).1, (if (sf_ p (S + 1)).1 = 0 then -2 else nI (sf_ p (S + 1)).2.1), (if (sf_ p (S + 1)).1 = 0 then 4095 else nI (sf_ p (S + 1)).2.2), nI (S + 1))
    obtain ⟨l1, l2, l3⟩ := sf_le p S
    unfold fb_X12_sung_270 fj_X12_sung_306
    rw [rt_shl1 (by omega), if_neg (nI_ge hS (by omega)), rt_so h hbs hF hS, ← hp, Option.bind_some, sf_s, nI_1]
    by_cases c : p S = true
    · have n0 : ¬ (sf_ p S).1 + 1 = 0 := by omega
      rw [if_pos c, if_neg rt_10]
      simp only [if_pos c, if_neg n0, ro_lt, nI_1]
      by_cases c0 : (sf_ p S).1 = 0
      · have hland : (4095 : Int32) &&& nI S = nI S := by
          show nI 4095 &&& nI S = _
          rw [fa_and, Nat.and_comm, show 4095 = 2 ^ 12 - 1 from rfl, Nat.and_two_pow_sub_one_eq_mod, Nat.mod_eq_of_lt (by omega)]
        simp only [if_pos c0, if_pos (show nI (sf_ p S).1 = 0 by rw [c0]; rfl), hland]
      · simp only [if_neg c0, if_neg (nI_ne0 (show 0 < (sf_ p S).1 by omega) (by omega)), fa_and]
    · rw [if_neg c, if_pos rfl]
      simp only [if_neg c]) (fun rec => by
    show fb_X12_sung_270 (nI n) v3 (nI bs) M rec (nI (sf_ p (2 ^ bs)).1) (if (sf_ p (2 ^ bs)).1 = 0 then -2 else nI (sf_ p (2 ^ bs)).2.1) (if (sf_ p (2 ^ bs)).1 = 0 then 4095 else nI (sf_ p (2 ^ bs)).2.2) (nI (2 ^ bs)) = _
    unfold fb_X12_sung_270
    rw [rt_shl1 (by omega), if_pos (Int32.le_refl _)]) ro_FU (Nat.lt_of_le_of_lt hpow (by decide))
  exact key
theorem rt_row {m M : ro_Mem} {N a i0 i1 fb bs : Nat} (hw : Wd m N) (hA : Act m N a i0 i1 fb bs) (ha : a < 4) {m2 : ro_Mem} (hL : LM m 0 N m2) (hR : ∀ o, ¬ (254 ≤ o ∧ o ≤ 256) → M o = m2 o) (h221 : m2 221 = m 221) {n : Nat} {F : Nat → Nat → Nat} {wt bu : Nat → Nat} (hQ : RQ bs n F wt bu M) (hn : n < 20) {s x : Nat} (hs : s < 96) (hx : x < 256) {v2 v3 : Int32} : ∃ M', ((fl_X12_sung_141 (nI a) v2 v3 (nI fb) (nI bs) (nI n) (nI s) (0, ro_set (ro_set M 255 n (nI x)) 256 n (nI (nn (m 4 s))))).bind fun q35 => fl_X12_sung_171 (nI a) v2 v3 (nI fb) (nI bs) (nI n) (nI s) (0, q35)) = some M' ∧ (∀ o, ¬ (254 ≤ o ∧ o ≤ 256) → M' o = m2 o) ∧ RQ bs (n + 1) (ex_ F n (Fb m a fb s N)) (ex_ wt n x) (ex_ bu n (nn (m 4 s))) M' := by
  obtain ⟨c1, c2, c3, c4, c5, c6, c7, c8⟩ := hA
  have hN : N ≤ 32 := hw.2.2.2.2.2
  obtain ⟨b1, b2, b3⟩ := hw.bu hs
  obtain ⟨a2, a3⟩ := hQ
  obtain ⟨m29, e29⟩ : ∃ m29, m29 = ro_set (ro_set M 255 n (nI x)) 256 n (nI (nn (m 4 s))) := ⟨_, rfl⟩
  rw [← e29]
  have n29 : ∀ o, ¬ o = 255 → ¬ o = 256 → m29 o = M o := fun o h1 h2 => by rw [e29, ro_set_ne _ _ _ h2, ro_set_ne _ _ _ h1]
  have l141 : ∃ q, ((∀ o, ¬ o = 254 → q o = m29 o) ∧ (∀ j, j < 12 * n → q 254 j = m29 254 j) ∧ ∀ b, b < bs → q 254 (12 * n + b) = 0) ∧ fl_X12_sung_141 (nI a) v2 v3 (nI fb) (nI bs) (nI n) (nI s) (0, m29) = some q := by
    unfold fl_X12_sung_141
    refine rt_cnt (fun i (q : ro_Mem) => (nI i, q)) (fun q => q) bs (fun i q => (∀ o, ¬ o = 254 → q o = m29 o) ∧ (∀ j, j < 12 * n → q 254 j = m29 254 j) ∧ ∀ b, b < i → q 254 (12 * n + b) = 0) ?_ ?_ ro_FU (Nat.lt_of_le_of_lt (show bs ≤ 12 by omega) (by decide)) m29 ⟨fun _ _ => rfl, fun _ _ => rfl, fun b h => absurd h (by omega)⟩
    · intro i hi rec q hP
      obtain ⟨p1, p2, p3⟩ := hP
      show ∃ s', _ ∧ fb_X12_sung_141 (nI a) v2 v3 (nI fb) (nI bs) (nI n) (nI s) rec (nI i) q = rec (nI (i + 1), s')
      unfold fb_X12_sung_141
      rw [if_neg (nI_ge hi (by omega)), rt_e12', if_pos (rt_in (n := 240) (by omega) (by decide)), nI_clamp (show 12 * n + i < 2 ^ 31 by omega), ro_lt, nI_1]
      refine ⟨_, ⟨fun o ho => by rw [ro_set_ne _ _ _ ho]; exact p1 o ho, fun j hj => by rw [ro_set_same, pk_un (by omega)]; exact p2 j hj, fun b hb => ?_⟩, rfl⟩
      rw [ro_set_same]
      by_cases e : b = i
      · rw [e, pk_us]
      · rw [pk_un (by omega)]; exact p3 b (by omega)
    · intro rec q _
      show fb_X12_sung_141 (nI a) v2 v3 (nI fb) (nI bs) (nI n) (nI s) rec (nI bs) q = _
      unfold fb_X12_sung_141
      rw [if_pos (Int32.le_refl _)]
  obtain ⟨q35, ⟨p1, p2, p3⟩, e141⟩ := l141
  rw [e141, Option.bind_some]
  have same : ∀ o, ¬ (254 ≤ o ∧ o ≤ 256) → q35 o = m2 o := fun o ho => by rw [p1 o (by omega), n29 o (by omega) (by omega), hR o ho]
  have l171 : ∃ r, ((∀ o, ¬ o = 254 → r o = q35 o) ∧ (∀ j, j < 12 * n → r 254 j = q35 254 j) ∧ ∀ b, b < bs → r 254 (12 * n + b) = nI (Fb m a fb s N b)) ∧ fl_X12_sung_171 (nI a) v2 v3 (nI fb) (nI bs) (nI n) (nI s) (0, q35) = some r := by
    unfold fl_X12_sung_171
    refine rt_cnt (fun i (r : ro_Mem) => (nI i, r)) (fun r => r) N (fun i r => (∀ o, ¬ o = 254 → r o = q35 o) ∧ (∀ j, j < 12 * n → r 254 j = q35 254 j) ∧ ∀ b, b < bs → r 254 (12 * n + b) = nI (Fb m a fb s i b)) ?_ ?_ ro_FU (Nat.lt_of_le_of_lt hN (by decide)) q35 ⟨fun _ _ => rfl, fun _ _ => rfl, p3⟩
    · intro i hi rec r hP
      obtain ⟨g1, g2, g4⟩ := hP
      show ∃ s', _ ∧ fb_X12_sung_171 (nI a) v2 v3 (nI fb) (nI bs) (nI n) (nI s) rec (nI i) r = rec (nI (i + 1), s')
      obtain ⟨hnt, -, -, hb12, hac⟩ := hw.nt hi
      have eqm : ∀ o, ¬ (254 ≤ o ∧ o ≤ 256) → r o = m2 o := fun o ho => by rw [g1 o (by omega), same o ho]
      have hL' : LM m 0 N r := hL.put (fun o ho => eqm o (by omega)) (by rw [eqm 207 (by omega)])
      have e18 : r 207 18 = nI N := by rw [hL'.2.2.2.2.2]; exact hw.notes.1
      have ea : r 222 i = nI (nt_ m 5 i) := by rw [hL'.2.1]; exact (hnt 5 (by decide) (by decide)).2.1
      have eb : r 221 i = nI (nt_ m 4 i) := by rw [eqm 221 (by omega), h221]; exact (hnt 4 (by decide) (by decide)).2.1
      unfold fb_X12_sung_171
      rw [e18, if_neg (nI_ge hi (by omega)), if_pos (rt_in (n := 32) (by omega) (by decide)), nI_clamp (show i < 2 ^ 31 by omega), ea, eb, nI_1]
      by_cases c : nt_ m 5 i = a
      · obtain ⟨w1, w2⟩ := (c3 i hi).mp c
        obtain ⟨y1, y2⟩ := c8 i w1 w2
        rw [if_pos (show nI (nt_ m 5 i) = nI a by rw [c]), rt_e12', pk_sub (by omega), show 12 * n + nt_ m 4 i - fb = 12 * n + (nt_ m 4 i - fb) by omega, if_pos (rt_in (n := 240) (by omega) (by decide)), rt_byNote hw hL' hi ha (by omega), Option.bind_some, nI_clamp (show 12 * n + (nt_ m 4 i - fb) < 2 ^ 31 by omega), g4 (nt_ m 4 i - fb) (by omega), nI_add, ro_lt]
        refine ⟨_, ⟨fun o ho => by rw [ro_set_ne _ _ _ ho]; exact g1 o ho, fun j hj => by rw [ro_set_same, pk_un (by omega)]; exact g2 j hj, fun b hb => ?_⟩, rfl⟩
        rw [ro_set_same, Fb_s]
        by_cases e : b = nt_ m 4 i - fb
        · rw [e, pk_us, if_pos ⟨c, by omega⟩]
        · rw [pk_un (by omega), g4 b hb, if_neg (show ¬ (nt_ m 5 i = a ∧ nt_ m 4 i = fb + b) from fun q => e (by omega))]
          rfl
      · rw [if_neg (fun q => c ((nI_eq (by omega) (by omega)).mp q))]
        refine ⟨r, ⟨g1, g2, fun b hb => ?_⟩, rfl⟩
        rw [Fb_s, if_neg (show ¬ (nt_ m 5 i = a ∧ nt_ m 4 i = fb + b) from fun q => c q.1)]
        exact g4 b hb
    · intro rec r hP
      have e18 : r 207 18 = nI N := by rw [hP.1 207 (by decide), same 207 (by omega), hL.2.2.2.2.2]; exact hw.notes.1
      show fb_X12_sung_171 (nI a) v2 v3 (nI fb) (nI bs) (nI n) (nI s) rec (nI N) r = _
      unfold fb_X12_sung_171
      rw [e18, if_pos (Int32.le_refl _)]
  obtain ⟨r, ⟨g1, g2, g3⟩, e171⟩ := l171
  rw [e171]
  refine ⟨r, rfl, fun o ho => by rw [g1 o (by omega), same o ho], by omega, fun t ht => ?_⟩
  by_cases e : t = n
  · subst e
    rw [ex_n, ex_n, ex_n, g1 255 (by decide), g1 256 (by decide), p1 255 (by decide), p1 256 (by decide), e29, ro_set_same, pk_us, ro_set_ne _ _ _ (show ¬ 255 = 256 by decide), ro_set_same, pk_us]
    exact ⟨rfl, rfl, hx, b2, g3⟩
  · obtain ⟨d1, d2, d3, d4, d5⟩ := a3 t (by omega)
    rw [ex_ne e, ex_ne e, ex_ne e]
    refine ⟨?_, ?_, d3, d4, fun b hb => ?_⟩
    · rw [g1 255 (by decide), p1 255 (by decide), e29, ro_set_ne _ _ _ (by decide), ro_set_same, pk_un e]; exact d1
    · rw [g1 256 (by decide), p1 256 (by decide), e29, ro_set_same, pk_un e, ro_set_ne _ _ _ (by decide)]; exact d2
    · rw [g2 _ (by omega), p2 _ (by omega), n29 254 (by decide) (by decide)]; exact d5 b hb
