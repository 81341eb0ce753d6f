-- ===== told seats, sorted =====
theorem rt_findQ {E : Type} {b : ((Int32 × ro_Mem) → Option E) → (Int32 × ro_Mem) → Option E} (p : Nat → Bool) (N : Nat) (P : Nat → ro_Mem → Prop) (X : E → Prop) (e0 : ro_Mem → E) (hs : ∀ i, i < N → ∀ rec m, P i m → (∀ j, j < i → p j = false) → (p i = true → ∃ x, X x ∧ b rec (nI i, m) = some x) ∧ (p i = false → ∃ m', P (i + 1) m' ∧ b rec (nI i, m) = rec (nI (i + 1), m'))) (he : ∀ rec m, P N m → b rec (nI N, m) = some (e0 m)) (fuel : Nat) (hf : N < fuel) (m : ro_Mem) (h0 : P 0 m) : (∃ i x, i < N ∧ p i = true ∧ X x ∧ ro_loop b fuel (nI 0, m) = some x) ∨ ((∀ i, i < N → p i = false) ∧ ∃ m', P N m' ∧ ro_loop b fuel (nI 0, m) = some (e0 m')) := by
  have key : ∀ k i fuel m, i + k = N → k < fuel → P i m → (∀ j, j < i → p j = false) → (∃ j x, j < N ∧ p j = true ∧ X x ∧ ro_loop b fuel (nI i, m) = some x) ∨ ((∀ j, j < N → p j = false) ∧ ∃ m', P N m' ∧ ro_loop b fuel (nI i, m) = some (e0 m')) := by
    intro k
    induction k with
    | zero =>
      intro i fuel m hi hf hP hno
      cases fuel with
      | zero => omega
      | succ f =>
        have : i = N := by omega
        subst this
        exact Or.inr ⟨hno, m, hP, he _ m hP⟩
    | succ k ih =>
      intro i fuel m hi hf hP hno
      cases fuel with
      | zero => omega
      | succ f =>
        obtain ⟨h1, h2⟩ := hs i (by omega) (ro_loop b f) m hP hno
        cases c : p i with
        | true =>
          obtain ⟨x, x1, x2⟩ := h1 c
          exact Or.inl ⟨i, x, by omega, c, x1, x2⟩
        | false =>
          obtain ⟨m', q1, q2⟩ := h2 c
          have q2 : ro_loop b (f + 1) (nI i, m) = _ := q2
          rw [q2]
          exact ih (i + 1) f m' (by omega) (by omega) q1 (fun j hj => by
            by_cases e : j = i
            · rw [e]; exact c
            · exact hno j (by omega))
  exact key N 0 fuel m (by omega) hf h0 (fun j h => absurd h (by omega))
def ps_ (sq : Nat → Nat) (k v : Nat) : Nat := match sp_first (fun i => decide (v < sq i)) k 0 with
  | none => k
  | some i => i
def is_ (sq : Nat → Nat) (k v : Nat) : Nat → Nat := fun j => if j < ps_ sq k v then sq j else if j = ps_ sq k v then v else sq (j - 1)
def sq_ (S : Nat → Nat) : Nat → (Nat → Nat)
  | 0 => fun _ => 0
  | k + 1 => is_ (sq_ S k) k (S k)
theorem ps_eq {sq : Nat → Nat} {k v p : Nat} (hp : p ≤ k) (h1 : ∀ i, i < p → sq i < v) (h2 : ∀ i, p ≤ i → i < k → v < sq i) : ps_ sq k v = p := by
  unfold ps_
  cases e : sp_first (fun i => decide (v < sq i)) k 0 with
  | none =>
    rcases Nat.lt_or_ge p k with q | q
    · exact absurd (h2 p (Nat.le_refl _) q) (of_decide_eq_false (sp_first_none e p (by omega) (by omega)))
    · show k = p; omega
  | some i =>
    obtain ⟨-, a2, a3, a4⟩ := sp_first_some e
    have a3 := of_decide_eq_true a3
    show i = p
    rcases Nat.lt_or_ge i p with q | q
    · have := h1 i q; omega
    · rcases Nat.lt_or_ge p i with q2 | q2
      · exact absurd (h2 p (Nat.le_refl _) (by omega)) (of_decide_eq_false (a4 p (by omega) q2))
      · omega
/-- strictly sorted, and just the first k of S -/
def Sd (S sq : Nat → Nat) (k : Nat) : Prop := (∀ i j, i < j → j < k → sq i < sq j) ∧ (∀ i, i < k → ∃ t, t < k ∧ sq i = S t) ∧ ∀ t, t < k → ∃ i, i < k ∧ sq i = S t
theorem Sd.ins {S sq : Nat → Nat} {k p : Nat} (h : Sd S sq k) (hp : p ≤ k) (h1 : ∀ i, i < p → sq i < S k) (h2 : ∀ i, p ≤ i → i < k → S k < sq i) : Sd S (fun j => if j < p then sq j else if j = p then S k else sq (j - 1)) (k + 1) := by
  obtain ⟨a1, a2, a3⟩ := h
  have A : ∀ j, j < p → (fun j => if j < p then sq j else if j = p then S k else sq (j - 1)) j = sq j := fun j hj => if_pos hj
  have Bq : (fun j => if j < p then sq j else if j = p then S k else sq (j - 1)) p = S k := by
    show (if p < p then _ else _) = _
    rw [if_neg (Nat.lt_irrefl _), if_pos rfl]
  have Cq : ∀ j, p ≤ j → (fun j => if j < p then sq j else if j = p then S k else sq (j - 1)) (j + 1) = sq j := fun j hj => by
    show (if j + 1 < p then _ else _) = _
    rw [if_neg (by omega), if_neg (by omega), Nat.add_sub_cancel]
  generalize (fun j => if j < p then sq j else if j = p then S k else sq (j - 1)) = od at *
  refine ⟨fun i j hij hj => ?_, fun i hi => ?_, fun t ht => ?_⟩
  · by_cases cj : j < p
    · rw [A i (by omega), A j cj]; exact a1 i j hij (by omega)
    · by_cases ej : j = p
      · rw [ej, Bq, A i (by omega)]; exact h1 i (by omega)
      · obtain ⟨j', rfl⟩ : ∃ k, j = k + 1 := ⟨j - 1, by omega⟩
        rw [Cq j' (by omega)]
        by_cases ci : i < p
        · rw [A i ci]; exact a1 i j' (by omega) (by omega)
        · by_cases ei : i = p
          · rw [ei, Bq]; exact h2 j' (by omega) (by omega)
          · obtain ⟨i', rfl⟩ : ∃ k, i = k + 1 := ⟨i - 1, by omega⟩
            rw [Cq i' (by omega)]; exact a1 i' j' (by omega) (by omega)
  · by_cases ci : i < p
    · obtain ⟨t, t1, t2⟩ := a2 i (by omega)
      exact ⟨t, by omega, by rw [A i ci, t2]⟩
    · by_cases ei : i = p
      · exact ⟨k, by omega, by rw [ei, Bq]⟩
      · obtain ⟨i', rfl⟩ : ∃ k, i = k + 1 := ⟨i - 1, by omega⟩
        obtain ⟨t, t1, t2⟩ := a2 i' (by omega)
        exact ⟨t, by omega, by rw [Cq i' (by omega), t2]⟩
  · by_cases ct : t = k
    · exact ⟨p, by omega, by rw [Bq, ct]⟩
    · obtain ⟨i, i1, i2⟩ := a3 t (by omega)
      by_cases ci : i < p
      · exact ⟨i, by omega, by rw [A i ci, i2]⟩
      · exact ⟨i + 1, by omega, by rw [Cq i (by omega), i2]⟩
/-- a seat that there is not, or there twice -/
def bd_ (S : Nat → Nat) (k : Nat) : Bool := decide (96 ≤ S k) || !(decide (∀ i, i < k → ¬ S i = S k))
theorem bd_f {S : Nat → Nat} {k : Nat} (h : bd_ S k = false) : S k < 96 ∧ ∀ i, i < k → ¬ S i = S k := by
  unfold bd_ at h
  obtain ⟨h1, h2⟩ := Bool.or_eq_false_iff.mp h
  have h1 := of_decide_eq_false h1
  refine ⟨by omega, ?_⟩
  have : decide (∀ i, i < k → ¬ S i = S k) = true := by simpa using h2
  exact of_decide_eq_true this
theorem bd_of {S : Nat → Nat} {k : Nat} (h : 96 ≤ S k ∨ ∃ i, i < k ∧ S i = S k) : bd_ S k = true := by
  cases c : bd_ S k with
  | true => rfl
  | false =>
    obtain ⟨h1, h2⟩ := bd_f c
    rcases h with q | ⟨i, q1, q2⟩
    · omega
    · exact absurd q2 (h2 i q1)
/-- a gap at p -/
def Sp (sq : Nat → Nat) (k p v : Nat) (f : Nat → Int32) : Prop := (∀ j, j < p → f j = nI (sq j)) ∧ (∀ j, p ≤ j → j < k → f (j + 1) = nI (sq j)) ∧ ∀ j, p ≤ j → j < k → v < sq j
theorem Sp.done {sq : Nat → Nat} {k p v : Nat} {f : Nat → Int32} (h : Sp sq k p v f) (hp : p ≤ k) (hlt : ∀ i, i < p → sq i < v) : ∀ j, j < k + 1 → upd f p (nI v) j = nI (is_ sq k v j) := by
  intro j hj
  unfold is_
  rw [ps_eq hp hlt h.2.2]
  by_cases c : j < p
  · rw [if_pos c, pk_un (by omega)]; exact h.1 j c
  · rw [if_neg c]
    by_cases e : j = p
    · rw [if_pos e, e, pk_us]
    · rw [if_neg e, pk_un e]
      obtain ⟨i, rfl⟩ : ∃ i, j = i + 1 := ⟨j - 1, by omega⟩
      rw [Nat.add_sub_cancel]
      exact h.2.1 i (by omega) (by omega)
theorem rt_takeIn {S sq : Nat → Nat} {k v : Nat} {v2 v3 : Int32} (hk : k < 8) (hv : v < 256) (hS : Sd S sq k) (hb : ∀ t, t < k → S t < 256) : ∀ p fuel (M : ro_Mem), p ≤ k → p < fuel → Sp sq k p v (M 70) → ∃ p' M', ro_loop (fun rec (s : Int32 × ro_Mem) => fb_X6_takeSeats_32 v2 v3 (nI v) rec s.1 s.2) fuel (nI p, M) = some (nI p', M') ∧ p' ≤ k ∧ (∀ o, ¬ o = 70 → M' o = M o) ∧ Sp sq k p' v (M' 70) ∧ (p' = 0 ∨ sq (p' - 1) ≤ v) := by
  have hsq : ∀ i, i < k → sq i < 256 := fun i hi => by
    obtain ⟨t, t1, t2⟩ := hS.2.1 i hi
    rw [t2]; exact hb t t1
  intro p
  induction p with
  | zero =>
    intro fuel M _ hf hG
    cases fuel with
    | zero => omega
    | succ f =>
      refine ⟨0, M, ?_, by omega, fun _ _ => rfl, hG, Or.inl rfl⟩
      show fb_X6_takeSeats_32 v2 v3 (nI v) _ (nI 0) M = _
      unfold fb_X6_takeSeats_32
      rw [if_pos (show nI 0 ≤ 0 from Int32.le_refl _)]
  | succ p ih =>
    intro fuel M hp hf hG
    cases fuel with
    | zero => omega
    | succ f =>
      show ∃ p' M', fb_X6_takeSeats_32 v2 v3 (nI v) (ro_loop (fun rec (s : Int32 × ro_Mem) => fb_X6_takeSeats_32 v2 v3 (nI v) rec s.1 s.2) f) (nI (p + 1)) M = _ ∧ _
      have hih := ih f
      generalize ro_loop (fun rec (s : Int32 × ro_Mem) => fb_X6_takeSeats_32 v2 v3 (nI v) rec s.1 s.2) f = R at hih ⊢
      have e1 : M 70 p = nI (sq p) := hG.1 p (by omega)
      have b1 := hsq p (by omega)
      unfold fb_X6_takeSeats_32
      rw [if_neg (nI_nle (by omega) (by omega)), nI_pred, if_pos (rt_in (n := 8) (by omega) (by decide)), nI_clamp (show p < 2 ^ 31 by omega), e1]
      by_cases c : sq p ≤ v
      · rw [if_pos (nI_le c (by omega))]
        exact ⟨p + 1, M, rfl, hp, fun _ _ => rfl, hG, Or.inr c⟩
      · rw [if_neg (nI_ge (by omega) (by omega)), if_pos (rt_in (n := 8) (by omega) (by decide)), nI_clamp (show p + 1 < 2 ^ 31 by omega), ro_lt, pk_m1]
        obtain ⟨p', M', x1, x2, x3, x4, x5⟩ := hih (ro_set M 70 (p + 1) (nI (sq p))) (by omega) (by omega) (by
          rw [ro_set_same]
          refine ⟨fun j hj => by rw [pk_un (by omega)]; exact hG.1 j (by omega), fun j hj hj2 => ?_, fun j hj hj2 => ?_⟩
          · by_cases e : j = p
            · rw [e, pk_us]
            · rw [pk_un (by omega)]; exact hG.2.1 j (by omega) hj2
          · by_cases e : j = p
            · rw [e]; omega
            · exact hG.2.2 j (by omega) hj2)
        exact ⟨p', M', x1, x2, fun o ho => by rw [x3 o ho, ro_set_ne _ _ _ ho], x4, x5⟩
/-- the class: true and the sorted seats, or false -/
theorem rt_takeSeats {m : ro_Mem} {S : Nat → Nat} {n : Nat} (hn : n ≤ 8) (h61 : ∀ t, t < n → m 61 t = nI (S t) ∧ S t < 256) : ∃ M, (∀ o, ¬ (69 ≤ o ∧ o ≤ 70) → M o = m o) ∧ ((∃ t, t < n ∧ bd_ S t = true ∧ fn_X6_takeSeats (nI n) m = some (0, M)) ∨ ((∀ t, t < n → bd_ S t = false) ∧ fn_X6_takeSeats (nI n) m = some (1, M) ∧ M 69 1 = nI n ∧ (∀ j, j < n → M 70 j = nI (sq_ S n j)) ∧ Sd S (sq_ S n) n)) := by
  have key := rt_findQ (b := fun rec (s : Int32 × ro_Mem) => fb_X6_takeSeats_7 (nI n) rec s.1 s.2) (bd_ S) n (fun k M => (∀ o, ¬ (69 ≤ o ∧ o ≤ 70) → M o = m o) ∧ M 69 1 = nI k ∧ (∀ j, j < k → M 70 j = nI (sq_ S k j)) ∧ Sd S (sq_ S k) k) (fun x => ∃ M, x = Sum.inl M ∧ ∀ o, ¬ (69 ≤ o ∧ o ≤ 70) → M o = m o) (fun M => (Sum.inr M : ro_Mem ⊕ ro_Mem)) (fun k hk rec M hP _ => by
    obtain ⟨p1, p2, p3, p4⟩ := hP
    obtain ⟨z1, z2⟩ := h61 k hk
    obtain ⟨p', M', x1, x2, x3, x4, x5⟩ := rt_takeIn (v2 := nI n) (v3 := nI k) (show k < 8 by omega) z2 p4 (fun t ht => (h61 t (by omega)).2) k ro_FU M (Nat.le_refl _) (Nat.lt_of_lt_of_le hk (Nat.le_trans hn (by decide))) ⟨p3, fun j h1 h2 => absurd h2 (by omega), fun j h1 h2 => absurd h2 (by omega)⟩
    have x1 : fl_X6_takeSeats_32 (nI n) (nI k) (nI (S k)) (nI k, M) = some (nI p', M') := x1
    have hM' : ∀ o, ¬ (69 ≤ o ∧ o ≤ 70) → M' o = m o := fun o ho => by rw [x3 o (by omega), p1 o ho]
    have f1 : fb_X6_takeSeats_7 (nI n) rec (nI k) M = fj_X6_takeSeats_73 rec (nI n) (nI k) (nI (S k)) (nI p') M' := by
      unfold fb_X6_takeSeats_7
      rw [if_neg (nI_ge hk (by omega)), if_neg (show ¬ (8 : Int32) ≤ nI k from nI_ge (b := 8) (by omega) (by decide)), if_pos (rt_in (n := 220) (by omega) (by decide)), nI_clamp (show k < 2 ^ 31 by omega), p1 61 (by omega), z1, ro_lt, p2, ro_lt, x1, Option.bind_some]
    have hle : ∀ i, i < p' → sq_ S k i ≤ S k := fun i hi => by
      rcases x5 with q | q
      · omega
      · by_cases e : i = p' - 1
        · rw [e]; exact q
        · have := p4.1 i (p' - 1) (by omega) (by omega); omega
    have take : bd_ S k = false → ∃ m', ((∀ o, ¬ (69 ≤ o ∧ o ≤ 70) → m' o = m o) ∧ m' 69 1 = nI (k + 1) ∧ (∀ j, j < k + 1 → m' 70 j = nI (sq_ S (k + 1) j)) ∧ Sd S (sq_ S (k + 1)) (k + 1)) ∧ fj_X6_takeSeats_101 rec (nI n) (nI k) (nI (S k)) (nI p') M' = rec (nI (k + 1), m') := fun hb => by
      obtain ⟨b1, b2⟩ := bd_f hb
      have hlt : ∀ i, i < p' → sq_ S k i < S k := fun i hi => by
        have := hle i hi
        obtain ⟨t, t1, t2⟩ := p4.2.1 i (by omega)
        have := b2 t t1
        omega
      unfold fj_X6_takeSeats_101
      rw [if_pos (rt_in (n := 8) (by omega) (by decide)), nI_clamp (show p' < 2 ^ 31 by omega), ro_lt]
      have e69 : ro_set M' 70 p' (nI (S k)) 69 1 = nI k := by rw [ro_set_ne _ _ _ (by decide), x3 69 (by decide), p2]
      rw [e69, nI_1, ro_lt]
      refine ⟨_, ⟨fun o ho => by rw [ro_set_ne _ _ _ (by omega), ro_set_ne _ _ _ (by omega)]; exact hM' o ho, by rw [ro_set_same, pk_us], fun j hj => ?_, ?_⟩, rfl⟩
      · rw [ro_set_ne _ _ _ (by decide), ro_set_same]
        exact x4.done x2 hlt j hj
      · have e : sq_ S (k + 1) = fun j => if j < p' then sq_ S k j else if j = p' then S k else sq_ S k (j - 1) := by
          show is_ (sq_ S k) k (S k) = _
          unfold is_
          rw [ps_eq x2 hlt x4.2.2]
        rw [e]
        exact p4.ins x2 hlt x4.2.2
    refine ⟨fun hb => ?_, fun hb => ?_⟩
    · show ∃ x, _ ∧ fb_X6_takeSeats_7 (nI n) rec (nI k) M = some x
      rw [f1]
      unfold fj_X6_takeSeats_73
      by_cases c1 : 96 ≤ S k
      · rw [if_pos (show (96 : Int32) ≤ nI (S k) from nI_le (a := 96) c1 (by omega))]
        exact ⟨_, ⟨M', rfl, hM'⟩, rfl⟩
      · rw [if_neg (show ¬ (96 : Int32) ≤ nI (S k) from nI_ge (b := 96) (by omega) (by decide))]
        -- it is there already
        have hex : ∃ i, i < k ∧ S i = S k := by
          refine Classical.byContradiction (fun hno => ?_)
          have : bd_ S k = false := by
            unfold bd_
            rw [decide_eq_false c1, decide_eq_true (show ∀ i, i < k → ¬ S i = S k from fun i hi hq => hno ⟨i, hi, hq⟩)]
            rfl
          rw [this] at hb; cases hb
        obtain ⟨i, i1, i2⟩ := hex
        obtain ⟨q, q1, q2⟩ := p4.2.2 i i1
        have hq : q < p' := by
          rcases Nat.lt_or_ge q p' with h | h
          · exact h
          · have := x4.2.2 q h q1; omega
        have hq2 : sq_ S k (p' - 1) = S k := by
          have h1 := hle (p' - 1) (by omega)
          rcases Nat.lt_or_ge q (p' - 1) with h | h
          · have := p4.1 q (p' - 1) h (by omega); omega
          · have : q = p' - 1 := by omega
            rw [← this, q2, i2]
        obtain ⟨p0, rfl⟩ : ∃ p0, p' = p0 + 1 := ⟨p' - 1, by omega⟩
        rw [Nat.add_sub_cancel] at hq2
        rw [if_neg (nI_nle (by omega) (by omega)), nI_pred, if_pos (rt_in (n := 8) (by omega) (by decide)), nI_clamp (show p0 < 2 ^ 31 by omega), x4.1 p0 (by omega), hq2, if_pos rfl]
        exact ⟨_, ⟨M', rfl, hM'⟩, rfl⟩
    · obtain ⟨b1, b2⟩ := bd_f hb
      obtain ⟨m', t1, t2⟩ := take hb
      refine ⟨m', t1, ?_⟩
      show fb_X6_takeSeats_7 (nI n) rec (nI k) M = _
      rw [f1]
      unfold fj_X6_takeSeats_73
      rw [if_neg (show ¬ (96 : Int32) ≤ nI (S k) from nI_ge (b := 96) b1 (by decide))]
      by_cases c0 : p' = 0
      · rw [if_pos (show nI p' ≤ 0 by rw [c0]; exact Int32.le_refl _)]
        exact t2
      · obtain ⟨p0, rfl⟩ : ∃ p0, p' = p0 + 1 := ⟨p' - 1, by omega⟩
        have hne : ¬ nI (sq_ S k p0) = nI (S k) := fun q => by
          obtain ⟨t, u1, u2⟩ := p4.2.1 p0 (by omega)
          have h2 := (h61 t (by omega)).2
          have := (nI_eq (by omega) (by omega)).mp q
          exact b2 t u1 (by omega)
        rw [if_neg (nI_nle (by omega) (by omega)), nI_pred, if_pos (rt_in (n := 8) (by omega) (by decide)), nI_clamp (show p0 < 2 ^ 31 by omega), x4.1 p0 (by omega), if_neg hne]
        exact t2) (fun rec M _ => by
    show fb_X6_takeSeats_7 (nI n) rec (nI n) M = _
    unfold fb_X6_takeSeats_7
    rw [if_pos (Int32.le_refl _)]) ro_FU (Nat.lt_of_le_of_lt hn (by decide)) (ro_set m 69 1 0) ⟨fun o ho => ro_set_ne _ _ _ (by omega), by rw [ro_set_same, pk_us]; rfl, fun j h => absurd h (by omega), fun i j _ h => absurd h (by omega), fun i h => absurd h (by omega), fun t h => absurd h (by omega)⟩
  rcases key with ⟨t, x, l1, l2, ⟨M, rfl, l3⟩, l4⟩ | ⟨l1, M, l2, l3⟩
  · have l4 : fl_X6_takeSeats_7 (nI n) (0, ro_set m 69 1 0) = some (Sum.inl M) := l4
    refine ⟨M, l3, Or.inl ⟨t, l1, l2, ?_⟩⟩
    unfold fn_X6_takeSeats
    rw [ro_lt, l4, Option.bind_some]
    rfl
  · have l3 : fl_X6_takeSeats_7 (nI n) (0, ro_set m 69 1 0) = some (Sum.inr M) := l3
    refine ⟨M, l2.1, Or.inr ⟨l1, ?_, l2.2.1, l2.2.2.1, l2.2.2.2⟩⟩
    unfold fn_X6_takeSeats
    rw [ro_lt, l3, Option.bind_some]
    rfl
-- ===== the same, by the reference; who sits there, too =====
/-- a seat on which another one sits -/
def tk_ (m : ro_Mem) (a G v : Nat) : Bool := match who_ m a v with
  | none => false
  | some g => decide (G / 2 ^ g % 2 = 0)
theorem rt_takeInM {S sq : Nat → Nat} {k v : Nat} {v1 v2 v3 v4 : Int32} (hk : k < 8) (hv : v < 256) (hS : Sd S sq k) (hb : ∀ t, t < k → S t < 256) : ∀ p fuel (M : ro_Mem), p ≤ k → p < fuel → Sp sq k p v (M 247) → (∃ M', ro_loop (fun rec (s : Int32 × ro_Mem) => fb_X12_takesSeats_61 v1 v2 v3 v4 (nI v) rec s.1 s.2) fuel (nI p, M) = some (.inl M') ∧ (∀ o, ¬ o = 247 → M' o = M o) ∧ ∃ i, i < k ∧ sq i = v) ∨ (∃ p' M', ro_loop (fun rec (s : Int32 × ro_Mem) => fb_X12_takesSeats_61 v1 v2 v3 v4 (nI v) rec s.1 s.2) fuel (nI p, M) = some (.inr (nI p', M')) ∧ p' ≤ k ∧ (∀ o, ¬ o = 247 → M' o = M o) ∧ Sp sq k p' v (M' 247) ∧ ∀ i, i < p' → sq i < v) := by
  have hsq : ∀ i, i < k → sq i < 256 := fun i hi => by
    obtain ⟨t, t1, t2⟩ := hS.2.1 i hi
    rw [t2]; exact hb t t1
  intro p
  induction p with
  | zero =>
    intro fuel M _ hf hG
    cases fuel with
    | zero => omega
    | succ f =>
      refine Or.inr ⟨0, M, ?_, by omega, fun _ _ => rfl, hG, fun i h => absurd h (by omega)⟩
      show fb_X12_takesSeats_61 v1 v2 v3 v4 (nI v) _ (nI 0) M = _
      unfold fb_X12_takesSeats_61
      rw [if_pos (show nI 0 ≤ 0 from Int32.le_refl _)]
  | succ p ih =>
    intro fuel M hp hf hG
    cases fuel with
    | zero => omega
    | succ f =>
      have hih := ih f
      have hun : ro_loop (fun rec (s : Int32 × ro_Mem) => fb_X12_takesSeats_61 v1 v2 v3 v4 (nI v) rec s.1 s.2) (f + 1) (nI (p + 1), M) = fb_X12_takesSeats_61 v1 v2 v3 v4 (nI v) (ro_loop (fun rec (s : Int32 × ro_Mem) => fb_X12_takesSeats_61 v1 v2 v3 v4 (nI v) rec s.1 s.2) f) (nI (p + 1)) M := rfl
      rw [hun]
      generalize ro_loop (fun rec (s : Int32 × ro_Mem) => fb_X12_takesSeats_61 v1 v2 v3 v4 (nI v) rec s.1 s.2) f = R at hih ⊢
      have e1 : M 247 p = nI (sq p) := hG.1 p (by omega)
      have b1 := hsq p (by omega)
      unfold fb_X12_takesSeats_61
      rw [if_neg (nI_nle (by omega) (by omega)), nI_pred, if_pos (rt_in (n := 8) (by omega) (by decide)), nI_clamp (show p < 2 ^ 31 by omega), e1]
      by_cases c : sq p < v
      · rw [if_pos (nI_lt c (by omega))]
        refine Or.inr ⟨p + 1, M, rfl, hp, fun _ _ => rfl, hG, fun i hi => ?_⟩
        by_cases e : i = p
        · rw [e]; exact c
        · have := hS.1 i p (by omega) (by omega); omega
      · rw [if_neg (nI_nlt (by omega) (by omega))]
        by_cases c2 : sq p = v
        · rw [if_pos (show nI (sq p) = nI v by rw [c2])]
          exact Or.inl ⟨M, rfl, fun _ _ => rfl, p, by omega, c2⟩
        · rw [if_neg (fun q => c2 ((nI_eq (by omega) (by omega)).mp q)), if_pos (rt_in (n := 8) (by omega) (by decide)), nI_clamp (show p + 1 < 2 ^ 31 by omega), ro_lt, ro_lt]
          rcases hih (ro_set M 247 (p + 1) (nI (sq p))) (by omega) (by omega) (by
            rw [ro_set_same]
            refine ⟨fun j hj => by rw [pk_un (by omega)]; exact hG.1 j (by omega), fun j hj hj2 => ?_, fun j hj hj2 => ?_⟩
            · by_cases e : j = p
              · rw [e, pk_us]
              · rw [pk_un (by omega)]; exact hG.2.1 j (by omega) hj2
            · by_cases e : j = p
              · rw [e]; omega
              · exact hG.2.2 j (by omega) hj2) with ⟨M', x1, x2, x3⟩ | ⟨p', M', x1, x2, x3, x4, x5⟩
          · exact Or.inl ⟨M', x1, fun o ho => by rw [x2 o ho, ro_set_ne _ _ _ ho], x3⟩
          · exact Or.inr ⟨p', M', x1, x2, fun o ho => by rw [x3 o ho, ro_set_ne _ _ _ ho], x4, x5⟩
theorem rt_takesSeats {V m : ro_Mem} {N a G : Nat} {S : Nat → Nat} {n : Nat} (hw : Wd V N) (ha : a < 4) (hG : G < 1024) (h216 : m 216 = V 216) (h2072 : m 207 2 = V 207 2) (hn : n ≤ 8) (h217 : ∀ t, t < n → (m 217 t &&& 255) = nI (S t) ∧ S t < 256) : ∃ M, (∀ o, ¬ o = 247 → M o = m o) ∧ ((∃ t, t < n ∧ (bd_ S t || tk_ V a G (S t)) = true ∧ fn_X12_takesSeats (nI a) (nI G) (nI n) m = some (0, M)) ∨ ((∀ t, t < n → (bd_ S t || tk_ V a G (S t)) = false) ∧ fn_X12_takesSeats (nI a) (nI G) (nI n) m = some (1, M) ∧ (∀ j, j < n → M 247 j = nI (sq_ S n j)))) := by
  have key := rt_findQ (b := fun rec (s : Int32 × ro_Mem) => fb_X12_takesSeats_3 (nI a) (nI G) (nI n) rec s.1 s.2) (fun t => bd_ S t || tk_ V a G (S t)) n (fun k M => (∀ o, ¬ o = 247 → M o = m o) ∧ (∀ j, j < k → M 247 j = nI (sq_ S k j)) ∧ Sd S (sq_ S k) k) (fun x => ∃ M, (x = Sum.inl M ∨ x = Sum.inr (Sum.inl M) ∨ x = Sum.inr (Sum.inr (Sum.inl M))) ∧ ∀ o, ¬ o = 247 → M o = m o) (fun M => (Sum.inr (Sum.inr (Sum.inr M)) : ro_Mem ⊕ (ro_Mem ⊕ (ro_Mem ⊕ ro_Mem)))) (fun k hk rec M hP hno => by
    obtain ⟨p1, p3, p4⟩ := hP
    obtain ⟨z1, z2⟩ := h217 k hk
    have hGv : iv_G (V 10) (V 11) (V 215) (M 216) (V 2 11) (M 207 2) := by
      rw [p1 216 (by decide), p1 207 (by decide), h216, h2072]
      exact hw.1.2.2.2.2.2.1
    -- what the rest does
    have rest : S k < 96 → ((∃ i, i < k ∧ S i = S k) → ∃ M', (∀ o, ¬ o = 247 → M' o = m o) ∧ fj_X12_takesSeats_57 rec (nI a) (nI G) (nI n) (nI k) (nI (S k)) M = some (Sum.inr (Sum.inr (Sum.inl M')))) ∧ (bd_ S k = false → ∃ M', ((∀ o, ¬ o = 247 → M' o = m o) ∧ (∀ j, j < k + 1 → M' 247 j = nI (sq_ S (k + 1) j)) ∧ Sd S (sq_ S (k + 1)) (k + 1)) ∧ fj_X12_takesSeats_57 rec (nI a) (nI G) (nI n) (nI k) (nI (S k)) M = rec (nI (k + 1), M')) := by
      intro h96
      have hx := rt_takeInM (v1 := nI a) (v2 := nI G) (v3 := nI n) (v4 := nI k) (show k < 8 by omega) z2 p4 (fun t ht => (h217 t (by omega)).2) k ro_FU M (Nat.le_refl _) (Nat.lt_of_lt_of_le hk (Nat.le_trans hn (by decide))) ⟨p3, fun j h1 h2 => absurd h2 (by omega), fun j h1 h2 => absurd h2 (by omega)⟩
      unfold fj_X12_takesSeats_57
      rcases hx with ⟨M', x1, x2, i, x3, x4⟩ | ⟨p', M', x1, x2, x3, x4, x5⟩
      · have x1 : fl_X12_takesSeats_61 (nI a) (nI G) (nI n) (nI k) (nI (S k)) (nI k, M) = some (.inl M') := x1
        rw [x1, Option.bind_some]
        refine ⟨fun _ => ⟨M', fun o ho => by rw [x2 o ho, p1 o ho], rfl⟩, fun hb => ?_⟩
        obtain ⟨t, u1, u2⟩ := p4.2.1 i x3
        exact absurd (by omega) ((bd_f hb).2 t u1)
      · have x1 : fl_X12_takesSeats_61 (nI a) (nI G) (nI n) (nI k) (nI (S k)) (nI k, M) = some (.inr (nI p', M')) := x1
        rw [x1, Option.bind_some]
        refine ⟨?_, fun hb => ?_⟩
        · rintro ⟨i, i1, i2⟩
          obtain ⟨q, q1, q2⟩ := p4.2.2 i i1
          exfalso
          rcases Nat.lt_or_ge q p' with h | h
          · have := x5 q h; omega
          · have := x4.2.2 q h q1; omega
        · show ∃ M'', _ ∧ fj_X12_takesSeats_121 rec (nI a) (nI G) (nI n) (nI k) (nI (S k)) (nI p') M' = _
          unfold fj_X12_takesSeats_121
          rw [if_pos (rt_in (n := 8) (by omega) (by decide)), nI_clamp (show p' < 2 ^ 31 by omega), ro_lt, nI_1]
          refine ⟨_, ⟨fun o ho => by rw [ro_set_ne _ _ _ ho, x3 o ho, p1 o ho], fun j hj => ?_, ?_⟩, rfl⟩
          · rw [ro_set_same]
            exact x4.done x2 x5 j hj
          · have e : sq_ S (k + 1) = fun j => if j < p' then sq_ S k j else if j = p' then S k else sq_ S k (j - 1) := by
              show is_ (sq_ S k) k (S k) = _
              unfold is_
              rw [ps_eq x2 x5 x4.2.2]
            rw [e]
            exact p4.ins x2 x5 x4.2.2
    have f1 : S k < 96 → fb_X12_takesSeats_3 (nI a) (nI G) (nI n) rec (nI k) M = if tk_ V a G (S k) = true then some (.inr (.inl M)) else fj_X12_takesSeats_57 rec (nI a) (nI G) (nI n) (nI k) (nI (S k)) M := fun h96 => by
      unfold fb_X12_takesSeats_3
      rw [if_neg (nI_ge hk (by omega)), if_pos (rt_in (n := 220) (by omega) (by decide)), nI_clamp (show k < 2 ^ 31 by omega), p1 217 (by decide), z1, ro_lt, if_pos (show nI (S k) < 96 from nI_lt (b := 96) h96 (by decide)), rt_whoOn hGv ha h96, Option.bind_some]
      unfold tk_
      show (if sp_wv (who_ V a (S k)) = -1 then _ else ((fn_X12_has (nI G) (sp_wv (who_ V a (S k)))).bind _)) = _
      cases hwho : who_ V a (S k) with
      | none =>
        show (if (-1 : Int32) = -1 then _ else _) = (if false = true then _ else _)
        rw [if_pos rfl, if_neg (by decide)]
      | some g =>
        obtain ⟨h1, -⟩ := hw.who_some ha h96 hwho
        show (if nI g = -1 then _ else ((fn_X12_has (nI G) (nI g)).bind _)) = (if decide (G / 2 ^ g % 2 = 0) = true then _ else _)
        rw [if_neg (rt_m1 (by omega)), rt_has (by omega) (by omega), Option.bind_some]
        by_cases c : G / 2 ^ g % 2 = 0
        · rw [if_pos (show nI (G / 2 ^ g % 2) = 0 by rw [c]; rfl), if_pos (decide_eq_true c)]
        · rw [if_neg (nI_ne0 (by omega) (by omega)), if_neg (by simpa using c)]
    have f0 : ¬ S k < 96 → fb_X12_takesSeats_3 (nI a) (nI G) (nI n) rec (nI k) M = some (.inl M) := fun h96 => by
      unfold fb_X12_takesSeats_3
      rw [if_neg (nI_ge hk (by omega)), if_pos (rt_in (n := 220) (by omega) (by decide)), nI_clamp (show k < 2 ^ 31 by omega), p1 217 (by decide), z1, ro_lt, if_neg (show ¬ nI (S k) < 96 from nI_nlt (b := 96) (by omega) (by omega))]
    refine ⟨fun hb => ?_, fun hb => ?_⟩
    · show ∃ x, _ ∧ fb_X12_takesSeats_3 (nI a) (nI G) (nI n) rec (nI k) M = some x
      by_cases h96 : S k < 96
      · rw [f1 h96]
        by_cases ct : tk_ V a G (S k) = true
        · rw [if_pos ct]
          exact ⟨_, ⟨M, Or.inr (Or.inl rfl), p1⟩, rfl⟩
        · rw [if_neg ct]
          have hbd : bd_ S k = true := by
            cases hq : bd_ S k with
            | true => rfl
            | false =>
              have hb : (bd_ S k || tk_ V a G (S k)) = true := hb
              rw [hq] at hb
              exact absurd hb (by simpa using ct)
          have hex : ∃ i, i < k ∧ S i = S k := by
            refine Classical.byContradiction (fun hno => ?_)
            have : bd_ S k = false := by
              unfold bd_
              rw [decide_eq_false (show ¬ 96 ≤ S k by omega), decide_eq_true (show ∀ i, i < k → ¬ S i = S k from fun i hi hq => hno ⟨i, hi, hq⟩)]
              rfl
            rw [this] at hbd; cases hbd
          obtain ⟨M', y1, y2⟩ := (rest h96).1 hex
          exact ⟨_, ⟨M', Or.inr (Or.inr rfl), y1⟩, y2⟩
      · exact ⟨_, ⟨M, Or.inl rfl, p1⟩, f0 h96⟩
    · obtain ⟨hb1, hb2⟩ := Bool.or_eq_false_iff.mp hb
      have h96 := (bd_f hb1).1
      obtain ⟨M', y1, y2⟩ := (rest h96).2 hb1
      refine ⟨M', y1, ?_⟩
      show fb_X12_takesSeats_3 (nI a) (nI G) (nI n) rec (nI k) M = _
      rw [f1 h96, if_neg (by rw [hb2]; decide), y2]) (fun rec M _ => by
    show fb_X12_takesSeats_3 (nI a) (nI G) (nI n) rec (nI n) M = _
    unfold fb_X12_takesSeats_3
    rw [if_pos (Int32.le_refl _)]) ro_FU (Nat.lt_of_le_of_lt hn (by decide)) m ⟨fun _ _ => rfl, fun j h => absurd h (by omega), fun i j _ h => absurd h (by omega), fun i h => absurd h (by omega), fun t h => absurd h (by omega)⟩
  rcases key with ⟨t, x, l1, l2, ⟨M, l5, l3⟩, l4⟩ | ⟨l1, M, l2, l3⟩
  · have l4 : fl_X12_takesSeats_3 (nI a) (nI G) (nI n) (0, m) = some x := l4
    refine ⟨M, l3, Or.inl ⟨t, l1, l2, ?_⟩⟩
    unfold fn_X12_takesSeats
    rw [l4, Option.bind_some]
    rcases l5 with rfl | rfl | rfl <;> rfl
  · have l3 : fl_X12_takesSeats_3 (nI a) (nI G) (nI n) (0, m) = some (Sum.inr (Sum.inr (Sum.inr M))) := l3
    refine ⟨M, l2.1, Or.inr ⟨l1, ?_, l2.2.1⟩⟩
    unfold fn_X12_takesSeats
    rw [l3, Option.bind_some]
    rfl
