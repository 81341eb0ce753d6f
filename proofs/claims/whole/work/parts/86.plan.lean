-- ===== the best seating, as it is meant =====
def mq_ (p : Nat → Bool) (f : Nat → Nat) : Nat → Nat
  | 0 => 1000000000
  | q + 1 => if p q = true then min (mq_ p f q) (f q) else mq_ p f q
theorem mq_le {p : Nat → Bool} {f : Nat → Nat} : ∀ n, mq_ p f n ≤ 1000000000 ∧ ∀ q, q < n → p q = true → mq_ p f n ≤ f q := by
  intro n
  induction n with
  | zero => exact ⟨Nat.le_refl _, fun q h => absurd h (by omega)⟩
  | succ n ih =>
    unfold mq_
    by_cases c : p n = true
    · rw [if_pos c]
      refine ⟨by have := ih.1; omega, fun q hq hp => ?_⟩
      by_cases e : q = n
      · rw [e]; omega
      · have := ih.2 q (by omega) hp; omega
    · rw [if_neg c]
      refine ⟨ih.1, fun q hq hp => ?_⟩
      by_cases e : q = n
      · rw [e] at hp; exact absurd hp c
      · exact ih.2 q (by omega) hp
theorem mq_eq {p : Nat → Bool} {f : Nat → Nat} {n b : Nat} (hb : b < n) (hp : p b = true) (hm : ∀ q, q < n → p q = true → f b ≤ f q) (hF : f b ≤ 1000000000) : mq_ p f n = f b := by
  have h1 := (mq_le (p := p) (f := f) n).2 b hb hp
  have h2 : f b ≤ mq_ p f n := by
    have key : ∀ k, k ≤ n → f b ≤ mq_ p f k := by
      intro k
      induction k with
      | zero => intro _; exact hF
      | succ k ih =>
        intro hk
        unfold mq_
        by_cases c : p k = true
        · rw [if_pos c]; have := ih (by omega); have := hm k (by omega) c; omega
        · rw [if_neg c]; exact ih (by omega)
    exact key n (Nat.le_refl _)
  omega
def fr_ (S q : Nat) : Bool := decide (S / 2 ^ q % 2 = 0)
/-- the least for the last d guests, when the seats of S are taken -/
def cd_ (n : Nat) (rk wt : Nat → Nat) : Nat → Nat → Nat
  | 0, _ => 0
  | d + 1, S => mq_ (fr_ S) (fun q => rk (n - (d + 1)) * wt q + cd_ n rk wt d (S ||| 2 ^ q)) n
def co_ (n : Nat) (rk wt : Nat → Nat) (d S q : Nat) : Nat := rk (n - (d + 1)) * wt q + cd_ n rk wt d (S ||| 2 ^ q)
theorem cd_s {n : Nat} {rk wt : Nat → Nat} {d S : Nat} : cd_ n rk wt (d + 1) S = mq_ (fr_ S) (co_ n rk wt d S) n := rfl
/-- the first of the best seats -/
def fe_ (n : Nat) (rk wt : Nat → Nat) (d S : Nat) : Nat := match sp_first (fun q => fr_ S q && decide (co_ n rk wt d S q = cd_ n rk wt (d + 1) S)) n 0 with
  | none => 0
  | some q => q
theorem or_bit {S q j : Nat} (h : S / 2 ^ q % 2 = 0) : (S ||| 2 ^ q) / 2 ^ j % 2 = S / 2 ^ j % 2 + (if j = q then 1 else 0) := by
  rw [bit_tb, bit_tb, Nat.testBit_or, Nat.testBit_two_pow]
  by_cases e : j = q
  · subst e
    rw [bit_tb] at h
    by_cases c : S.testBit j = true
    · rw [if_pos c] at h; omega
    · simp [c]
  · have : ¬ q = j := fun x => e x.symm
    simp [e, this]
theorem or_cn {S q : Nat} (hq : q < 16) (h : S / 2 ^ q % 2 = 0) : cn_ (S ||| 2 ^ q) = cn_ S + 1 := by
  unfold cn_
  exact sp_sum_one hq (fun j _ => or_bit h)
theorem or_lt {S q n : Nat} (hS : S < 2 ^ n) (hq : q < n) : S ||| 2 ^ q < 2 ^ n := Nat.or_lt_two_pow hS (Nat.pow_lt_pow_right (by decide) hq)
theorem cn_n {S n : Nat} (hn : n ≤ 16) (hS : S < 2 ^ n) : cn_ S ≤ n ∧ (cn_ S < n → ∃ q, q < n ∧ S / 2 ^ q % 2 = 0) := by
  have e : cn_ S = sp_sum (fun k => S / 2 ^ k % 2) n := by
    unfold cn_
    obtain ⟨d, hd⟩ : ∃ d, 16 = n + d := ⟨16 - n, by omega⟩
    rw [hd, sp_sum_app, sp_sum_zero (f := fun i => S / 2 ^ (n + i) % 2) (fun i _ => bit_hi hS (by omega))]
    rfl
  refine ⟨?_, fun h => ?_⟩
  · rw [e]
    have := sp_sum_bd (f := fun k => S / 2 ^ k % 2) (c := 1) (n := n) (fun k _ => by show S / 2 ^ k % 2 ≤ 1; omega)
    omega
  · refine Classical.byContradiction (fun hno => ?_)
    have : sp_sum (fun k => S / 2 ^ k % 2) n = sp_sum (fun _ => 1) n := sp_sum_cg (fun k hk => by
      have : ¬ S / 2 ^ k % 2 = 0 := fun q => hno ⟨k, hk, q⟩
      show S / 2 ^ k % 2 = 1
      omega)
    rw [this, sp_sum_const] at e
    omega
section
variable {n : Nat} {rk wt : Nat → Nat}
theorem cd_far : ∀ d S, cd_ n rk wt d S ≤ 1000000000 := by
  intro d S
  cases d with
  | zero => exact Nat.zero_le _
  | succ d => exact (mq_le n).1
theorem cd_le (hn : n ≤ 8) (hr : ∀ h, h < n → rk h ≤ 99) (hw : ∀ q, q < n → wt q ≤ 50688) : ∀ d S, d ≤ n → S < 2 ^ n → cn_ S + d = n → cd_ n rk wt d S ≤ d * 5018112 := by
  intro d
  induction d with
  | zero => intro S _ _ _; exact Nat.zero_le _
  | succ d ih =>
    intro S hd hS hc
    obtain ⟨q, q1, q2⟩ := (cn_n (by omega) hS).2 (by omega)
    have h1 := (mq_le (p := fr_ S) (f := co_ n rk wt d S) n).2 q q1 (decide_eq_true q2)
    have h2 := ih (S ||| 2 ^ q) (by omega) (or_lt hS q1) (by rw [or_cn (by omega) q2]; omega)
    have h3 : rk (n - (d + 1)) * wt q ≤ 99 * 50688 := Nat.mul_le_mul (hr _ (by omega)) (hw q q1)
    rw [cd_s]
    unfold co_ at h1
    rw [Nat.succ_mul]
    unfold co_
    omega
theorem co_le (hn : n ≤ 8) (hr : ∀ h, h < n → rk h ≤ 99) (hw : ∀ q, q < n → wt q ≤ 50688) {d S q : Nat} (hd : d < n) (hq : q < n) : co_ n rk wt d S q < 2 ^ 30 := by
  unfold co_
  have h1 := cd_far (n := n) (rk := rk) (wt := wt) d (S ||| 2 ^ q)
  have h3 : rk (n - (d + 1)) * wt q ≤ 99 * 50688 := Nat.mul_le_mul (hr _ (by omega)) (hw q hq)
  omega
/-- the place that is best, and ahead of which none is as good -/
theorem fe_eq (hn : n ≤ 8) (hr : ∀ h, h < n → rk h ≤ 99) (hw : ∀ q, q < n → wt q ≤ 50688) {d S b : Nat} (hd : d < n) (hS : S < 2 ^ n) (hc : cn_ S + (d + 1) = n) (hb : b < n) (hu : S / 2 ^ b % 2 = 0) (hm : ∀ q, q < n → S / 2 ^ q % 2 = 0 → co_ n rk wt d S b ≤ co_ n rk wt d S q) (hl : ∀ q, q < b → S / 2 ^ q % 2 = 0 → co_ n rk wt d S b < co_ n rk wt d S q) : fe_ n rk wt d S = b ∧ cd_ n rk wt (d + 1) S = co_ n rk wt d S b := by
  have h2 := cd_le hn hr hw d (S ||| 2 ^ b) (by omega) (or_lt hS hb) (by rw [or_cn (by omega) hu]; omega)
  have h3 : rk (n - (d + 1)) * wt b ≤ 99 * 50688 := Nat.mul_le_mul (hr _ (by omega)) (hw b hb)
  have h4 : d * 5018112 ≤ 8 * 5018112 := Nat.mul_le_mul_right _ (by omega)
  have hF : co_ n rk wt d S b ≤ 1000000000 := by unfold co_; omega
  have e : cd_ n rk wt (d + 1) S = co_ n rk wt d S b := by
    rw [cd_s]
    exact mq_eq hb (decide_eq_true hu) (fun q hq hp => hm q hq (of_decide_eq_true hp)) hF
  refine ⟨?_, e⟩
  unfold fe_
  rw [e]
  cases ef : sp_first (fun q => fr_ S q && decide (co_ n rk wt d S q = co_ n rk wt d S b)) n 0 with
  | none =>
    have := sp_first_none ef b (by omega) (by omega)
    have hx : (fr_ S b && decide (co_ n rk wt d S b = co_ n rk wt d S b)) = true := by
      rw [show fr_ S b = true from decide_eq_true hu, decide_eq_true rfl]; rfl
    rw [hx] at this
    cases this
  | some q =>
    obtain ⟨-, x2, x3, x4⟩ := sp_first_some ef
    obtain ⟨y1, y2⟩ := Bool.and_eq_true_iff.mp x3
    have y1 := of_decide_eq_true y1
    have y2 := of_decide_eq_true y2
    show q = b
    rcases Nat.lt_or_ge q b with z | z
    · have := hl q z y1; omega
    · rcases Nat.lt_or_ge b q with z2 | z2
      · have := x4 b (by omega) z2
        have hx : (fr_ S b && decide (co_ n rk wt d S b = co_ n rk wt d S b)) = true := by
          rw [show fr_ S b = true from decide_eq_true hu, decide_eq_true rfl]; rfl
        rw [hx] at this
        cases this
      · omega
theorem fe_ok (hn : n ≤ 8) (hr : ∀ h, h < n → rk h ≤ 99) (hw : ∀ q, q < n → wt q ≤ 50688) {d S : Nat} (hd : d < n) (hS : S < 2 ^ n) (hc : cn_ S + (d + 1) = n) : fe_ n rk wt d S < n ∧ S / 2 ^ (fe_ n rk wt d S) % 2 = 0 ∧ co_ n rk wt d S (fe_ n rk wt d S) = cd_ n rk wt (d + 1) S ∧ ∀ q, q < fe_ n rk wt d S → ¬ (S / 2 ^ q % 2 = 0 ∧ co_ n rk wt d S q = cd_ n rk wt (d + 1) S) := by
  -- there is a first best one
  have hex : ∀ k, k ≤ n → (∀ q, q < k → ¬ S / 2 ^ q % 2 = 0) ∨ ∃ b, b < k ∧ S / 2 ^ b % 2 = 0 ∧ (∀ q, q < k → S / 2 ^ q % 2 = 0 → co_ n rk wt d S b ≤ co_ n rk wt d S q) ∧ ∀ q, q < b → S / 2 ^ q % 2 = 0 → co_ n rk wt d S b < co_ n rk wt d S q := by
    intro k
    induction k with
    | zero => intro _; exact Or.inl (fun q h => absurd h (by omega))
    | succ k ih =>
      intro hk
      rcases ih (by omega) with h | ⟨b, b1, b2, b3, b4⟩
      · by_cases c : S / 2 ^ k % 2 = 0
        · refine Or.inr ⟨k, by omega, c, fun q hq hu => ?_, fun q hq hu => absurd hu (h q hq)⟩
          by_cases e : q = k
          · rw [e]; exact Nat.le_refl _
          · exact absurd hu (h q (by omega))
        · refine Or.inl (fun q hq => ?_)
          by_cases e : q = k
          · rw [e]; exact c
          · exact h q (by omega)
      · by_cases c : S / 2 ^ k % 2 = 0 ∧ co_ n rk wt d S k < co_ n rk wt d S b
        · refine Or.inr ⟨k, by omega, c.1, fun q hq hu => ?_, fun q hq hu => ?_⟩
          · by_cases e : q = k
            · rw [e]; exact Nat.le_refl _
            · have := b3 q (by omega) hu; omega
          · have := b3 q hq hu; omega
        · refine Or.inr ⟨b, by omega, b2, fun q hq hu => ?_, b4⟩
          by_cases e : q = k
          · rw [e] at hu ⊢
            rcases Nat.lt_or_ge (co_ n rk wt d S k) (co_ n rk wt d S b) with z | z
            · exact absurd ⟨hu, z⟩ c
            · exact z
          · exact b3 q (by omega) hu
  rcases hex n (Nat.le_refl _) with h | ⟨b, b1, b2, b3, b4⟩
  · obtain ⟨q, q1, q2⟩ := (cn_n (by omega) hS).2 (by omega)
    exact absurd q2 (h q q1)
  · obtain ⟨e1, e2⟩ := fe_eq hn hr hw hd hS hc b1 b2 b3 b4
    rw [e1]
    refine ⟨b1, b2, e2.symm, fun q hq => ?_⟩
    rintro ⟨u1, u2⟩
    have := b4 q hq u1
    omega
end
/-- the seats taken by the first h guests -/
def se_ (n : Nat) (rk wt : Nat → Nat) : Nat → Nat
  | 0 => 0
  | h + 1 => se_ n rk wt h ||| 2 ^ (fe_ n rk wt (n - 1 - h) (se_ n rk wt h))
def qe_ (n : Nat) (rk wt : Nat → Nat) (h : Nat) : Nat := fe_ n rk wt (n - 1 - h) (se_ n rk wt h)
theorem se_ok {n : Nat} {rk wt : Nat → Nat} (hn : n ≤ 8) (hr : ∀ h, h < n → rk h ≤ 99) (hw : ∀ q, q < n → wt q ≤ 50688) : ∀ h, h ≤ n → se_ n rk wt h < 2 ^ n ∧ cn_ (se_ n rk wt h) = h ∧ (h < n → qe_ n rk wt h < n ∧ se_ n rk wt h / 2 ^ (qe_ n rk wt h) % 2 = 0) ∧ ∀ j, j < h → se_ n rk wt h / 2 ^ (qe_ n rk wt j) % 2 = 1 := by
  intro h
  induction h with
  | zero =>
    intro _
    have h0 : se_ n rk wt 0 < 2 ^ n := Nat.two_pow_pos n
    have h1 : cn_ (se_ n rk wt 0) = 0 := (gq_0 (w := rk)).2
    refine ⟨h0, h1, fun hlt => ?_, fun j hj => absurd hj (by omega)⟩
    have := fe_ok hn hr hw (d := n - 1 - 0) (by omega) h0 (by omega)
    exact ⟨this.1, this.2.1⟩
  | succ h ih =>
    intro hh
    obtain ⟨a1, a2, a3, a4⟩ := ih (by omega)
    obtain ⟨b1, b2⟩ := a3 (by omega)
    have c1 : se_ n rk wt (h + 1) < 2 ^ n := or_lt a1 b1
    have c2 : cn_ (se_ n rk wt (h + 1)) = h + 1 := by
      have := or_cn (show qe_ n rk wt h < 16 by omega) b2
      rw [a2] at this
      exact this
    refine ⟨c1, c2, fun hlt => ?_, fun j hj => ?_⟩
    · have := fe_ok hn hr hw (d := n - 1 - (h + 1)) (by omega) c1 (by omega)
      exact ⟨this.1, this.2.1⟩
    · have e := or_bit (j := qe_ n rk wt j) b2
      show (se_ n rk wt h ||| 2 ^ (qe_ n rk wt h)) / 2 ^ (qe_ n rk wt j) % 2 = 1
      rw [e]
      by_cases ej : j = h
      · rw [ej, b2, if_pos rfl]
      · rw [a4 j (by omega), if_neg (fun q => by
          have := a4 j (by omega)
          rw [q] at this
          omega)]
theorem qe_inj {n : Nat} {rk wt : Nat → Nat} (hn : n ≤ 8) (hr : ∀ h, h < n → rk h ≤ 99) (hw : ∀ q, q < n → wt q ≤ 50688) {i j : Nat} (hij : i < j) (hj : j < n) : ¬ qe_ n rk wt i = qe_ n rk wt j := fun e => by
  obtain ⟨-, -, a3, a4⟩ := se_ok hn hr hw j (by omega)
  have := a4 i hij
  rw [e] at this
  have := (a3 hj).2
  omega
-- ===== the class's plan =====
/-- n guests; rk their ranks, wt how wet the seats are, L the least found so far -/
def CPl (n : Nat) (rk wt : Nat → Nat) (μ : ro_Mem) : Prop := μ 69 1 = nI n ∧ (∀ h, h < n → μ 74 h = nI (rk h) ∧ rk h ≤ 99) ∧ ∀ q, q < n → μ 75 q = nI (wt q) ∧ wt q ≤ 50688
theorem rt_costWith {n : Nat} {rk wt : Nat → Nat} {μ : ro_Mem} (hC : CPl n rk wt μ) (hn : n ≤ 8) {S q : Nat} (hS : S < 2 ^ n) (hq : q < n) : ∃ v, fn_X6_costWith (nI S) (nI q) μ = some v ∧ (S / 2 ^ q % 2 = 0 → cn_ S < n → μ 71 (S ||| 2 ^ q) = nI (cd_ n rk wt (n - 1 - cn_ S) (S ||| 2 ^ q)) → v = nI (co_ n rk wt (n - 1 - cn_ S) S q)) := by
  obtain ⟨c1, c2, c3⟩ := hC
  have hp : (2 : Nat) ^ n ≤ 2 ^ 8 := Nat.pow_le_pow_right (by decide) hn
  have hp8 : (2 : Nat) ^ 8 = 256 := rfl
  have hcn := (cn_n (by omega) hS).1
  have hor := or_lt hS hq
  refine ⟨μ 74 (min (cn_ S) 7) * nI (wt q) + μ 71 (S ||| 2 ^ q), ?_, ?_⟩
  · unfold fn_X6_costWith
    rw [rt_bitCount (by omega), Option.bind_some, show ro_mn (nI (cn_ S)) 7 = nI (min (cn_ S) 7) from rt_mnn (y := 7) (by omega) (by decide), ro_lt, if_pos (rt_in (n := 8) (by omega) (by decide)), if_pos (rt_in (n := 8) (by omega) (by decide)), rt_shl1 (by omega), fa_or, if_pos (rt_in (n := 256) (by omega) (by decide)), nI_clamp (show min (cn_ S) 7 < 2 ^ 31 by omega), nI_clamp (show q < 2 ^ 31 by omega), nI_clamp (show S ||| 2 ^ q < 2 ^ 31 by omega), (c3 q hq).1]
  · intro h0 hc hL
    rw [hL, Nat.min_eq_left (by omega), (c2 _ hc).1, pk_mul, nI_add]
    unfold co_
    rw [show n - (n - 1 - cn_ S + 1) = cn_ S by omega]
theorem rt_firstBest {n : Nat} {rk wt : Nat → Nat} {μ : ro_Mem} (hC : CPl n rk wt μ) (hn : n ≤ 8) {S : Nat} (hS : S < 2 ^ n) (hc : cn_ S < n) (hL : ∀ q, q < n → S / 2 ^ q % 2 = 0 → μ 71 (S ||| 2 ^ q) = nI (cd_ n rk wt (n - 1 - cn_ S) (S ||| 2 ^ q))) : fn_X6_firstBest (nI S) μ = some (nI (fe_ n rk wt (n - 1 - cn_ S) S)) := by
  have hC' := hC
  obtain ⟨c1, c2, c3⟩ := hC
  have hp : (2 : Nat) ^ n ≤ 2 ^ 8 := Nat.pow_le_pow_right (by decide) hn
  have hp8 : (2 : Nat) ^ 8 = 256 := rfl
  have hr : ∀ h, h < n → rk h ≤ 99 := fun h hh => (c2 h hh).2
  have hw : ∀ q, q < n → wt q ≤ 50688 := fun q hq => (c3 q hq).2
  obtain ⟨d, hd⟩ : ∃ d, d = n - 1 - cn_ S := ⟨_, rfl⟩
  rw [← hd] at hL ⊢
  have key : ∃ s : Int32 × Int32, ((s.1 = -1 ∧ ∀ q, q < n → ¬ S / 2 ^ q % 2 = 0) ∨ ∃ b, s.1 = nI b ∧ s.2 = nI (co_ n rk wt d S b) ∧ b < n ∧ S / 2 ^ b % 2 = 0 ∧ (∀ q, q < n → S / 2 ^ q % 2 = 0 → co_ n rk wt d S b ≤ co_ n rk wt d S q) ∧ ∀ q, q < b → S / 2 ^ q % 2 = 0 → co_ n rk wt d S b < co_ n rk wt d S q) ∧ fl_X6_firstBest_7 (nI S) μ (-1, 0, 0) = some s.1 := by
    unfold fl_X6_firstBest_7
    refine rt_cnt (fun k (s : Int32 × Int32) => (s.1, s.2, nI k)) (fun s => s.1) n (fun k s => (s.1 = -1 ∧ ∀ q, q < k → ¬ S / 2 ^ q % 2 = 0) ∨ ∃ b, s.1 = nI b ∧ s.2 = nI (co_ n rk wt d S b) ∧ b < k ∧ S / 2 ^ b % 2 = 0 ∧ (∀ q, q < k → S / 2 ^ q % 2 = 0 → co_ n rk wt d S b ≤ co_ n rk wt d S q) ∧ ∀ q, q < b → S / 2 ^ q % 2 = 0 → co_ n rk wt d S b < co_ n rk wt d S q) ?_ ?_ ro_FU (Nat.lt_of_le_of_lt hn (by decide)) (-1, 0) (Or.inl ⟨rfl, fun q h => absurd h (by omega)⟩)
    · intro k hk rec s hP
      show ∃ s' : Int32 × Int32, _ ∧ fb_X6_firstBest_7 (nI S) μ rec s.1 s.2 (nI k) = rec (s'.1, s'.2, nI (k + 1))
      obtain ⟨v, ev, hv⟩ := rt_costWith hC' hn hS hk
      have hck := co_le (S := S) hn hr hw (show d < n by omega) hk
      unfold fb_X6_firstBest_7
      rw [c1, if_neg (nI_ge hk (by omega)), ev, Option.bind_some, rt_shr1 (by omega) (by omega), nI_1]
      by_cases c : S / 2 ^ k % 2 = 0
      · have hv : v = nI (co_ n rk wt d S k) := by
          have := hv c hc (by rw [← hd]; exact hL k hk c)
          rw [← hd] at this
          exact this
        rw [if_pos (show nI (S / 2 ^ k % 2) = 0 by rw [c]; rfl)]
        rcases hP with ⟨p1, p2⟩ | ⟨b, p1, p2, p3, p4, p5, p6⟩
        · rw [if_pos p1]
          refine ⟨(nI k, v), Or.inr ⟨k, rfl, hv, by omega, c, fun q hq hu => ?_, fun q hq hu => absurd hu (p2 q hq)⟩, rfl⟩
          by_cases e : q = k
          · rw [e]; exact Nat.le_refl _
          · exact absurd hu (p2 q (by omega))
        · have hcb := co_le (S := S) hn hr hw (show d < n by omega) (show b < n by omega)
          rw [p1, if_neg (rt_m1 (by omega)), p2, hv]
          by_cases c2 : co_ n rk wt d S b ≤ co_ n rk wt d S k
          · rw [if_pos (nI_le c2 (by omega))]
            refine ⟨(nI b, nI (co_ n rk wt d S b)), Or.inr ⟨b, rfl, rfl, by omega, p4, fun q hq hu => ?_, p6⟩, rfl⟩
            by_cases e : q = k
            · rw [e]; exact c2
            · exact p5 q (by omega) hu
          · rw [if_neg (nI_ge (by omega) (by omega))]
            refine ⟨(nI k, nI (co_ n rk wt d S k)), Or.inr ⟨k, rfl, rfl, by omega, c, fun q hq hu => ?_, fun q hq hu => ?_⟩, rfl⟩
            · by_cases e : q = k
              · rw [e]; exact Nat.le_refl _
              · have := p5 q (by omega) hu; omega
            · have := p5 q hq hu; omega
      · rw [if_neg (nI_ne0 (by omega) (by omega))]
        refine ⟨s, ?_, rfl⟩
        rcases hP with ⟨p1, p2⟩ | ⟨b, p1, p2, p3, p4, p5, p6⟩
        · refine Or.inl ⟨p1, fun q hq => ?_⟩
          by_cases e : q = k
          · rw [e]; exact c
          · exact p2 q (by omega)
        · refine Or.inr ⟨b, p1, p2, by omega, p4, fun q hq hu => ?_, p6⟩
          by_cases e : q = k
          · rw [e] at hu; exact absurd hu c
          · exact p5 q (by omega) hu
    · intro rec s _
      show fb_X6_firstBest_7 (nI S) μ rec s.1 s.2 (nI n) = _
      unfold fb_X6_firstBest_7
      rw [c1, if_pos (Int32.le_refl _)]
  obtain ⟨s, hs, e⟩ := key
  unfold fn_X6_firstBest
  rw [e, Option.bind_some]
  rcases hs with ⟨-, h⟩ | ⟨b, p1, p2, p3, p4, p5, p6⟩
  · obtain ⟨q, q1, q2⟩ := (cn_n (by omega) hS).2 hc
    exact absurd q2 (h q q1)
  · rw [(fe_eq hn hr hw (show d < n by omega) hS (by omega) p3 p4 p5 p6).1, p1]
    unfold ro_mx
    by_cases c : (0 : Int32) < nI b
    · rw [if_pos c]
    · rw [if_neg c]
      congr 1
      exact (Int32.le_antisymm (Int32.not_lt.mp c) (nI_pos' (by omega))).symm
/-- the class's least, laid from the fullest on, and its choice -/
theorem rt_plan {n : Nat} {rk wt sq : Nat → Nat} {μ : ro_Mem} (hC : CPl n rk wt μ) (hn : n ≤ 8) (h1n : 1 ≤ n) (h70 : ∀ q, q < n → μ 70 q = nI (sq q)) : ∃ M, fj_X6_solve_89 μ = some M ∧ (∀ o, ¬ o = 71 → ¬ o = 73 → M o = μ o) ∧ M 71 0 = nI (cd_ n rk wt n 0) ∧ ∀ h, h < n → M 73 h = nI (sq (qe_ n rk wt h)) := by
  have hp : (2 : Nat) ^ n ≤ 2 ^ 8 := Nat.pow_le_pow_right (by decide) hn
  have hp8 : (2 : Nat) ^ 8 = 256 := rfl
  have hp2 : 2 ≤ (2 : Nat) ^ n := by
    have : (2 : Nat) ^ 1 ≤ 2 ^ n := Nat.pow_le_pow_right (by decide) h1n
    omega
  have hr : ∀ h, h < n → rk h ≤ 99 := fun h hh => (hC.2.1 h hh).2
  have hw : ∀ q, q < n → wt q ≤ 50688 := fun q hq => (hC.2.2 q hq).2
  have hCM : ∀ M : ro_Mem, (∀ o, ¬ o = 71 → ¬ o = 73 → M o = μ o) → CPl n rk wt M := fun M h => by
    obtain ⟨c1, c2, c3⟩ := hC
    refine ⟨by rw [h 69 (by decide) (by decide)]; exact c1, fun i hi => by rw [h 74 (by decide) (by decide)]; exact c2 i hi, fun q hq => by rw [h 75 (by decide) (by decide)]; exact c3 q hq⟩
  have hfull : ∀ S, S < 2 ^ n → S + 1 = 2 ^ n → cn_ S = n := fun S hS he => by
    rcases Nat.lt_or_ge (cn_ S) n with q | q
    · obtain ⟨j, j1, j2⟩ := (cn_n (by omega) hS).2 q
      have := or_lt hS j1
      have hle : S ≤ S ||| 2 ^ j := Nat.left_le_or
      have : S ||| 2 ^ j = S := by omega
      have e := or_bit (j := j) j2
      rw [this, if_pos rfl] at e
      omega
    · have := (cn_n (by omega) hS).1; omega
  have hpart : ∀ S, S + 1 < 2 ^ n → cn_ S < n := fun S hS => by
    rcases Nat.lt_or_ge (cn_ S) n with q | q
    · exact q
    · exfalso
      have h1 := (cn_n (n := n) (S := S) (by omega) (by omega)).1
      -- all bits are there, so S is the greatest
      have hall : ∀ k, k < n → S / 2 ^ k % 2 = 1 := fun k hk => by
        have : ¬ S / 2 ^ k % 2 = 0 := fun z => by
          have e1 := or_cn (show k < 16 by omega) z
          have e2 := (cn_n (n := n) (S := S ||| 2 ^ k) (by omega) (or_lt (by omega) hk)).1
          omega
        omega
      have : (2 ^ n - 1) ≤ S := by
        apply Nat.le_of_testBit
        intro i hi
        rw [Nat.testBit_two_pow_sub_one] at hi
        have hi := of_decide_eq_true hi
        have := hall i hi
        rw [bit_tb] at this
        by_cases c : S.testBit i = true
        · exact c
        · rw [if_neg c] at this; omega
      omega
  obtain ⟨c1, -, -⟩ := hC
  unfold fj_X6_solve_89
  rw [c1, rt_shl1 (by omega), show nI (2 ^ n) - 1 = nI (2 ^ n - 1) from pk_sub (b := 1) (by omega), ro_lt, if_pos (rt_in (n := 256) (by omega) (by decide)), nI_clamp (show 2 ^ n - 1 < 2 ^ 31 by omega), ro_lt, show nI (2 ^ n - 1) - 1 = nI (2 ^ n - 2) from pk_sub (b := 1) (by omega), ro_lt]
  -- from the fullest on
  have l113 : ∀ S fuel (M : ro_Mem), S < 2 ^ n → S < fuel → (∀ o, ¬ o = 71 → ¬ o = 73 → M o = μ o) → (∀ T, S < T + 1 → T < 2 ^ n → M 71 T = nI (cd_ n rk wt (n - cn_ T) T)) → ∃ M', ro_loop (fun rec (s : Int32 × ro_Mem) => fb_X6_solve_113 rec s.1 s.2) fuel ((if S = 0 then -1 else nI (S - 1)), M) = some M' ∧ (∀ o, ¬ o = 71 → ¬ o = 73 → M' o = μ o) ∧ ∀ T, T < 2 ^ n → M' 71 T = nI (cd_ n rk wt (n - cn_ T) T) := by
    intro S
    induction S with
    | zero =>
      intro fuel M _ hf hM hT
      cases fuel with
      | zero => omega
      | succ f =>
        refine ⟨M, ?_, hM, fun T hT2 => hT T (by omega) hT2⟩
        show fb_X6_solve_113 _ (if 0 = 0 then -1 else nI (0 - 1)) M = _
        unfold fb_X6_solve_113
        rw [if_pos rfl, if_pos (show (-1 : Int32) < 0 by decide)]
    | succ S ih =>
      intro fuel M hS hf hM hT
      cases fuel with
      | zero => omega
      | succ f =>
        have hcS := hpart S (by omega)
        have hih := ih f
        show ∃ M', fb_X6_solve_113 (ro_loop (fun rec (s : Int32 × ro_Mem) => fb_X6_solve_113 rec s.1 s.2) f) (if S + 1 = 0 then -1 else nI (S + 1 - 1)) M = _ ∧ _
        generalize ro_loop (fun rec (s : Int32 × ro_Mem) => fb_X6_solve_113 rec s.1 s.2) f = R at hih ⊢
        rw [if_neg (by omega), Nat.add_sub_cancel]
        have hL : ∀ q, q < n → S / 2 ^ q % 2 = 0 → M 71 (S ||| 2 ^ q) = nI (cd_ n rk wt (n - 1 - cn_ S) (S ||| 2 ^ q)) := fun q hq hu => by
          have hle : S ≤ S ||| 2 ^ q := Nat.left_le_or
          have hne : ¬ S ||| 2 ^ q = S := fun e => by
            have := or_bit (j := q) hu
            rw [e, if_pos rfl] at this
            omega
          have := hT (S ||| 2 ^ q) (by omega) (or_lt (by omega) hq)
          rw [or_cn (by omega) hu, show n - (cn_ S + 1) = n - 1 - cn_ S by omega] at this
          exact this
        have hfb := rt_firstBest (hCM M hM) hn (show S < 2 ^ n by omega) hcS hL
        obtain ⟨k1, k2, k3, -⟩ := fe_ok hn hr hw (d := n - 1 - cn_ S) (S := S) (by omega) (by omega) (by omega)
        obtain ⟨v, ev, hv⟩ := rt_costWith (hCM M hM) hn (show S < 2 ^ n by omega) k1
        have hv := hv k2 hcS (hL _ k1 k2)
        rw [k3, show n - 1 - cn_ S + 1 = n - cn_ S by omega] at hv
        unfold fb_X6_solve_113
        rw [if_neg (nI_pos (by omega)), hfb, Option.bind_some, ev, Option.bind_some, if_pos (rt_in (n := 256) (by omega) (by decide)), nI_clamp (show S < 2 ^ 31 by omega), hv, ro_lt]
        have hst : nI S + -1 = if S = 0 then -1 else nI (S - 1) := by
          by_cases c : S = 0
          · rw [if_pos c, c]; rfl
          · rw [if_neg c]
            obtain ⟨x, rfl⟩ : ∃ x, S = x + 1 := ⟨S - 1, by omega⟩
            rw [pk_m1, Nat.add_sub_cancel]
        rw [hst]
        refine hih _ (by omega) (by omega) (fun o h1 h2 => by rw [ro_set_ne _ _ _ h1]; exact hM o h1 h2) (fun T h1 h2 => ?_)
        rw [ro_set_same]
        by_cases e : T = S
        · rw [e, pk_us]
        · rw [pk_un e]; exact hT T (by omega) h2
  have s113 := l113 (2 ^ n - 1) ro_FU (ro_set μ 71 (2 ^ n - 1) 0) (by omega) (Nat.lt_of_le_of_lt (show 2 ^ n - 1 ≤ 256 by omega) (by decide)) (fun o h1 _ => ro_set_ne _ _ _ h1) (fun T h1 h2 => by
    have : T = 2 ^ n - 1 := by omega
    rw [this, ro_set_same, pk_us, hfull (2 ^ n - 1) (by omega) (by omega), Nat.sub_self]
    rfl)
  rw [if_neg (show ¬ 2 ^ n - 1 = 0 by omega), show 2 ^ n - 1 - 1 = 2 ^ n - 2 by omega] at s113
  obtain ⟨M1, e1, f1, f2⟩ := s113
  have e1 : fl_X6_solve_113 (nI (2 ^ n - 2), ro_set μ 71 (2 ^ n - 1) 0) = some M1 := e1
  rw [e1, Option.bind_some]
  have l153 : ∃ M, ((∀ o, ¬ o = 73 → M o = M1 o) ∧ ∀ h, h < n → M 73 h = nI (sq (qe_ n rk wt h))) ∧ fl_X6_solve_153 (0, 0, M1) = some M := by
    unfold fl_X6_solve_153
    refine rt_cnt (fun h (M : ro_Mem) => (nI (se_ n rk wt h), nI h, M)) (fun M => M) n (fun h M => (∀ o, ¬ o = 73 → M o = M1 o) ∧ ∀ j, j < h → M 73 j = nI (sq (qe_ n rk wt j))) ?_ ?_ ro_FU (Nat.lt_of_le_of_lt hn (by decide)) M1 ⟨fun _ _ => rfl, fun j h => absurd h (by omega)⟩
    · intro h hh rec M hP
      obtain ⟨p1, p2⟩ := hP
      show ∃ s', _ ∧ fb_X6_solve_153 rec (nI (se_ n rk wt h)) (nI h) M = rec (nI (se_ n rk wt (h + 1)), nI (h + 1), s')
      obtain ⟨s1, s2, s3, -⟩ := se_ok hn hr hw h (by omega)
      obtain ⟨s4, s5⟩ := s3 hh
      have hMμ : ∀ o, ¬ o = 71 → ¬ o = 73 → M o = μ o := fun o h1 h2 => by rw [p1 o h2, f1 o h1 h2]
      have hfb := rt_firstBest (hCM M hMμ) hn s1 (by omega) (fun q hq hu => by
        rw [p1 71 (by decide), f2 _ (or_lt s1 hq), or_cn (by omega) hu]
        rw [show n - (cn_ (se_ n rk wt h) + 1) = n - 1 - cn_ (se_ n rk wt h) by omega])
      rw [s2] at hfb
      have hfb : fn_X6_firstBest (nI (se_ n rk wt h)) M = some (nI (qe_ n rk wt h)) := hfb
      unfold fb_X6_solve_153
      rw [hMμ 69 (by decide) (by decide), c1, if_neg (nI_ge hh (by omega)), hfb, Option.bind_some, if_pos (rt_in (n := 8) (by omega) (by decide)), if_pos (rt_in (n := 8) (by omega) (by decide)), nI_clamp (show qe_ n rk wt h < 2 ^ 31 by omega), nI_clamp (show h < 2 ^ 31 by omega), hMμ 70 (by decide) (by decide), h70 _ s4, ro_lt, rt_shl1 (by omega), fa_or, ro_lt, nI_1]
      refine ⟨_, ⟨fun o ho => by rw [ro_set_ne _ _ _ ho]; exact p1 o ho, fun j hj => ?_⟩, rfl⟩
      rw [ro_set_same]
      by_cases e : j = h
      · rw [e, pk_us]
      · rw [pk_un e]; exact p2 j (by omega)
    · intro rec M hP
      show fb_X6_solve_153 rec (nI (se_ n rk wt n)) (nI n) M = _
      unfold fb_X6_solve_153
      rw [hP.1 69 (by decide), f1 69 (by decide) (by decide), c1, if_pos (Int32.le_refl _)]
  obtain ⟨M, ⟨g1, g2⟩, e2⟩ := l153
  rw [e2, Option.bind_some]
  refine ⟨M, rfl, fun o h1 h2 => by rw [g1 o h2, f1 o h1 h2], ?_, g2⟩
  rw [g1 71 (by decide), f2 0 (by omega), (gq_0 (w := rk)).2, Nat.sub_zero]
