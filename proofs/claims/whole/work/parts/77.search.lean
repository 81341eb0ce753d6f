-- ===== sets of slates, as numbers =====
theorem bit_tb (S k : Nat) : S / 2 ^ k % 2 = if S.testBit k = true then 1 else 0 := by
  rw [Nat.testBit_eq_decide_div_mod_eq]
  by_cases c : S / 2 ^ k % 2 = 1
  · rw [if_pos (decide_eq_true c), c]
  · rw [if_neg (by simpa using c)]; omega
theorem bit_hi {S n k : Nat} (h : S < 2 ^ n) (hk : n ≤ k) : S / 2 ^ k % 2 = 0 := by
  have : S < 2 ^ k := Nat.lt_of_lt_of_le h (Nat.pow_le_pow_right (by decide) hk)
  rw [Nat.div_eq_of_lt this]
theorem bit_top {n T k : Nat} (h : T < 2 ^ n) : (2 ^ n + T) / 2 ^ k % 2 = T / 2 ^ k % 2 + (if k = n then 1 else 0) := by
  by_cases e : k = n
  · subst e
    rw [if_pos rfl, bit_hi h (Nat.le_refl _), Nat.add_div_left _ (Nat.two_pow_pos _), Nat.div_eq_of_lt h]
  · rw [if_neg e]
    rcases Nat.lt_or_gt_of_ne e with q | q
    · rw [bit_tb, bit_tb, Nat.testBit_two_pow_add_gt q]
      rfl
    · have h2 : 2 ^ n + T < 2 ^ (n + 1) := by rw [Nat.pow_succ]; omega
      rw [bit_hi h2 (by omega), bit_hi h (by omega)]
def gq_ (w : Nat → Nat) (S : Nat) : Nat := sp_sum (fun k => S / 2 ^ k % 2 * w k) 16
theorem gq_top {w : Nat → Nat} {n T : Nat} (hn : n < 16) (h : T < 2 ^ n) : gq_ w (2 ^ n + T) = gq_ w T + w n ∧ cn_ (2 ^ n + T) = cn_ T + 1 := by
  unfold gq_ cn_
  refine ⟨sp_sum_one hn (fun k _ => ?_), sp_sum_one hn (fun k _ => ?_)⟩
  · rw [bit_top h]
    by_cases e : k = n
    · rw [if_pos e, if_pos e, Nat.add_mul, Nat.one_mul, e]
    · rw [if_neg e, if_neg e]
      rfl
  · exact bit_top h
theorem gq_0 {w : Nat → Nat} : gq_ w 0 = 0 ∧ cn_ 0 = 0 := by
  unfold gq_ cn_
  refine ⟨sp_sum_zero (fun k _ => ?_), sp_sum_zero (fun k _ => ?_)⟩
  · rw [Nat.zero_div, Nat.zero_mod, Nat.zero_mul]
  · rw [Nat.zero_div, Nat.zero_mod]
theorem gq_tp {w : Nat → Nat} {n S c : Nat} (hn : n ≤ 16) (h : S < 2 ^ n) (hc : cn_ S ≤ c) : gq_ w S ≤ tp_ w n 0 c := by
  have hsp : ∀ f : Nat → Nat, (∀ k, n ≤ k → f k = 0) → sp_sum f 16 = sp_sum f n := fun f hf => by
    obtain ⟨d, hd⟩ : ∃ d, 16 = n + d := ⟨16 - n, by omega⟩
    rw [hd, sp_sum_app, sp_sum_zero (f := fun i => f (n + i)) (fun i _ => hf _ (by omega))]
    rfl
  have h1 := tp_fe (w := w) (χ := fun k => S / 2 ^ k % 2) (fun k => by show S / 2 ^ k % 2 ≤ 1; omega) n 0 c
  have e1 : sp_sum (fun i => (fun k => S / 2 ^ k % 2) (0 + i)) n = cn_ S := by
    unfold cn_
    rw [hsp (fun k => S / 2 ^ k % 2) (fun k hk => bit_hi h hk)]
    exact sp_sum_cg (fun i _ => by rw [Nat.zero_add])
  have e2 : sp_sum (fun i => (fun k => S / 2 ^ k % 2) (0 + i) * w (0 + i)) n = gq_ w S := by
    unfold gq_
    rw [hsp (fun k => S / 2 ^ k % 2 * w k) (fun k hk => by rw [bit_hi h hk, Nat.zero_mul])]
    exact sp_sum_cg (fun i _ => by rw [Nat.zero_add])
  rw [e1, e2] at h1
  exact h1 hc
/-- a set of the slates below, of so few, by which all needs are met -/
def Gd (n : Nat) (A : Nat → Nat) (w : Nat → Nat → Nat) (B : Nat → Nat) (below few S : Nat) : Prop := S < 2 ^ below ∧ cn_ S ≤ few ∧ ∀ r, r < n → A r ≤ B r + gq_ (w r) S
/-- the rows of the class's search: n of them; A what is needed, B what is met by now -/
def NW (n : Nat) (A : Nat → Nat) (w : Nat → Nat → Nat) (B : Nat → Nat) (μ : ro_Mem) : Prop := μ 76 2 = nI n ∧ n ≤ 40 ∧ ∀ r, r < n → μ 78 r = nI (A r) - nI (B r) ∧ A r < 2 ^ 20 ∧ (∀ k, k < 16 → μ (77 + 2 + 3 * r + 1) k = nI (w r k) ∧ w r k < 2 ^ 16) ∧ ∃ ord, So (w r) ord 16 (μ (77 + 2 + 3 * r + 2))
theorem NW.put {n : Nat} {A : Nat → Nat} {w : Nat → Nat → Nat} {B B' : Nat → Nat} {μ μ' : ro_Mem} (h : NW n A w B μ) (h1 : ∀ o, ¬ o = 76 → ¬ o = 78 → μ' o = μ o) (h2 : μ' 76 2 = μ 76 2) (h3 : ∀ r, r < n → μ' 78 r = nI (A r) - nI (B' r)) : NW n A w B' μ' := by
  obtain ⟨a1, a2, a3⟩ := h
  refine ⟨by rw [h2, a1], a2, fun r hr => ?_⟩
  obtain ⟨b1, b2, b3, b4⟩ := a3 r hr
  refine ⟨h3 r hr, b2, fun k hk => by rw [h1 _ (by omega) (by omega)]; exact b3 k hk, ?_⟩
  rw [h1 _ (by omega) (by omega)]
  exact b4
theorem rt_lenW : ∀ r, r < 40 → ro_len (77 + 2 + 3 * r + 1) = 16 ∧ ro_len (77 + 2 + 3 * r + 2) = 16 := by decide +kernel
theorem rt_sle {a b h : Nat} (ha : a < 2 ^ 28) (hb : b < 2 ^ 28) (hh : h < 2 ^ 28) : (nI a - nI b ≤ nI h) ↔ a ≤ b + h := by
  rw [fa_le, pk_sub_toInt (by omega) (by omega), nI_toInt (by omega)]
  omega
theorem rt_reach {n : Nat} {A : Nat → Nat} {w : Nat → Nat → Nat} {B : Nat → Nat} {μ : ro_Mem} (h : NW n A w B μ) {below few : Nat} (hb : below ≤ 16) (hf : few ≤ 16) (hB : ∀ r, r < n → B r ≤ 2 ^ 20) : ∃ b : Bool, fn_X4_isInReach (nI below) (nI few) μ = some (if b = true then 1 else 0) ∧ (b = true ↔ ∀ r, r < n → A r ≤ B r + tp_ (w r) below 0 few) := by
  obtain ⟨a1, a2, a3⟩ := h
  have htp : ∀ r, r < n → tp_ (w r) below 0 few < 2 ^ 21 := fun r hr => by
    obtain ⟨-, -, b3, -⟩ := a3 r hr
    have h1 := tp_ub (w := w r) 0 below 0 few
    rw [Nat.zero_mul, Nat.add_zero] at h1
    have h2 : sp_sum (fun i => w r (0 + i) - 0) below ≤ below * 2 ^ 16 := sp_sum_bd (fun i hi => by rw [Nat.zero_add]; have := (b3 i (by omega)).2; omega)
    have h3 : below * 2 ^ 16 ≤ 16 * 2 ^ 16 := Nat.mul_le_mul_right _ hb
    omega
  have key : fl_X4_isInReach_2 (nI below) (nI few) μ 0 = some (match sp_first (fun r => decide (¬ A r ≤ B r + tp_ (w r) below 0 few)) n 0 with
    | none => Sum.inr ()
    | some i => Sum.inl ()) := by
    unfold fl_X4_isInReach_2
    refine rt_find (fun r => decide (¬ A r ≤ B r + tp_ (w r) below 0 few)) n (fun i => (Sum.inl () : Unit ⊕ Unit)) (Sum.inr ()) ?_ ?_ ro_FU (Nat.lt_of_le_of_lt a2 (by decide))
    · intro r hr rec
      show fb_X4_isInReach_2 (nI below) (nI few) μ rec (nI r) = _
      obtain ⟨b1, b2, b3, ord, b4⟩ := a3 r hr
      have b5 := hB r hr
      have b6 := htp r hr
      obtain ⟨l1, l2⟩ := rt_lenW r (by omega)
      have hh := rt_heaviest (o0 := 77 + 2 + 3 * r) l1 l2 (by decide) (fun i hi => ⟨(b3 i hi).1, by have := (b3 i hi).2; omega⟩) b4 (lo := 0) (hi := below) (most := few) (by omega) hb (by omega)
      rw [Nat.sub_zero] at hh
      have hh : fn_X10_heaviest (77 + 2 + 3 * r) 0 (nI below) (nI few) μ = some (nI (tp_ (w r) below 0 few)) := hh
      unfold fb_X4_isInReach_2
      rw [a1, if_neg (nI_ge hr (by omega)), if_pos (rt_in (n := 40) (by omega) (by decide)), nI_clamp (show r < 2 ^ 31 by omega), b1, hh, Option.bind_some, nI_1]
      have s0 : (nI (A r) - nI (B r) ≤ 0) ↔ A r ≤ B r + 0 := rt_sle (h := 0) (by omega) (by omega) (by decide)
      have s1 := rt_sle (a := A r) (b := B r) (h := tp_ (w r) below 0 few) (by omega) (by omega) (by omega)
      by_cases c : A r ≤ B r + tp_ (w r) below 0 few
      · rw [if_neg (show ¬ decide (¬ A r ≤ B r + tp_ (w r) below 0 few) = true by simp [c])]
        by_cases c0 : A r ≤ B r + 0
        · rw [if_pos (s0.mpr c0)]
        · rw [if_neg (fun q => c0 (s0.mp q)), if_pos (s1.mpr c)]
      · rw [if_neg (show ¬ nI (A r) - nI (B r) ≤ 0 from fun q => c (by have := s0.mp q; omega)), if_neg (fun q => c (s1.mp q)), if_pos (decide_eq_true c)]
    · intro rec
      show fb_X4_isInReach_2 (nI below) (nI few) μ rec (nI n) = _
      unfold fb_X4_isInReach_2
      rw [a1, if_pos (Int32.le_refl _)]
  unfold fn_X4_isInReach
  rw [key, Option.bind_some]
  cases e : sp_first (fun r => decide (¬ A r ≤ B r + tp_ (w r) below 0 few)) n 0 with
  | none =>
    refine ⟨true, rfl, fun _ r hr => ?_, fun _ => rfl⟩
    have := sp_first_none e r (by omega) (by omega)
    exact Decidable.byContradiction (fun q => of_decide_eq_false this q)
  | some i =>
    obtain ⟨-, h2, h3, -⟩ := sp_first_some e
    refine ⟨false, rfl, fun q => absurd q (by decide), fun q => ?_⟩
    exact absurd (q i (by omega)) (of_decide_eq_true h3)
theorem rt_fillS {o n : Nat} {μ : ro_Mem} (v : Nat → Int32) (hn : n < 1000) {b : ((Int32 × ro_Mem) → Option ro_Mem) → (Int32 × ro_Mem) → Option ro_Mem} (hs : ∀ i, i < n → ∀ rec f, (∀ j, i ≤ j → f j = μ o j) → b rec (nI i, ro_arr μ o f) = rec (nI (i + 1), ro_arr μ o (upd f i (v i)))) (he : ∀ rec f, b rec (nI n, ro_arr μ o f) = some (ro_arr μ o f)) : ro_loop b ro_FU (0, μ) = some (ro_arr μ o (rt_mix v (μ o) n)) := by
  have h0 : ((0 : Int32), μ) = (fun i => (nI i, ro_arr μ o (rt_mix v (μ o) i))) 0 := by
    show _ = (nI 0, ro_arr μ o (rt_mix v (μ o) 0))
    have : rt_mix v (μ o) 0 = μ o := by
      funext j
      exact if_neg (by omega)
    rw [this, ro_arr_self]
    rfl
  rw [h0]
  refine rt_loop (fun i => (nI i, ro_arr μ o (rt_mix v (μ o) i))) n ?_ ?_ ro_FU (Nat.lt_trans hn (by decide))
  · intro i hi rec
    show b rec (nI i, ro_arr μ o (rt_mix v (μ o) i)) = rec (nI (i + 1), ro_arr μ o (rt_mix v (μ o) (i + 1)))
    rw [hs i hi rec (rt_mix v (μ o) i) (fun j hj => if_neg (by omega))]
    congr 3
    funext j
    unfold upd rt_mix
    by_cases e : j = i
    · rw [if_pos e, if_pos (by omega), e]
    · rw [if_neg e]
      by_cases h : j < i
      · rw [if_pos h, if_pos (by omega)]
      · rw [if_neg h, if_neg (by omega)]
  · intro rec
    exact he rec _
theorem rt_needs_sub {F : Int32 → Int32 → Int32 → ro_Mem → Option (Int32 × ro_Mem)} {n : Nat} {A : Nat → Nat} {w : Nat → Nat → Nat} {B : Nat → Nat} {μ : ro_Mem} (h : NW n A w B μ) {v2 v3 : Int32} {k : Nat} (hk : k < 16) : ∃ μ', fl_X4_search_47 F v2 v3 (nI k) (0, μ) = some μ' ∧ (∀ o, ¬ o = 78 → μ' o = μ o) ∧ NW n A w (fun r => B r + w r k) μ' := by
  obtain ⟨a1, a2, a3⟩ := h
  have l : fl_X4_search_47 F v2 v3 (nI k) (0, μ) = some (ro_arr μ 78 (rt_mix (fun r => nI (A r) - nI (B r + w r k)) (μ 78) n)) := by
    unfold fl_X4_search_47
    refine rt_fillS (fun r => nI (A r) - nI (B r + w r k)) (by omega) (fun r hr rec f hf => ?_) (fun rec f => ?_)
    · show fb_X4_search_47 F v2 v3 (nI k) rec (nI r) (ro_arr μ 78 f) = _
      obtain ⟨b1, b2, b3, -⟩ := a3 r hr
      unfold fb_X4_search_47
      rw [ro_arr_ne _ _ (show 76 ≠ 78 by decide), a1, if_neg (nI_ge hr (by omega)), if_pos (rt_in (n := 40) (by omega) (by decide)), nI_clamp (show r < 2 ^ 31 by omega), (rt_lenW r (by omega)).1, if_pos (rt_in hk (by decide)), nI_clamp (show k < 2 ^ 31 by omega), ro_arr_same, hf r (Nat.le_refl _), b1, ro_arr_ne _ _ (show 77 + 2 + 3 * r + 1 ≠ 78 by omega), (b3 k hk).1, Int32.sub_sub, nI_add, ro_arr_set, ro_lt, nI_1]
    · show fb_X4_search_47 F v2 v3 (nI k) rec (nI n) (ro_arr μ 78 f) = _
      unfold fb_X4_search_47
      rw [ro_arr_ne _ _ (show 76 ≠ 78 by decide), a1, if_pos (Int32.le_refl _)]
  refine ⟨_, l, fun o ho => ro_arr_ne _ _ ho, NW.put ⟨a1, a2, a3⟩ (fun o _ ho => ro_arr_ne _ _ ho) (by rw [ro_arr_ne _ _ (by decide)]) (fun r hr => by rw [ro_arr_same, rt_mix_lt hr])⟩
theorem rt_needs_add {F : Int32 → Int32 → Int32 → ro_Mem → Option (Int32 × ro_Mem)} {n : Nat} {A : Nat → Nat} {w : Nat → Nat → Nat} {B : Nat → Nat} {k : Nat} {μ : ro_Mem} (h : NW n A w (fun r => B r + w r k) μ) {v5 : Int32} (hk : k < 16) : ∃ μ', fl_X4_search_105 F (nI k) v5 (0, μ) = some μ' ∧ (∀ o, ¬ o = 78 → μ' o = μ o) ∧ NW n A w B μ' := by
  obtain ⟨a1, a2, a3⟩ := h
  have l : fl_X4_search_105 F (nI k) v5 (0, μ) = some (ro_arr μ 78 (rt_mix (fun r => nI (A r) - nI (B r)) (μ 78) n)) := by
    unfold fl_X4_search_105
    refine rt_fillS (fun r => nI (A r) - nI (B r)) (by omega) (fun r hr rec f hf => ?_) (fun rec f => ?_)
    · show fb_X4_search_105 F (nI k) v5 rec (nI r) (ro_arr μ 78 f) = _
      obtain ⟨b1, b2, b3, -⟩ := a3 r hr
      unfold fb_X4_search_105
      rw [ro_arr_ne _ _ (show 76 ≠ 78 by decide), a1, if_neg (nI_ge hr (by omega)), if_pos (rt_in (n := 40) (by omega) (by decide)), nI_clamp (show r < 2 ^ 31 by omega), (rt_lenW r (by omega)).1, if_pos (rt_in hk (by decide)), nI_clamp (show k < 2 ^ 31 by omega), ro_arr_same, hf r (Nat.le_refl _), b1, ro_arr_ne _ _ (show 77 + 2 + 3 * r + 1 ≠ 78 by omega), (b3 k hk).1, ← nI_add, ← Int32.sub_sub, Int32.sub_add_cancel, ro_arr_set, ro_lt, nI_1]
    · show fb_X4_search_105 F (nI k) v5 rec (nI n) (ro_arr μ 78 f) = _
      unfold fb_X4_search_105
      rw [ro_arr_ne _ _ (show 76 ≠ 78 by decide), a1, if_pos (Int32.le_refl _)]
  refine ⟨_, l, fun o ho => ro_arr_ne _ _ ho, NW.put ⟨a1, a2, a3⟩ (fun o _ ho => ro_arr_ne _ _ ho) (by rw [ro_arr_ne _ _ (by decide)]) (fun r hr => by rw [ro_arr_same, rt_mix_lt hr])⟩
/-- what a search may change -/
def SeF (n : Nat) (A : Nat → Nat) (w : Nat → Nat → Nat) (B : Nat → Nat) (μ μ' : ro_Mem) : Prop := (∀ o, ¬ o = 76 → ¬ o = 78 → μ' o = μ o) ∧ (∀ k, ¬ k = 3 → μ' 76 k = μ 76 k) ∧ NW n A w B μ'
theorem rt_search {n : Nat} {A : Nat → Nat} {w : Nat → Nat → Nat} : ∀ below, below ≤ 16 → ∀ D, below < D → ∀ few c B μ, few ≤ 16 → 2 ^ below * c < 2 ^ 16 → NW n A w B μ → (∀ r, r < n → B r + sp_sum (w r) below ≤ 2 ^ 20) → ∃ q μ', fr_X4_search D (nI below) (nI few) (nI (2 ^ below * c)) μ = some (q, μ') ∧ SeF n A w B μ μ' ∧ ((q = 1 ∧ ∃ S, Gd n A w B below few S ∧ (∀ S', Gd n A w B below few S' → S ≤ S') ∧ μ' 76 3 = nI (2 ^ below * c + S)) ∨ (q = 0 ∧ ∀ S', ¬ Gd n A w B below few S')) := by
  intro below
  induction below with
  | zero =>
    intro _ D hD few c B μ hf hc hN hB
    cases D with
    | zero => omega
    | succ D =>
      obtain ⟨b, e, hb⟩ := rt_reach hN (below := 0) (few := few) (by omega) hf (fun r hr => by have := hB r hr; omega)
      show ∃ q μ', fo_X4_search (fr_X4_search D) (nI 0) (nI few) (nI (2 ^ 0 * c)) μ = some (q, μ') ∧ _
      unfold fo_X4_search
      rw [e, Option.bind_some]
      cases b with
      | false =>
        refine ⟨0, μ, rfl, ⟨fun _ _ _ => rfl, fun _ _ => rfl, hN⟩, Or.inr ⟨rfl, fun S' hS => ?_⟩⟩
        have : ¬ ∀ r, r < n → A r ≤ B r + tp_ (w r) 0 0 few := fun q => by have := hb.mpr q; cases this
        exact this (fun r hr => Nat.le_trans (hS.2.2 r hr) (Nat.add_le_add_left (gq_tp (by omega) hS.1 hS.2.1) _))
      | true =>
        have hr := hb.mp rfl
        have hSe : SeF n A w B μ (ro_set μ 76 3 (nI (2 ^ 0 * c))) := ⟨fun o h1 _ => ro_set_ne _ _ _ h1, fun k hk => by rw [ro_set_same, pk_un hk], hN.put (fun o h1 _ => ro_set_ne _ _ _ h1) (by rw [ro_set_same, pk_un (by decide)]) (fun r hr => by rw [ro_set_ne _ _ _ (by decide)]; exact (hN.2.2 r hr).1)⟩
        have hG : Gd n A w B 0 few 0 := ⟨by decide, by rw [(gq_0 (w := w 0)).2]; omega, fun r hr' => by rw [gq_0.1]; exact hr r hr'⟩
        have hfin : ro_set μ 76 3 (nI (2 ^ 0 * c)) 76 3 = nI (2 ^ 0 * c + 0) := by rw [ro_set_same, pk_us]; rfl
        rw [if_pos rfl, if_neg rt_10, ro_lt]
        refine ⟨1, ro_set μ 76 3 (nI (2 ^ 0 * c)), ?_, hSe, Or.inl ⟨rfl, 0, hG, fun _ _ => Nat.zero_le _, hfin⟩⟩
        by_cases c0 : nI few = 0
        · rw [if_pos c0]
        · rw [if_neg c0, if_pos (show nI 0 = 0 from rfl)]
  | succ k ih =>
    intro hk D hD few c B μ hf hc hN hB
    cases D with
    | zero => omega
    | succ D =>
      obtain ⟨b, e, hb⟩ := rt_reach hN (below := k + 1) (few := few) hk hf (fun r hr => by have := hB r hr; omega)
      show ∃ q μ', fo_X4_search (fr_X4_search D) (nI (k + 1)) (nI few) (nI (2 ^ (k + 1) * c)) μ = some (q, μ') ∧ _
      unfold fo_X4_search
      rw [e, Option.bind_some]
      cases b with
      | false =>
        refine ⟨0, μ, rfl, ⟨fun _ _ _ => rfl, fun _ _ => rfl, hN⟩, Or.inr ⟨rfl, fun S' hS => ?_⟩⟩
        have : ¬ ∀ r, r < n → A r ≤ B r + tp_ (w r) (k + 1) 0 few := fun q => by have := hb.mpr q; cases this
        exact this (fun r hr => Nat.le_trans (hS.2.2 r hr) (Nat.add_le_add_left (gq_tp hk hS.1 hS.2.1) _))
      | true =>
        have hr := hb.mp rfl
        rw [if_pos rfl, if_neg rt_10]
        by_cases f0 : few = 0
        · have hSe : SeF n A w B μ (ro_set μ 76 3 (nI (2 ^ (k + 1) * c))) := ⟨fun o h1 _ => ro_set_ne _ _ _ h1, fun k hk => by rw [ro_set_same, pk_un hk], hN.put (fun o h1 _ => ro_set_ne _ _ _ h1) (by rw [ro_set_same, pk_un (by decide)]) (fun r hr => by rw [ro_set_ne _ _ _ (by decide)]; exact (hN.2.2 r hr).1)⟩
          have hG : Gd n A w B (k + 1) few 0 := ⟨Nat.two_pow_pos _, by rw [(gq_0 (w := w 0)).2]; omega, fun r hr' => by have := hr r hr'; rw [f0, tp_c0] at this; rw [gq_0.1]; exact this⟩
          rw [if_pos (show nI few = 0 by rw [f0]; rfl), ro_lt]
          exact ⟨1, _, rfl, hSe, Or.inl ⟨rfl, 0, hG, fun _ _ => Nat.zero_le _, by rw [ro_set_same, pk_us]; rfl⟩⟩
        · rw [if_neg (nI_ne0 (by omega) (by omega)), if_neg (nI_ne0 (by omega) (by omega)), show nI (k + 1) - 1 = nI k from nI_pred k, ro_lt]
          have hpw : 2 ^ (k + 1) * c = 2 ^ k * (2 * c) := by rw [Nat.pow_succ, Nat.mul_assoc]
          have hsum : ∀ r, sp_sum (w r) (k + 1) = sp_sum (w r) k + w r k := fun r => rfl
          obtain ⟨q1, μ1, e1, s1, r1⟩ := ih (by omega) D (by omega) few (2 * c) B μ hf (by rw [← hpw]; exact hc) hN (fun r hr => by have := hB r hr; rw [hsum] at this; omega)
          rw [← hpw] at e1 r1
          rw [e1, Option.bind_some]
          have hlt : (2 : Nat) ^ k < 2 ^ (k + 1) := by rw [Nat.pow_succ]; have := Nat.two_pow_pos k; omega
          rcases r1 with ⟨q11, S, g1, g2, g3⟩ | ⟨q10, gno⟩
          · rw [q11, if_neg rt_10]
            refine ⟨1, μ1, rfl, s1, Or.inl ⟨rfl, S, ⟨by have := g1.1; omega, g1.2.1, g1.2.2⟩, fun S' hS' => ?_, g3⟩⟩
            by_cases cS : S' < 2 ^ k
            · exact g2 S' ⟨cS, hS'.2.1, hS'.2.2⟩
            · have := g1.1; omega
          · rw [q10, if_pos rfl]
            obtain ⟨μ2, e2, n2, hN2⟩ := rt_needs_sub (F := fr_X4_search D) (v2 := nI few) (v3 := nI (2 ^ (k + 1) * c)) s1.2.2 (show k < 16 by omega)
            show ∃ q μ', ((fl_X4_search_47 (fr_X4_search D) (nI few) (nI (2 ^ (k + 1) * c)) (nI k) (0, μ1)).bind _) = some (q, μ') ∧ _
            rw [e2, Option.bind_some]
            have hor : nI (2 ^ (k + 1) * c) ||| ((1 : Int32) <<< (nI k &&& 31)) = nI (2 ^ k * (2 * c + 1)) := by
              rw [rt_shl1 (by omega), fa_or_sum c hlt]
              congr 1
              rw [hpw, Nat.mul_add, Nat.mul_one]
            rw [hor, show nI few - 1 = nI (few - 1) from pk_sub (b := 1) (by omega)]
            have hc2 : 2 ^ k * (2 * c + 1) < 2 ^ 16 := by
              have h1 : 2 ^ k * (2 * c + 1) = 2 ^ (k + 1) * c + 2 ^ k := by rw [hpw, Nat.mul_add, Nat.mul_one]
              have h2 : c < 2 ^ (16 - (k + 1)) := by
                have h3 : 2 ^ 16 = 2 ^ (k + 1) * 2 ^ (16 - (k + 1)) := by rw [← Nat.pow_add]; congr 1; omega
                rw [h3] at hc
                exact Nat.lt_of_mul_lt_mul_left hc
              have h4 : 2 ^ (k + 1) * (c + 1) ≤ 2 ^ (k + 1) * 2 ^ (16 - (k + 1)) := Nat.mul_le_mul_left _ h2
              have h3 : 2 ^ 16 = 2 ^ (k + 1) * 2 ^ (16 - (k + 1)) := by rw [← Nat.pow_add]; congr 1; omega
              rw [← h3, Nat.mul_add, Nat.mul_one] at h4
              rw [h1]
              omega
            obtain ⟨q3, μ3, e3, s3, r3⟩ := ih (by omega) D (by omega) (few - 1) (2 * c + 1) (fun r => B r + w r k) μ2 (by omega) hc2 hN2 (fun r hr => by have := hB r hr; rw [hsum] at this; show B r + w r k + sp_sum (w r) k ≤ 2 ^ 20; omega)
            rw [e3, Option.bind_some]
            obtain ⟨μ4, e4, n4, hN4⟩ := rt_needs_add (F := fr_X4_search D) (v5 := q3) s3.2.2 (show k < 16 by omega)
            show ∃ q μ', ((fl_X4_search_105 (fr_X4_search D) (nI k) q3 (0, μ3)).bind _) = some (q, μ') ∧ _
            rw [e4, Option.bind_some]
            have hSe : SeF n A w B μ μ4 := ⟨fun o h1 h2 => by rw [n4 o h2, s3.1 o h1 h2, n2 o h2, s1.1 o h1 h2], fun j hj => by rw [n4 76 (by decide), s3.2.1 j hj, n2 76 (by decide), s1.2.1 j hj], hN4⟩
            have tr : ∀ T, T < 2 ^ k → (Gd n A w B (k + 1) few (2 ^ k + T) ↔ Gd n A w (fun r => B r + w r k) k (few - 1) T) := fun T hT => by
              have t1 := gq_top (w := w 0) (show k < 16 by omega) hT
              constructor
              · rintro ⟨x1, x2, x3⟩
                refine ⟨hT, by omega, fun r hr => ?_⟩
                have := x3 r hr
                rw [(gq_top (w := w r) (show k < 16 by omega) hT).1] at this
                show A r ≤ B r + w r k + _
                omega
              · rintro ⟨x1, x2, x3⟩
                refine ⟨by rw [Nat.pow_succ]; omega, by omega, fun r hr => ?_⟩
                have := x3 r hr
                rw [(gq_top (w := w r) (show k < 16 by omega) hT).1]
                have : A r ≤ B r + w r k + gq_ (w r) T := this
                omega
            have big : ∀ S', Gd n A w B (k + 1) few S' → ∃ T, T < 2 ^ k ∧ S' = 2 ^ k + T := fun S' hS' => by
              by_cases cS : S' < 2 ^ k
              · exact absurd ⟨cS, hS'.2.1, hS'.2.2⟩ (gno S')
              · have := hS'.1
                rw [Nat.pow_succ] at this
                exact ⟨S' - 2 ^ k, by omega, by omega⟩
            rcases r3 with ⟨q31, T, t1, t2, t3⟩ | ⟨q30, tno⟩
            · rw [q31, if_pos (Or.inr rfl)]
              refine ⟨1, μ4, rfl, hSe, Or.inl ⟨rfl, 2 ^ k + T, (tr T t1.1).mpr t1, fun S' hS' => ?_, ?_⟩⟩
              · obtain ⟨T', hT', rfl⟩ := big S' hS'
                have := t2 T' ((tr T' hT').mp hS')
                omega
              · rw [n4 76 (by decide), t3]
                congr 1
                rw [hpw, Nat.mul_add, Nat.mul_one]
                omega
            · rw [q30, if_pos (Or.inl rfl)]
              refine ⟨0, μ4, rfl, hSe, Or.inr ⟨rfl, fun S' hS' => ?_⟩⟩
              obtain ⟨T', hT', rfl⟩ := big S' hS'
              exact tno T' ((tr T' hT').mp hS')
-- ===== the least of the fewest =====
def OkS (n : Nat) (A : Nat → Nat) (w : Nat → Nat → Nat) (S : Nat) : Prop := S < 65536 ∧ ∀ r, r < n → A r ≤ gq_ (w r) S
def LexMin (P : Nat → Prop) (S : Nat) : Prop := P S ∧ ∀ S', P S' → cn_ S < cn_ S' ∨ (cn_ S = cn_ S' ∧ S ≤ S')
theorem LexMin.uniq {P : Nat → Prop} {S T : Nat} (h : LexMin P S) (g : LexMin P T) : S = T := by
  have a := h.2 T g.1
  have b := g.2 S h.1
  omega
theorem cn_le (S : Nat) : cn_ S ≤ 16 := by
  unfold cn_
  have := sp_sum_bd (f := fun k => S / 2 ^ k % 2) (c := 1) (n := 16) (fun k _ => by show S / 2 ^ k % 2 ≤ 1; omega)
  omega
theorem gq_all {w : Nat → Nat} : gq_ w 65535 = sp_sum w 16 := by
  unfold gq_
  refine sp_sum_cg (fun k hk => ?_)
  have h : ∀ k, k < 16 → 65535 / 2 ^ k % 2 = 1 := by decide
  rw [h k hk, Nat.one_mul]
theorem rt_solve {n : Nat} {A : Nat → Nat} {w : Nat → Nat → Nat} {μ : ro_Mem} (hN : NW n A w (fun _ => 0) μ) (hA : ∀ r, r < n → A r ≤ sp_sum (w r) 16) : ∃ S μ', fn_X4_solve μ = some (nI S, μ') ∧ LexMin (OkS n A w) S ∧ (∀ o, ¬ o = 76 → ¬ o = 78 → μ' o = μ o) := by
  have hws : ∀ r, r < n → sp_sum (w r) 16 ≤ 2 ^ 20 := fun r hr => by
    have h2 : sp_sum (w r) 16 ≤ 16 * 2 ^ 16 := sp_sum_bd (fun i hi => by have := ((hN.2.2 r hr).2.2.1 i hi).2; omega)
    omega
  have key : ∀ k few fuel M, few + k = 16 → k < fuel → SeF n A w (fun _ => 0) μ M → (∀ S', OkS n A w S' → few ≤ cn_ S') → ∃ M' S, ro_loop (fun rec (s : Int32 × ro_Mem) => fb_X4_solve_7 rec s.1 s.2) fuel (nI few, M) = some (.inl M') ∧ M' 76 3 = nI S ∧ LexMin (OkS n A w) S ∧ (∀ o, ¬ o = 76 → ¬ o = 78 → M' o = μ o) := by
    intro k
    induction k with
    | zero =>
      intro few fuel M hf hfu hM hno
      cases fuel with
      | zero => omega
      | succ f =>
        have : few = 16 := by omega
        subst this
        obtain ⟨q, M', e, s, r⟩ := rt_search (n := n) (A := A) (w := w) 16 (Nat.le_refl _) 198 (by decide) 16 0 (fun _ => 0) M (Nat.le_refl _) (by decide) hM.2.2 (fun r hr => by show 0 + sp_sum (w r) 16 ≤ 2 ^ 20; have := hws r hr; omega)
        have e : fn_X4_search 16 (nI 16) 0 M = some (q, M') := e
        show ∃ M' S, fb_X4_solve_7 (ro_loop (fun rec (s : Int32 × ro_Mem) => fb_X4_solve_7 rec s.1 s.2) f) (nI 16) M = _ ∧ _
        generalize ro_loop (fun rec (s : Int32 × ro_Mem) => fb_X4_solve_7 rec s.1 s.2) f = R
        unfold fb_X4_solve_7
        rw [if_neg (show ¬ (16 : Int32) < nI 16 by decide), e, Option.bind_some]
        rcases r with ⟨r1, S, g1, g2, g3⟩ | ⟨-, r2⟩
        · rw [r1, if_neg rt_10]
          refine ⟨M', S, rfl, by rw [g3, Nat.mul_zero, Nat.zero_add], ⟨⟨g1.1, fun r hr => by have h0 : A r ≤ 0 + gq_ (w r) S := g1.2.2 r hr; omega⟩, fun S' hS' => ?_⟩, fun o h1 h2 => by rw [s.1 o h1 h2, hM.1 o h1 h2]⟩
          have a1 := hno S' hS'
          have a2 := cn_le S'
          have a3 := hno S ⟨g1.1, fun r hr => by have h0 : A r ≤ 0 + gq_ (w r) S := g1.2.2 r hr; omega⟩
          have a4 := cn_le S
          exact Or.inr ⟨by omega, g2 S' ⟨hS'.1, by omega, fun r hr => by show A r ≤ 0 + gq_ (w r) S'; have := hS'.2 r hr; omega⟩⟩
        · exact absurd ⟨by decide, by decide, fun r hr => by show A r ≤ 0 + gq_ (w r) 65535; rw [gq_all]; have := hA r hr; omega⟩ (r2 65535)
    | succ k ih =>
      intro few fuel M hf hfu hM hno
      cases fuel with
      | zero => omega
      | succ f =>
        obtain ⟨q, M', e, s, r⟩ := rt_search (n := n) (A := A) (w := w) 16 (Nat.le_refl _) 198 (by decide) few 0 (fun _ => 0) M (by omega) (by decide) hM.2.2 (fun r hr => by show 0 + sp_sum (w r) 16 ≤ 2 ^ 20; have := hws r hr; omega)
        have e : fn_X4_search 16 (nI few) 0 M = some (q, M') := e
        have hih := ih (few + 1) f
        show ∃ M' S, fb_X4_solve_7 (ro_loop (fun rec (s : Int32 × ro_Mem) => fb_X4_solve_7 rec s.1 s.2) f) (nI few) M = _ ∧ _
        generalize ro_loop (fun rec (s : Int32 × ro_Mem) => fb_X4_solve_7 rec s.1 s.2) f = R at hih ⊢
        unfold fb_X4_solve_7
        rw [if_neg (show ¬ (16 : Int32) < nI few from nI_nlt (a := 16) (by omega) (by decide)), e, Option.bind_some]
        rcases r with ⟨r1, S, g1, g2, g3⟩ | ⟨r1, r2⟩
        · rw [r1, if_neg rt_10]
          refine ⟨M', S, rfl, by rw [g3, Nat.mul_zero, Nat.zero_add], ⟨⟨g1.1, fun r hr => by have h0 : A r ≤ 0 + gq_ (w r) S := g1.2.2 r hr; omega⟩, fun S' hS' => ?_⟩, fun o h1 h2 => by rw [s.1 o h1 h2, hM.1 o h1 h2]⟩
          have a1 := hno S' hS'
          have a3 := g1.2.1
          by_cases q : cn_ S < cn_ S'
          · exact Or.inl q
          · exact Or.inr ⟨by have := hno S ⟨g1.1, fun r hr => by have h0 : A r ≤ 0 + gq_ (w r) S := g1.2.2 r hr; omega⟩; omega, g2 S' ⟨hS'.1, by omega, fun r hr => by show A r ≤ 0 + gq_ (w r) S'; have := hS'.2 r hr; omega⟩⟩
        · rw [r1, if_pos rfl, nI_1]
          refine hih M' (by omega) (by omega) ⟨fun o h1 h2 => by rw [s.1 o h1 h2, hM.1 o h1 h2], fun k hk => by rw [s.2.1 k hk, hM.2.1 k hk], s.2.2⟩ (fun S' hS' => ?_)
          have a1 := hno S' hS'
          rcases Nat.lt_or_ge few (cn_ S') with h | h
          · exact h
          · exact absurd ⟨hS'.1, h, fun r hr => by show A r ≤ 0 + gq_ (w r) S'; have := hS'.2 r hr; omega⟩ (r2 S')
  have hM0 : SeF n A w (fun _ => 0) μ (ro_set μ 76 3 0) := ⟨fun o h1 _ => ro_set_ne _ _ _ h1, fun k hk => by rw [ro_set_same, pk_un hk], hN.put (fun o h1 _ => ro_set_ne _ _ _ h1) (by rw [ro_set_same, pk_un (by decide)]) (fun r hr => by rw [ro_set_ne _ _ _ (by decide)]; exact (hN.2.2 r hr).1)⟩
  obtain ⟨M', S, e, h1, h2, h3⟩ := key 16 0 ro_FU (ro_set μ 76 3 0) (by omega) (by decide) hM0 (fun S' _ => Nat.zero_le _)
  have e : fl_X4_solve_7 (0, ro_set μ 76 3 0) = some (.inl M') := e
  refine ⟨S, M', ?_, h2, h3⟩
  unfold fn_X4_solve
  rw [ro_lt, e, Option.bind_some]
  show some (M' 76 3, M') = _
  rw [h1]
