-- ===== the reference's plan =====
def RPl (n : Nat) (ge rk wt : Nat → Nat) (M : ro_Mem) : Prop := M 207 63 = nI n ∧ (∀ h, h < n → M 248 h = nI (ge h) ∧ ge h < 10 ∧ M 215 (ge h) = nI (rk h) ∧ rk h ≤ 99) ∧ ∀ q, q < n → M 249 q = nI (wt q) ∧ wt q ≤ 50688
theorem RPl.put {n : Nat} {ge rk wt : Nat → Nat} {M M' : ro_Mem} (h : RPl n ge rk wt M) (h1 : M' 207 63 = M 207 63) (h2 : M' 248 = M 248) (h3 : M' 249 = M 249) (h4 : M' 215 = M 215) : RPl n ge rk wt M' := by
  unfold RPl
  rw [h1, h2, h3, h4]
  exact h
theorem rt_e256 (k s : Nat) : (256 : Int32) * nI k + nI s = nI (256 * k + s) := by
  show nI 256 * nI k + nI s = _
  rw [pk_mul, nI_add]
section
variable {n : Nat} {ge rk wt : Nat → Nat}
theorem rt_costBy {M : ro_Mem} (hR : RPl n ge rk wt M) (hn : n ≤ 8) {k S q : Nat} (hk : k < n) (hS : S < 2 ^ n) (hq : q < n) (h250 : M 250 (256 * (k + 1) + (S ||| 2 ^ q)) = nI (cd_ n rk wt (n - 1 - k) (S ||| 2 ^ q))) : fn_X12_costBy (nI k) (nI q) (nI S) M = some (nI (co_ n rk wt (n - 1 - k) S q)) := by
  obtain ⟨-, r2, r3⟩ := hR
  obtain ⟨z1, z2, z3, -⟩ := r2 k hk
  have hp : (2 : Nat) ^ n ≤ 2 ^ 8 := Nat.pow_le_pow_right (by decide) hn
  have hp8 : (2 : Nat) ^ 8 = 256 := rfl
  have hor := or_lt hS hq
  unfold fn_X12_costBy
  rw [if_pos (rt_in (n := 8) (by omega) (by decide)), nI_clamp (show k < 2 ^ 31 by omega), z1, if_pos (rt_in z2 (by decide)), if_pos (rt_in (n := 8) (by omega) (by decide)), nI_1, rt_shl1 (by omega), fa_or, rt_e256, if_pos (rt_in (n := 2304) (by omega) (by decide)), nI_clamp (show ge k < 2 ^ 31 by omega), nI_clamp (show q < 2 ^ 31 by omega), nI_clamp (show 256 * (k + 1) + (S ||| 2 ^ q) < 2 ^ 31 by omega), z3, (r3 q hq).1, h250, pk_mul, nI_add]
  unfold co_
  rw [show n - (n - 1 - k + 1) = k by omega]
theorem rt_minM {x y : Nat} (hx : x < 2 ^ 31) (hy : y < 2 ^ 31) : fn_X12_min (nI x) (nI y) = some (nI (min x y)) := by
  unfold fn_X12_min
  by_cases c : y ≤ x
  · rw [if_pos (nI_le c hx), Nat.min_eq_right c]
  · rw [if_neg (nI_ge (by omega) (by omega)), Nat.min_eq_left (by omega)]
theorem rt_best {M : ro_Mem} (hR : RPl n ge rk wt M) (hn : n ≤ 8) {k S : Nat} (hk : k < n) (hS : S < 2 ^ n) (h250 : ∀ q, q < n → M 250 (256 * (k + 1) + (S ||| 2 ^ q)) = nI (cd_ n rk wt (n - 1 - k) (S ||| 2 ^ q))) : fl_X12_laysSeated_61 (nI k) (nI S) M (1000000000, 0) = some (nI (cd_ n rk wt (n - k) S)) := by
  have hp : (2 : Nat) ^ n ≤ 2 ^ 8 := Nat.pow_le_pow_right (by decide) hn
  have hp8 : (2 : Nat) ^ 8 = 256 := rfl
  have hr : ∀ h, h < n → rk h ≤ 99 := fun h hh => (hR.2.1 h hh).2.2.2
  have hw : ∀ q, q < n → wt q ≤ 50688 := fun q hq => (hR.2.2 q hq).2
  have hl := rt_loop (b := fun rec (s : Int32 × Int32) => fb_X12_laysSeated_61 (nI k) (nI S) M rec s.1 s.2) (fun q => (nI (mq_ (fr_ S) (co_ n rk wt (n - 1 - k) S) q), nI q)) n (e := some (nI (mq_ (fr_ S) (co_ n rk wt (n - 1 - k) S) n))) (fun q hq rec => by
    show fb_X12_laysSeated_61 (nI k) (nI S) M rec (nI (mq_ (fr_ S) (co_ n rk wt (n - 1 - k) S) q)) (nI q) = rec (nI (mq_ (fr_ S) (co_ n rk wt (n - 1 - k) S) (q + 1)), nI (q + 1))
    have h1 := (mq_le (p := fr_ S) (f := co_ n rk wt (n - 1 - k) S) q).1
    have h2 := co_le (S := S) hn hr hw (show n - 1 - k < n by omega) hq
    unfold fb_X12_laysSeated_61
    rw [hR.1, if_neg (nI_ge hq (by omega)), rt_has (by omega) (by omega), Option.bind_some, nI_1]
    by_cases c : S / 2 ^ q % 2 = 0
    · rw [if_pos (show nI (S / 2 ^ q % 2) = 0 by rw [c]; rfl), rt_costBy hR hn hk hS hq (h250 q hq), Option.bind_some, rt_minM (by omega) (by omega), Option.bind_some]
      rw [show mq_ (fr_ S) (co_ n rk wt (n - 1 - k) S) (q + 1) = min (mq_ (fr_ S) (co_ n rk wt (n - 1 - k) S) q) (co_ n rk wt (n - 1 - k) S q) from if_pos (decide_eq_true c)]
    · rw [if_neg (nI_ne0 (by omega) (by omega))]
      rw [show mq_ (fr_ S) (co_ n rk wt (n - 1 - k) S) (q + 1) = mq_ (fr_ S) (co_ n rk wt (n - 1 - k) S) q from if_neg (fun x => c (of_decide_eq_true x))]) (fun rec => by
    show fb_X12_laysSeated_61 (nI k) (nI S) M rec (nI (mq_ (fr_ S) (co_ n rk wt (n - 1 - k) S) n)) (nI n) = _
    unfold fb_X12_laysSeated_61
    rw [hR.1, if_pos (Int32.le_refl _)]) ro_FU (Nat.lt_of_le_of_lt hn (by decide))
  have hl : fl_X12_laysSeated_61 (nI k) (nI S) M (1000000000, 0) = _ := hl
  rw [hl, show n - k = n - 1 - k + 1 by omega, cd_s]
theorem rt_laysRow {M : ro_Mem} (hR : RPl n ge rk wt M) (hn : n ≤ 8) {k : Nat} (hk : k < n) (h250 : ∀ S, S < 2 ^ n → M 250 (256 * (k + 1) + S) = nI (cd_ n rk wt (n - 1 - k) S)) : ∃ M', fl_X12_laysSeated_44 (nI k) (0, M) = some M' ∧ (∀ o, ¬ o = 250 → M' o = M o) ∧ (∀ i, ¬ (256 * k ≤ i ∧ i < 256 * k + 256) → M' 250 i = M 250 i) ∧ ∀ S, S < 2 ^ n → M' 250 (256 * k + S) = nI (cd_ n rk wt (n - k) S) := by
  have hp : (2 : Nat) ^ n ≤ 2 ^ 8 := Nat.pow_le_pow_right (by decide) hn
  have hp8 : (2 : Nat) ^ 8 = 256 := rfl
  have hl := rt_cnt (b := fun rec (s : Int32 × ro_Mem) => fb_X12_laysSeated_44 (nI k) rec s.1 s.2) (fun S (M : ro_Mem) => (nI S, M)) (fun M => M) (2 ^ n) (fun S M' => (∀ o, ¬ o = 250 → M' o = M o) ∧ (∀ i, ¬ (256 * k ≤ i ∧ i < 256 * k + 256) → M' 250 i = M 250 i) ∧ ∀ T, T < S → M' 250 (256 * k + T) = nI (cd_ n rk wt (n - k) T)) (fun S hS rec M' hP => by
    obtain ⟨p1, p2, p3⟩ := hP
    have hR' : RPl n ge rk wt M' := hR.put (by rw [p1 207 (by decide)]) (p1 248 (by decide)) (p1 249 (by decide)) (p1 215 (by decide))
    have hb := rt_best hR' hn hk hS (fun q hq => by
      have := or_lt hS hq
      rw [p2 _ (by omega)]
      exact h250 _ this)
    refine ⟨ro_set M' 250 (256 * k + S) (nI (cd_ n rk wt (n - k) S)), ⟨fun o ho => by rw [ro_set_ne _ _ _ ho]; exact p1 o ho, fun i hi => ?_, fun T hT => ?_⟩, ?_⟩
    · rw [ro_set_same, pk_un (by omega)]; exact p2 i hi
    · rw [ro_set_same]
      by_cases e : T = S
      · rw [e, pk_us]
      · rw [pk_un (by omega)]; exact p3 T (by omega)
    · show fb_X12_laysSeated_44 (nI k) rec (nI S) M' = _
      unfold fb_X12_laysSeated_44
      rw [hR'.1, rt_shl1 (by omega), if_neg (nI_ge hS (by omega)), hb, Option.bind_some, rt_e256, if_pos (rt_in (n := 2304) (by omega) (by decide)), nI_clamp (show 256 * k + S < 2 ^ 31 by omega), ro_lt, nI_1]) (fun rec M' hP => by
    show fb_X12_laysSeated_44 (nI k) rec (nI (2 ^ n)) M' = _
    unfold fb_X12_laysSeated_44
    rw [hP.1 207 (by decide), hR.1, rt_shl1 (by omega), if_pos (Int32.le_refl _)]) ro_FU (Nat.lt_of_le_of_lt (show 2 ^ n ≤ 256 by omega) (by decide)) M ⟨fun _ _ => rfl, fun _ _ => rfl, fun T h => absurd h (by omega)⟩
  obtain ⟨M', ⟨m1, m2, m3⟩, m4⟩ := hl
  exact ⟨M', m4, m1, m2, m3⟩
theorem rt_laysSeated {M : ro_Mem} (hR : RPl n ge rk wt M) (hn : n ≤ 8) (h1n : 1 ≤ n) : ∃ M', fn_X12_laysSeated M = some M' ∧ (∀ o, ¬ o = 250 → M' o = M o) ∧ ∀ k S, k ≤ n → S < 2 ^ n → M' 250 (256 * k + S) = nI (cd_ n rk wt (n - k) S) := by
  have hp : (2 : Nat) ^ n ≤ 2 ^ 8 := Nat.pow_le_pow_right (by decide) hn
  have hp8 : (2 : Nat) ^ 8 = 256 := rfl
  have l2 := rt_cnt (b := fun rec (s : Int32 × ro_Mem) => fb_X12_laysSeated_2 rec s.1 s.2) (fun S (M : ro_Mem) => (nI S, M)) (fun M => M) 256 (fun S M' => (∀ o, ¬ o = 250 → M' o = M o) ∧ ∀ T, T < S → M' 250 (256 * n + T) = 0) (fun S hS rec M' hP => by
    obtain ⟨p1, p3⟩ := hP
    refine ⟨ro_set M' 250 (256 * n + S) 0, ⟨fun o ho => by rw [ro_set_ne _ _ _ ho]; exact p1 o ho, fun T hT => ?_⟩, ?_⟩
    · rw [ro_set_same]
      by_cases e : T = S
      · rw [e, pk_us]
      · rw [pk_un (by omega)]; exact p3 T (by omega)
    · show fb_X12_laysSeated_2 rec (nI S) M' = _
      unfold fb_X12_laysSeated_2
      rw [if_neg (show ¬ (256 : Int32) ≤ nI S from nI_ge hS (by decide)), p1 207 (by decide), hR.1, rt_e256, if_pos (rt_in (n := 2304) (by omega) (by decide)), nI_clamp (show 256 * n + S < 2 ^ 31 by omega), ro_lt, nI_1]) (fun rec M' hP => by
    show fb_X12_laysSeated_2 rec (nI 256) M' = _
    unfold fb_X12_laysSeated_2
    rw [if_pos (show (256 : Int32) ≤ nI 256 from Int32.le_refl _)]) ro_FU (by decide) M ⟨fun _ _ => rfl, fun T h => absurd h (by omega)⟩
  obtain ⟨M2, ⟨a1, a2⟩, a3⟩ := l2
  have a3 : fl_X12_laysSeated_2 (0, M) = some M2 := a3
  have l38 : ∀ K fuel (M' : ro_Mem), K ≤ n → K < fuel → (∀ o, ¬ o = 250 → M' o = M o) → (∀ k S, K ≤ k → k ≤ n → S < 2 ^ n → M' 250 (256 * k + S) = nI (cd_ n rk wt (n - k) S)) → ∃ M'', ro_loop (fun rec (s : Int32 × ro_Mem) => fb_X12_laysSeated_38 rec s.1 s.2) fuel ((if K = 0 then -1 else nI (K - 1)), M') = some M'' ∧ (∀ o, ¬ o = 250 → M'' o = M o) ∧ ∀ k S, k ≤ n → S < 2 ^ n → M'' 250 (256 * k + S) = nI (cd_ n rk wt (n - k) S) := by
    intro K
    induction K with
    | zero =>
      intro fuel M' _ hf hM hT
      cases fuel with
      | zero => omega
      | succ f =>
        refine ⟨M', ?_, hM, fun k S hk hS => hT k S (by omega) hk hS⟩
        show fb_X12_laysSeated_38 _ (if 0 = 0 then -1 else nI (0 - 1)) M' = _
        unfold fb_X12_laysSeated_38
        rw [if_pos rfl, if_pos (show (-1 : Int32) < 0 by decide)]
    | succ K ih =>
      intro fuel M' hK hf hM hT
      cases fuel with
      | zero => omega
      | succ f =>
        have hih := ih f
        show ∃ M'', fb_X12_laysSeated_38 (ro_loop (fun rec (s : Int32 × ro_Mem) => fb_X12_laysSeated_38 rec s.1 s.2) f) (if K + 1 = 0 then -1 else nI (K + 1 - 1)) M' = _ ∧ _
        generalize ro_loop (fun rec (s : Int32 × ro_Mem) => fb_X12_laysSeated_38 rec s.1 s.2) f = R at hih ⊢
        rw [if_neg (by omega), Nat.add_sub_cancel]
        have hR' : RPl n ge rk wt M' := hR.put (by rw [hM 207 (by decide)]) (hM 248 (by decide)) (hM 249 (by decide)) (hM 215 (by decide))
        obtain ⟨M3, b1, b2, b3, b4⟩ := rt_laysRow hR' hn (show K < n by omega) (fun S hS => by
          have := hT (K + 1) S (by omega) hK hS
          rw [show n - (K + 1) = n - 1 - K by omega] at this
          exact this)
        have hst : nI K + -1 = if K = 0 then -1 else nI (K - 1) := by
          by_cases c : K = 0
          · rw [if_pos c, c]; rfl
          · rw [if_neg c]
            obtain ⟨x, rfl⟩ : ∃ x, K = x + 1 := ⟨K - 1, by omega⟩
            rw [pk_m1, Nat.add_sub_cancel]
        obtain ⟨M4, c1, c2, c3⟩ := hih M3 (by omega) (by omega) (fun o ho => by rw [b2 o ho, hM o ho]) (fun k S h1 h2 h3 => by
          by_cases e : k = K
          · rw [e]; exact b4 S h3
          · rw [b3 _ (by omega)]; exact hT k S (by omega) h2 h3)
        refine ⟨M4, ?_, c2, c3⟩
        rw [← c1]
        unfold fb_X12_laysSeated_38
        rw [if_neg (nI_pos (by omega)), b1, Option.bind_some, hst]
  have s38 := l38 n ro_FU M2 (Nat.le_refl _) (Nat.lt_of_le_of_lt hn (by decide)) a1 (fun k S h1 h2 h3 => by
    have : k = n := by omega
    rw [this, a2 S (by omega), Nat.sub_self]
    rfl)
  rw [if_neg (show ¬ n = 0 by omega)] at s38
  obtain ⟨M', c1, c2, c3⟩ := s38
  have c1 : fl_X12_laysSeated_38 (nI (n - 1), M2) = some M' := c1
  refine ⟨M', ?_, c2, c3⟩
  unfold fn_X12_laysSeated
  rw [a3, Option.bind_some, a1 207 (by decide), hR.1, show nI n - 1 = nI (n - 1) from pk_sub (b := 1) h1n, ro_lt, c1, Option.bind_some]
theorem rt_seatFor {M : ro_Mem} (hR : RPl n ge rk wt M) (hn : n ≤ 8) (h250 : ∀ k S, k ≤ n → S < 2 ^ n → M 250 (256 * k + S) = nI (cd_ n rk wt (n - k) S)) {h : Nat} (hh : h < n) : fn_X12_seatFor (nI h) (nI (se_ n rk wt h)) M = some (nI (qe_ n rk wt h)) := by
  have hp : (2 : Nat) ^ n ≤ 2 ^ 8 := Nat.pow_le_pow_right (by decide) hn
  have hp8 : (2 : Nat) ^ 8 = 256 := rfl
  have hr : ∀ h, h < n → rk h ≤ 99 := fun h hh => (hR.2.1 h hh).2.2.2
  have hw : ∀ q, q < n → wt q ≤ 50688 := fun q hq => (hR.2.2 q hq).2
  obtain ⟨s1, s2, -, -⟩ := se_ok hn hr hw h (by omega)
  have ff := fe_ok hn hr hw (d := n - 1 - h) (S := se_ n rk wt h) (by omega) s1 (by omega)
  have f1 : qe_ n rk wt h < n := ff.1
  have f2 : se_ n rk wt h / 2 ^ (qe_ n rk wt h) % 2 = 0 := ff.2.1
  have f3 : co_ n rk wt (n - 1 - h) (se_ n rk wt h) (qe_ n rk wt h) = cd_ n rk wt (n - 1 - h + 1) (se_ n rk wt h) := ff.2.2.1
  have f4 : ∀ q, q < qe_ n rk wt h → ¬ (se_ n rk wt h / 2 ^ q % 2 = 0 ∧ co_ n rk wt (n - 1 - h) (se_ n rk wt h) q = cd_ n rk wt (n - 1 - h + 1) (se_ n rk wt h)) := ff.2.2.2
  clear ff
  have hcd := cd_far (n := n) (rk := rk) (wt := wt) (n - 1 - h + 1) (se_ n rk wt h)
  have e1 : n - 1 - h + 1 = n - h := by omega
  have cost : ∀ q, q < n → fn_X12_costBy (nI h) (nI q) (nI (se_ n rk wt h)) M = some (nI (co_ n rk wt (n - 1 - h) (se_ n rk wt h) q)) := fun q hq => rt_costBy hR hn hh s1 hq (by
    rw [h250 (h + 1) _ (by omega) (or_lt s1 hq), show n - (h + 1) = n - 1 - h by omega])
  have h0 := h250 h (se_ n rk wt h) (by omega) s1
  rw [← e1] at h0
  generalize cd_ n rk wt (n - 1 - h + 1) (se_ n rk wt h) = Z at *
  generalize se_ n rk wt h = S at *
  have hl := rt_loop (b := fun rec s => fb_X12_seatFor_2 (nI h) (nI S) M rec s) (fun q => nI q) (qe_ n rk wt h) (e := some (nI (qe_ n rk wt h))) (fun q hq rec => by
    show fb_X12_seatFor_2 (nI h) (nI S) M rec (nI q) = _
    have hck := co_le (S := S) hn hr hw (show n - 1 - h < n by omega) (show q < n by omega)
    unfold fb_X12_seatFor_2
    rw [rt_has (by omega) (by omega), Option.bind_some]
    by_cases c : S / 2 ^ q % 2 = 0
    · rw [if_pos (show nI (S / 2 ^ q % 2) = 0 by rw [c]; rfl), cost q (by omega), Option.bind_some, rt_e256, if_pos (rt_in (n := 2304) (by omega) (by decide)), nI_clamp (show 256 * h + S < 2 ^ 31 by omega), h0, if_neg (fun x => f4 q hq ⟨c, (nI_eq (by omega) (by omega)).mp x⟩), ro_lt, nI_1]
    · rw [if_neg (nI_ne0 (by omega) (by omega)), ro_lt, nI_1]) (fun rec => by
    show fb_X12_seatFor_2 (nI h) (nI S) M rec (nI (qe_ n rk wt h)) = _
    unfold fb_X12_seatFor_2
    rw [rt_has (by omega) (by omega), Option.bind_some, if_pos (show nI (S / 2 ^ (qe_ n rk wt h) % 2) = 0 by rw [f2]; rfl), cost _ f1, Option.bind_some, rt_e256, if_pos (rt_in (n := 2304) (by omega) (by decide)), nI_clamp (show 256 * h + S < 2 ^ 31 by omega), h0, f3, if_pos rfl]) ro_FU (Nat.lt_of_lt_of_le f1 (Nat.le_trans hn (by decide)))
  have hl : fl_X12_seatFor_2 (nI h) (nI S) M 0 = _ := hl
  unfold fn_X12_seatFor
  rw [hl, Option.bind_some]
/-- what is told of the guest that is asked for -/
def tl_ (v z : Int32) (ge s : Nat → Nat) : Nat → Int32
  | 0 => z
  | h + 1 => if nI (ge h) = v then nI (s h) else tl_ v z ge s h
theorem rt_takeAll {M : ro_Mem} (hR : RPl n ge rk wt M) (hn : n ≤ 8) (h250 : ∀ k S, k ≤ n → S < 2 ^ n → M 250 (256 * k + S) = nI (cd_ n rk wt (n - k) S)) {a : Nat} {sq : Nat → Nat} (ha : a < 4) (h247 : ∀ q, q < n → M 247 q = nI (sq q)) (v z : Int32) : ∃ M', fl_X12_seated_211 (nI a) (nI n) v (0, z, 0, M) = some (tl_ v z ge (fun h => sq (qe_ n rk wt h)) n, M') ∧ (∀ o, ¬ o = 216 → M' o = M o) ∧ M' 216 = if v = 11 then pt_ a ge (fun h => sq (qe_ n rk wt h)) (M 216) n else M 216 := by
  have hr : ∀ h, h < n → rk h ≤ 99 := fun h hh => (hR.2.1 h hh).2.2.2
  have hw : ∀ q, q < n → wt q ≤ 50688 := fun q hq => (hR.2.2 q hq).2
  have hl := rt_cnt (b := fun rec (s : Int32 × Int32 × Int32 × ro_Mem) => fb_X12_seated_211 (nI a) (nI n) v rec s.1 s.2.1 s.2.2.1 s.2.2.2) (fun h (M' : ro_Mem) => (nI (se_ n rk wt h), tl_ v z ge (fun h => sq (qe_ n rk wt h)) h, nI h, M')) (fun M' => (tl_ v z ge (fun h => sq (qe_ n rk wt h)) n, M')) n (fun h M' => (∀ o, ¬ o = 216 → M' o = M o) ∧ M' 216 = if v = 11 then pt_ a ge (fun h => sq (qe_ n rk wt h)) (M 216) h else M 216) (fun h hh rec M' hP => by
    obtain ⟨p1, p2⟩ := hP
    show ∃ s', _ ∧ fb_X12_seated_211 (nI a) (nI n) v rec (nI (se_ n rk wt h)) (tl_ v z ge (fun h => sq (qe_ n rk wt h)) h) (nI h) M' = rec (nI (se_ n rk wt (h + 1)), tl_ v z ge (fun h => sq (qe_ n rk wt h)) (h + 1), nI (h + 1), s')
    have hR' : RPl n ge rk wt M' := hR.put (by rw [p1 207 (by decide)]) (p1 248 (by decide)) (p1 249 (by decide)) (p1 215 (by decide))
    have hsf := rt_seatFor hR' hn (fun k S hk hS => by rw [p1 250 (by decide)]; exact h250 k S hk hS) hh
    obtain ⟨s4, -⟩ := (se_ok hn hr hw h (by omega)).2.2.1 hh
    obtain ⟨z1, z2, -, -⟩ := hR'.2.1 h hh
    have z3 : M' 247 (qe_ n rk wt h) = nI (sq (qe_ n rk wt h)) := by rw [p1 247 (by decide)]; exact h247 _ s4
    -- the last step
    have last : ∀ t, ∃ M'', ((∀ o, ¬ o = 216 → M'' o = M o) ∧ M'' 216 = if v = 11 then pt_ a ge (fun h => sq (qe_ n rk wt h)) (M 216) (h + 1) else M 216) ∧ fj_X12_seated_248 rec (nI a) (nI n) v (nI (se_ n rk wt h)) t (nI h) (nI (qe_ n rk wt h)) M' = rec (nI (se_ n rk wt (h + 1)), t, nI (h + 1), M'') := fun t => by
      have e279 : ∀ X : ro_Mem, fj_X12_seated_279 rec (nI a) (nI n) v (nI (se_ n rk wt h)) t (nI h) (nI (qe_ n rk wt h)) X = rec (nI (se_ n rk wt (h + 1)), t, nI (h + 1), X) := fun X => by
        unfold fj_X12_seated_279
        rw [rt_shl1 (by omega), fa_or, ro_lt, nI_1]
        rfl
      by_cases c : v = 11
      · refine ⟨ro_set M' 216 (10 * a + ge h) (nI (sq (qe_ n rk wt h))), ⟨fun o ho => by rw [ro_set_ne _ _ _ ho]; exact p1 o ho, ?_⟩, ?_⟩
        · rw [if_pos c] at p2
          rw [ro_set_same, p2, if_pos c]
          rfl
        · unfold fj_X12_seated_248
          rw [if_pos c, if_pos (rt_in (n := 8) (by omega) (by decide)), if_pos (rt_in (n := 8) (by omega) (by decide)), nI_clamp (show h < 2 ^ 31 by omega), z1, rt_e10', if_pos (rt_in (n := 40) (by omega) (by decide)), nI_clamp (show 10 * a + ge h < 2 ^ 31 by omega), nI_clamp (show qe_ n rk wt h < 2 ^ 31 by omega), z3, ro_lt, e279]
      · refine ⟨M', ⟨p1, ?_⟩, ?_⟩
        · rw [if_neg c] at p2
          rw [if_neg c]
          exact p2
        · unfold fj_X12_seated_248
          rw [if_neg c, e279]
    unfold fb_X12_seated_211
    rw [if_neg (nI_ge hh (by omega)), hsf, Option.bind_some, if_pos (rt_in (n := 8) (by omega) (by decide)), nI_clamp (show h < 2 ^ 31 by omega), z1]
    by_cases c : nI (ge h) = v
    · obtain ⟨M'', l1, l2⟩ := last (nI (sq (qe_ n rk wt h)))
      refine ⟨M'', l1, ?_⟩
      rw [if_pos c, if_pos (rt_in (n := 8) (by omega) (by decide)), nI_clamp (show qe_ n rk wt h < 2 ^ 31 by omega), z3, ro_lt, l2, show tl_ v z ge (fun h => sq (qe_ n rk wt h)) (h + 1) = nI (sq (qe_ n rk wt h)) from if_pos c]
    · obtain ⟨M'', l1, l2⟩ := last (tl_ v z ge (fun h => sq (qe_ n rk wt h)) h)
      refine ⟨M'', l1, ?_⟩
      rw [if_neg c, l2, show tl_ v z ge (fun h => sq (qe_ n rk wt h)) (h + 1) = tl_ v z ge (fun h => sq (qe_ n rk wt h)) h from if_neg c]) (fun rec M' hP => by
    show fb_X12_seated_211 (nI a) (nI n) v rec (nI (se_ n rk wt n)) (tl_ v z ge (fun h => sq (qe_ n rk wt h)) n) (nI n) M' = _
    unfold fb_X12_seated_211
    rw [if_pos (Int32.le_refl _)]) ro_FU (Nat.lt_of_le_of_lt hn (by decide)) M ⟨fun _ _ => rfl, by
      by_cases c : v = 11
      · rw [if_pos c]; rfl
      · rw [if_neg c]⟩
  obtain ⟨M', ⟨m1, m2⟩, m3⟩ := hl
  exact ⟨M', m3, m1, m2⟩
end
theorem tl_no {v z : Int32} {ge s : Nat → Nat} : ∀ n, (∀ h, h < n → ¬ nI (ge h) = v) → tl_ v z ge s n = z := by
  intro n
  induction n with
  | zero => intro _; rfl
  | succ n ih =>
    intro h
    unfold tl_
    rw [if_neg (h n (by omega))]
    exact ih (fun x hx => h x (by omega))
theorem tl_yes {v z : Int32} {ge s : Nat → Nat} : ∀ n h, h < n → nI (ge h) = v → (∀ i, h < i → i < n → ¬ nI (ge i) = v) → tl_ v z ge s n = nI (s h) := by
  intro n
  induction n with
  | zero => intro h hh; omega
  | succ n ih =>
    intro h hh hv hu
    unfold tl_
    by_cases e : h = n
    · rw [← e, if_pos hv]
    · rw [if_neg (hu n (by omega) (by omega))]
      exact ih h (by omega) hv (fun i h1 h2 => hu i h1 (by omega))
