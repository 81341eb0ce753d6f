-- ===== an act's notes and bars =====
theorem Wd.range {m : ro_Mem} {N a : Nat} (hw : Wd m N) (h : ∃ i, i < N ∧ nt_ m 5 i = a) : ∃ i0 i1, i0 < i1 ∧ i1 ≤ N ∧ ∀ i, i < N → (nt_ m 5 i = a ↔ (i0 ≤ i ∧ i < i1)) := by
  obtain ⟨i0, a1, a2, a3⟩ := hw.split a
  obtain ⟨i1, b1, b2, b3⟩ := hw.split (a + 1)
  have key : ∀ i, i < N → (nt_ m 5 i = a ↔ (i0 ≤ i ∧ i < i1)) := fun i hi => by
    constructor
    · intro e
      refine ⟨?_, ?_⟩
      · rcases Nat.lt_or_ge i i0 with q | q
        · have := a2 i q; omega
        · exact q
      · rcases Nat.lt_or_ge i i1 with q | q
        · exact q
        · have := b3 i q hi; omega
    · rintro ⟨q1, q2⟩
      have := a3 i q1 hi
      have := b2 i q2
      omega
  obtain ⟨i, hi, e⟩ := h
  obtain ⟨q1, q2⟩ := (key i hi).mp e
  exact ⟨i0, i1, by omega, b1, key⟩
/-- i0 .. i1-1 are the act's notes, fb its first bar, bs how many -/
def Act (m : ro_Mem) (N a i0 i1 fb bs : Nat) : Prop := i0 < i1 ∧ i1 ≤ N ∧ (∀ i, i < N → (nt_ m 5 i = a ↔ (i0 ≤ i ∧ i < i1))) ∧ fb = nt_ m 4 i0 ∧ nt_ m 4 (i1 - 1) = fb + bs - 1 ∧ 1 ≤ bs ∧ fb + bs ≤ 12 ∧ ∀ i, i0 ≤ i → i < i1 → fb ≤ nt_ m 4 i ∧ nt_ m 4 i < fb + bs
theorem Wd.act {m : ro_Mem} {N a : Nat} (hw : Wd m N) (h : ∃ i, i < N ∧ nt_ m 5 i = a) : ∃ i0 i1 fb bs, Act m N a i0 i1 fb bs := by
  obtain ⟨i0, i1, h1, h2, h3⟩ := hw.range h
  have hm : ∀ i j, i ≤ j → j < N → nt_ m 4 i ≤ nt_ m 4 j := fun i j hij hj => by
    have := (hw.mono (j - i) i (by omega)).2
    rwa [show i + (j - i) = j by omega] at this
  have hl := hm i0 (i1 - 1) (by omega) (by omega)
  have h12 := (hw.nt (show i1 - 1 < N by omega)).2.2.2.1
  refine ⟨i0, i1, nt_ m 4 i0, nt_ m 4 (i1 - 1) - nt_ m 4 i0 + 1, h1, h2, h3, rfl, by omega, by omega, by omega, fun i q1 q2 => ?_⟩
  have e1 := hm i0 i q1 (by omega)
  have e2 := hm i (i1 - 1) (by omega) (by omega)
  omega
theorem rt_sStart {m : ro_Mem} {N a i0 i1 fb bs : Nat} (hw : Wd m N) (hA : Act m N a i0 i1 fb bs) (ha : a < 4) : ∃ M, fn_X7_start (ro_rf m 1 1) (nI a) m = some M ∧ (∀ o, ¬ o = 199 → M o = m o) ∧ M 199 3 = nI a ∧ M 199 4 = nI fb ∧ M 199 5 = nI bs ∧ M 199 6 = 0 := by
  obtain ⟨h1, h2, h3, h4, h5, h6, h7, h8⟩ := hA
  have hN : N ≤ 32 := hw.2.2.2.2.2
  obtain ⟨hs, hL⟩ := cg_rf hw.2.1
  have hn : m (ro_rf m 1 1) 5 = nI N := hw.2.2.2.2.1
  unfold fn_X7_start
  rw [ro_lt, ro_lt, ro_lt]
  obtain ⟨m5, e5⟩ : ∃ m5, m5 = ro_set (ro_set (ro_set m 199 3 (nI a)) 199 6 0) 199 5 0 := ⟨_, rfl⟩
  rw [← e5]
  have n5 : ∀ o, ¬ o = 199 → m5 o = m o := fun o h => by rw [e5, ro_set_ne _ _ _ h, ro_set_ne _ _ _ h, ro_set_ne _ _ _ h]
  have k3 : m5 199 3 = nI a := by rw [e5, ro_set_same, pk_un (by decide), ro_set_same, pk_un (by decide), ro_set_same, pk_us]
  have k6 : m5 199 6 = 0 := by rw [e5, ro_set_same, pk_un (by decide), ro_set_same, pk_us]
  have k5 : m5 199 5 = 0 := by rw [e5, ro_set_same, pk_us]
  obtain ⟨cur, ecur⟩ : ∃ cur : Nat → Nat, cur = fun i => if i ≤ i0 then 0 else nt_ m 4 (min i i1 - 1) - fb + 1 := ⟨_, rfl⟩
  have hl : ∃ M, ((∀ o, ¬ o = 199 → M o = m o) ∧ M 199 3 = nI a ∧ M 199 6 = 0 ∧ M 199 5 = nI (cur N) ∧ (i0 < N → M 199 4 = nI fb)) ∧ fl_X7_start_17 (ro_rf m 1 1) (0, m5) = some M := by
    unfold fl_X7_start_17
    refine rt_cnt (fun i (M : ro_Mem) => (nI i, M)) (fun M => M) N (fun i M => (∀ o, ¬ o = 199 → M o = m o) ∧ M 199 3 = nI a ∧ M 199 6 = 0 ∧ M 199 5 = nI (cur i) ∧ (i0 < i → M 199 4 = nI fb)) ?_ ?_ ro_FU (Nat.lt_of_le_of_lt hN (by decide)) m5 ⟨n5, k3, k6, by rw [k5, ecur]; show (0 : Int32) = nI (if 0 ≤ i0 then 0 else _); rw [if_pos (Nat.zero_le _)]; rfl, fun h => absurd h (by omega)⟩
    · intro i hi rec M hP
      obtain ⟨p1, p2, p3, p4, p5⟩ := hP
      show ∃ s', _ ∧ fb_X7_start_17 (ro_rf m 1 1) rec (nI i) M = rec (nI (i + 1), s')
      obtain ⟨hnt, -, -, hb12, hac⟩ := hw.nt hi
      have e5n : M (ro_rf m 1 1) 5 = nI N := by rw [p1 _ (by omega)]; exact hn
      have ea : M (ro_rf m 1 1 + 5) i = nI (nt_ m 5 i) := by rw [p1 _ (by omega)]; exact (hnt 5 (by decide) (by decide)).1
      have eb : M (ro_rf m 1 1 + 4) i = nI (nt_ m 4 i) := by rw [p1 _ (by omega)]; exact (hnt 4 (by decide) (by decide)).1
      unfold fb_X7_start_17
      rw [e5n, if_neg (nI_ge hi (by omega)), if_pos (rt_in (n := 32) (by omega) (by decide)), nI_clamp (show i < 2 ^ 31 by omega), ea, eb, p2, nI_1]
      by_cases c : nt_ m 5 i = a
      · obtain ⟨q1, q2⟩ := (h3 i hi).mp c
        obtain ⟨b1, b2⟩ := h8 i q1 q2
        rw [if_pos (show nI (nt_ m 5 i) = nI a by rw [c])]
        have fin : fj_X7_start_59 rec (ro_rf m 1 1) (nI i) (nI fb) M = rec (nI (i + 1), ro_set (ro_set M 199 4 (nI fb)) 199 5 (nI (nt_ m 4 i - fb + 1))) := by
          unfold fj_X7_start_59
          have e1 : ro_set M 199 4 (nI fb) (ro_rf m 1 1 + 4) i = nI (nt_ m 4 i) := by rw [ro_set_ne _ _ _ (by omega)]; exact eb
          have e2 : ro_set M 199 4 (nI fb) 199 4 = nI fb := by rw [ro_set_same, pk_us]
          rw [ro_lt, if_pos (rt_in (n := 32) (by omega) (by decide)), nI_clamp (show i < 2 ^ 31 by omega), e1, e2, pk_sub b1, nI_1, show ro_mn 12 (nI (nt_ m 4 i - fb + 1)) = nI (min 12 (nt_ m 4 i - fb + 1)) from rt_mnn (x := 12) (by decide) (by omega), Nat.min_eq_right (by omega), ro_lt, nI_1]
        have hcur : cur (i + 1) = nt_ m 4 i - fb + 1 := by
          rw [ecur]
          show (if i + 1 ≤ i0 then 0 else nt_ m 4 (min (i + 1) i1 - 1) - fb + 1) = _
          rw [if_neg (by omega), Nat.min_eq_left (by omega), Nat.add_sub_cancel]
        refine ⟨ro_set (ro_set M 199 4 (nI fb)) 199 5 (nI (nt_ m 4 i - fb + 1)), ⟨fun o ho => by rw [ro_set_ne _ _ _ ho, ro_set_ne _ _ _ ho]; exact p1 o ho, by rw [ro_set_same, pk_un (by decide), ro_set_same, pk_un (by decide)]; exact p2, by rw [ro_set_same, pk_un (by decide), ro_set_same, pk_un (by decide)]; exact p3, by rw [ro_set_same, pk_us, hcur], fun _ => by rw [ro_set_same, pk_un (by decide), ro_set_same, pk_us]⟩, ?_⟩
        rw [p4]
        by_cases ci : i = i0
        · have hc0 : cur i = 0 := by rw [ecur]; exact if_pos (by omega)
          rw [if_pos (show nI (cur i) = 0 by rw [hc0]; rfl), show nt_ m 4 i = fb by rw [ci, h4]]
          rw [show nt_ m 4 i = fb by rw [ci, h4]] at fin
          exact fin
        · have hc1 : cur i = nt_ m 4 (i - 1) - fb + 1 := by
            rw [ecur]
            show (if i ≤ i0 then 0 else nt_ m 4 (min i i1 - 1) - fb + 1) = _
            rw [if_neg (by omega), Nat.min_eq_left (by omega)]
          have hb := (hw.nt (show i - 1 < N by omega)).2.2.2.1
          rw [if_neg (nI_ne0 (by omega) (by omega)), p5 (by omega)]
          exact fin
      · rw [if_neg (fun q => c ((nI_eq (by omega) (by omega)).mp q))]
        have hno : ¬ (i0 ≤ i ∧ i < i1) := fun q => c ((h3 i hi).mpr q)
        refine ⟨M, ⟨p1, p2, p3, ?_, fun h => ?_⟩, rfl⟩
        · rw [p4]
          congr 1
          rw [ecur]
          show (if i ≤ i0 then 0 else nt_ m 4 (min i i1 - 1) - fb + 1) = (if i + 1 ≤ i0 then 0 else nt_ m 4 (min (i + 1) i1 - 1) - fb + 1)
          by_cases ci : i < i0
          · rw [if_pos (by omega), if_pos (by omega)]
          · rw [if_neg (by omega), if_neg (by omega), Nat.min_eq_right (by omega), Nat.min_eq_right (by omega)]
        · exact p5 (by omega)
    · intro rec M hP
      have e5n : M (ro_rf m 1 1) 5 = nI N := by rw [hP.1 _ (by omega)]; exact hn
      show fb_X7_start_17 (ro_rf m 1 1) rec (nI N) M = _
      unfold fb_X7_start_17
      rw [e5n, if_pos (Int32.le_refl _)]
  obtain ⟨M, ⟨p1, p2, p3, p4, p5⟩, e⟩ := hl
  rw [e, Option.bind_some]
  refine ⟨M, rfl, p1, p2, p5 (by omega), ?_, p3⟩
  rw [p4]
  congr 1
  rw [ecur]
  show (if N ≤ i0 then 0 else nt_ m 4 (min N i1 - 1) - fb + 1) = bs
  rw [if_neg (by omega), Nat.min_eq_right h2, h5]
  omega
/-- what falls on a seat by a bar of the act, of the first i notes -/
def Fb (m : ro_Mem) (a fb s i b : Nat) : Nat := sp_sum (fun j => if nt_ m 5 j = a ∧ nt_ m 4 j = fb + b then ev_fn m 0 a s j else 0) i
theorem Fb_s {m : ro_Mem} {a fb s i b : Nat} : Fb m a fb s (i + 1) b = Fb m a fb s i b + (if nt_ m 5 i = a ∧ nt_ m 4 i = fb + b then ev_fn m 0 a s i else 0) := rfl
theorem Fb_le {m : ro_Mem} {a fb s i b : Nat} (hi : i ≤ 32) : Fb m a fb s i b ≤ 50688 := by
  have h1 : Fb m a fb s i b ≤ i * (16 * 99) := by
    unfold Fb
    refine sp_sum_bd (fun j _ => ?_)
    by_cases c : nt_ m 5 j = a ∧ nt_ m 4 j = fb + b
    · rw [if_pos c]; exact ev_fn_le m 0 a s j
    · rw [if_neg c]; omega
  have h2 : i * (16 * 99) ≤ 32 * (16 * 99) := Nat.mul_le_mul_right _ hi
  omega
theorem Fb_12 {m : ro_Mem} {a fb s i : Nat} (hi : i ≤ 32) : sp_sum (Fb m a fb s i) 12 < 2 ^ 20 := by
  have : sp_sum (Fb m a fb s i) 12 ≤ 12 * 50688 := sp_sum_bd (fun b _ => Fb_le hi)
  omega
theorem rt_sAdd {m M : ro_Mem} {N a i0 i1 fb bs : Nat} (hw : Wd m N) (hE : EVC m N m) (hA : Act m N a i0 i1 fb bs) (ha : a < 4) (hM : ∀ o, o < 199 → M o = m o) {n : Nat} {F : Nat → Nat → Nat} {fr to : Nat → Nat} (hQ : SQ n F fr to (fun _ => 0) M) (h3 : M 199 3 = nI a) (h4 : M 199 4 = nI fb) (hn : n < 20) {s x : Nat} (hs : s < 96) (hx : x < 256) : ∃ M', fn_X7_add (nI s) (nI x) M = some M' ∧ (∀ o, ¬ (199 ≤ o ∧ o ≤ 203) → M' o = M o) ∧ (∀ k, ¬ k = 6 → M' 199 k = M 199 k) ∧ SQ (n + 1) (ex_ F n (Fb m a fb s N)) (ex_ fr n (if x = 0 then 0 else nn (m 4 s) + x)) (ex_ to n (nn (m 4 s) + x)) (fun _ => 0) M' := by
  obtain ⟨c1, c2, c3, c4, c5, c6, c7, c8⟩ := hA
  have hN : N ≤ 32 := hw.2.2.2.2.2
  obtain ⟨hsc, hL⟩ := cg_rf hw.2.1
  obtain ⟨b1, b2, b3⟩ := hw.bu hs
  obtain ⟨a1, a2, a3⟩ := hQ
  have e4 : M 4 s = nI (nn (m 4 s)) := by rw [hM 4 (by decide)]; exact b1
  have body : ∀ t2 : Nat, ∃ M', fj_X7_add_41 (nI s) (nI x) (nI (nn (m 4 s))) (nI n) (nI t2) M = some M' ∧ (∀ o, ¬ (199 ≤ o ∧ o ≤ 203) → M' o = M o) ∧ (∀ k, ¬ k = 6 → M' 199 k = M 199 k) ∧ M' 199 6 = nI (n + 1) ∧ M' 200 = upd (M 200) n (nI t2) ∧ M' 201 = upd (M 201) n (nI (nn (m 4 s) + x)) ∧ M' 202 = upd (M 202) n 0 ∧ (∀ q, q < 13 * n → M' 203 q = M 203 q) ∧ ∀ b, b ≤ 12 → M' 203 (13 * n + b) = nI (sp_sum (Fb m a fb s N) b) := by
    intro t2
    unfold fj_X7_add_41
    rw [if_pos (rt_in hn (by decide)), nI_clamp (show n < 2 ^ 31 by omega), ro_lt]
    obtain ⟨m7, e7⟩ : ∃ m7, m7 = ro_set M 200 n (nI t2) := ⟨_, rfl⟩
    rw [← e7]
    have k7 : m7 199 6 = nI n := by rw [e7, ro_set_ne _ _ _ (by decide), a1]
    rw [k7, if_pos (rt_in hn (by decide)), nI_clamp (show n < 2 ^ 31 by omega), ro_lt, nI_add]
    obtain ⟨m10, e10⟩ : ∃ m10, m10 = ro_set m7 201 n (nI (nn (m 4 s) + x)) := ⟨_, rfl⟩
    rw [← e10]
    have k10 : m10 199 6 = nI n := by rw [e10, ro_set_ne _ _ _ (by decide), k7]
    rw [k10, if_pos (rt_in hn (by decide)), nI_clamp (show n < 2 ^ 31 by omega), ro_lt]
    obtain ⟨m13, e13⟩ : ∃ m13, m13 = ro_set m10 202 n 0 := ⟨_, rfl⟩
    rw [← e13]
    have k13 : m13 199 6 = nI n := by rw [e13, ro_set_ne _ _ _ (by decide), k10]
    have z13 : nI n * 13 = nI (13 * n) := by show nI n * nI 13 = _; rw [pk_mul, Nat.mul_comm]
    rw [k13, z13, ro_lt]
    have n13 : ∀ o, ¬ o = 200 → ¬ o = 201 → ¬ o = 202 → m13 o = M o := fun o h1 h2 h3 => by rw [e13, ro_set_ne _ _ _ h3, e10, ro_set_ne _ _ _ h2, e7, ro_set_ne _ _ _ h1]
    -- all noughts
    have l77 : ∃ q, ((∀ o, ¬ o = 203 → q o = m13 o) ∧ (∀ j, j < 13 * n → q 203 j = m13 203 j) ∧ ∀ b, b < 13 → q 203 (13 * n + b) = 0) ∧ fl_X7_add_77 (nI s) (nI (13 * n)) (0, m13) = some q := by
      unfold fl_X7_add_77
      refine rt_cnt (fun i (q : ro_Mem) => (nI i, q)) (fun q => q) 13 (fun i q => (∀ o, ¬ o = 203 → q o = m13 o) ∧ (∀ j, j < 13 * n → q 203 j = m13 203 j) ∧ ∀ b, b < i → q 203 (13 * n + b) = 0) ?_ ?_ ro_FU (by decide) m13 ⟨fun _ _ => rfl, fun _ _ => rfl, fun b h => absurd h (by omega)⟩
      · intro i hi rec q hP
        obtain ⟨p1, p2, p3⟩ := hP
        show ∃ s', _ ∧ fb_X7_add_77 (nI s) (nI (13 * n)) rec (nI i) q = rec (nI (i + 1), s')
        unfold fb_X7_add_77
        rw [if_neg (show ¬ (12 : Int32) < nI i from nI_nlt (a := 12) (by omega) (by decide)), nI_add, if_pos (rt_in (n := 260) (by omega) (by decide)), nI_clamp (show 13 * n + i < 2 ^ 31 by omega), ro_lt, nI_1]
        refine ⟨_, ⟨fun o ho => by rw [ro_set_ne _ _ _ ho]; exact p1 o ho, fun j hj => by rw [ro_set_same, pk_un (by omega)]; exact p2 j hj, fun b hb => ?_⟩, rfl⟩
        rw [ro_set_same]
        by_cases e : b = i
        · rw [e, pk_us]
        · rw [pk_un (by omega)]; exact p3 b (by omega)
      · intro rec q _
        rfl
    obtain ⟨q21, ⟨p1, p2, p3⟩, e77⟩ := l77
    rw [e77, Option.bind_some]
    have r21 : ro_rf q21 1 1 = ro_rf m 1 1 := by unfold ro_rf; rw [p1 1 (by decide), n13 1 (by decide) (by decide) (by decide), hM 1 (by decide)]
    rw [r21, if_pos (rt_score_id hsc)]
    have low : ∀ o, o < 199 → q21 o = m o := fun o ho => by rw [p1 o (by omega), n13 o (by omega) (by omega) (by omega), hM o ho]
    have q3 : q21 199 3 = nI a := by rw [p1 199 (by decide), n13 199 (by decide) (by decide) (by decide), h3]
    have q4 : q21 199 4 = nI fb := by rw [p1 199 (by decide), n13 199 (by decide) (by decide) (by decide), h4]
    -- the notes
    have l110 : ∃ r, ((∀ o, ¬ o = 203 → r o = q21 o) ∧ (∀ j, j < 13 * n → r 203 j = q21 203 j) ∧ r 203 (13 * n) = 0 ∧ ∀ b, b < 12 → r 203 (13 * n + (b + 1)) = nI (Fb m a fb s N b)) ∧ fl_X7_add_110 (nI s) (nI (13 * n)) (ro_rf m 1 1) (0, q21) = some r := by
      unfold fl_X7_add_110
      refine rt_cnt (fun i (r : ro_Mem) => (nI i, r)) (fun r => r) N (fun i r => (∀ o, ¬ o = 203 → r o = q21 o) ∧ (∀ j, j < 13 * n → r 203 j = q21 203 j) ∧ r 203 (13 * n) = 0 ∧ ∀ b, b < 12 → r 203 (13 * n + (b + 1)) = nI (Fb m a fb s i b)) ?_ ?_ ro_FU (Nat.lt_of_le_of_lt hN (by decide)) q21 ⟨fun _ _ => rfl, fun _ _ => rfl, p3 0 (by decide), fun b hb => p3 (b + 1) (by omega)⟩
      · intro i hi rec r hP
        obtain ⟨g1, g2, g3, g4⟩ := hP
        show ∃ s', _ ∧ fb_X7_add_110 (nI s) (nI (13 * n)) (ro_rf m 1 1) rec (nI i) r = rec (nI (i + 1), s')
        obtain ⟨hnt, -, -, hb12, hac⟩ := hw.nt hi
        have e5n : r (ro_rf m 1 1) 5 = nI N := by rw [g1 _ (by omega), low _ (by omega)]; exact hw.2.2.2.2.1
        have ea : r (ro_rf m 1 1 + 5) i = nI (nt_ m 5 i) := by rw [g1 _ (by omega), low _ (by omega)]; exact (hnt 5 (by decide) (by decide)).1
        have eb : r (ro_rf m 1 1 + 4) i = nI (nt_ m 4 i) := by rw [g1 _ (by omega), low _ (by omega)]; exact (hnt 4 (by decide) (by decide)).1
        have r3 : r 199 3 = nI a := by rw [g1 199 (by decide), q3]
        have r4 : r 199 4 = nI fb := by rw [g1 199 (by decide), q4]
        unfold fb_X7_add_110
        rw [e5n, if_neg (nI_ge hi (by omega)), if_pos (rt_in (n := 32) (by omega) (by decide)), nI_clamp (show i < 2 ^ 31 by omega), ea, eb, r3, r4, ro_lt, nI_1]
        by_cases c : nt_ m 5 i = a
        · obtain ⟨w1, w2⟩ := (c3 i hi).mp c
          obtain ⟨y1, y2⟩ := c8 i w1 w2
          have hfn := rt_fromNote (M := r) (a := a) (s := s) hw hE (by rw [g1 63 (by decide), low 63 (by decide)]) (by rw [g1 64 (by decide), low 64 (by decide)]) (by rw [g1 6 (by decide), low 6 (by decide)]) (by rw [g1 3 (by decide), low 3 (by decide)]) hi ha (by omega)
          rw [if_pos (show nI (nt_ m 5 i) = nI a by rw [c]), pk_sub y1, nI_1, if_neg (nI_nle (by omega) (by omega)), if_neg (show ¬ (12 : Int32) < nI (nt_ m 4 i - fb + 1) from nI_nlt (a := 12) (by omega) (by decide)), nI_add, if_pos (rt_in (n := 260) (by omega) (by decide)), hfn, Option.bind_some, nI_clamp (show 13 * n + (nt_ m 4 i - fb + 1) < 2 ^ 31 by omega), g4 (nt_ m 4 i - fb) (by omega), nI_add, ro_lt]
          refine ⟨_, ⟨fun o ho => by rw [ro_set_ne _ _ _ ho]; exact g1 o ho, fun j hj => by rw [ro_set_same, pk_un (by omega)]; exact g2 j hj, by rw [ro_set_same, pk_un (by omega)]; exact g3, fun b hb => ?_⟩, rfl⟩
          rw [ro_set_same, Fb_s]
          by_cases e : b = nt_ m 4 i - fb
          · rw [e, pk_us, if_pos ⟨c, by omega⟩]
          · rw [pk_un (by omega), g4 b hb, if_neg (show ¬ (nt_ m 5 i = a ∧ nt_ m 4 i = fb + b) from fun q => e (by omega))]
            rfl
        · rw [if_neg (fun q => c ((nI_eq (by omega) (by omega)).mp q))]
          refine ⟨r, ⟨g1, g2, g3, fun b hb => ?_⟩, rfl⟩
          rw [Fb_s, if_neg (show ¬ (nt_ m 5 i = a ∧ nt_ m 4 i = fb + b) from fun q => c q.1)]
          exact g4 b hb
      · intro rec r hP
        have e5n : r (ro_rf m 1 1) 5 = nI N := by rw [hP.1 _ (by omega), low _ (by omega)]; exact hw.2.2.2.2.1
        show fb_X7_add_110 (nI s) (nI (13 * n)) (ro_rf m 1 1) rec (nI N) r = _
        unfold fb_X7_add_110
        rw [e5n, if_pos (Int32.le_refl _)]
    obtain ⟨q36, ⟨g1, g2, g3, g4⟩, e110⟩ := l110
    rw [e110, Option.bind_some]
    -- one behind the other
    have l202 : ∃ r, ((∀ o, ¬ o = 203 → r o = q36 o) ∧ (∀ j, j < 13 * n → r 203 j = q36 203 j) ∧ (∀ b, b < 12 + 1 → r 203 (13 * n + b) = nI (sp_sum (Fb m a fb s N) b)) ∧ ∀ b, 12 + 1 ≤ b → b ≤ 12 → r 203 (13 * n + b) = q36 203 (13 * n + b)) ∧ fl_X7_add_202 (nI (13 * n)) (1, q36) = some r := by
      unfold fl_X7_add_202
      refine rt_cnt (fun i (r : ro_Mem) => (nI (i + 1), r)) (fun r => r) 12 (fun i r => (∀ o, ¬ o = 203 → r o = q36 o) ∧ (∀ j, j < 13 * n → r 203 j = q36 203 j) ∧ (∀ b, b < i + 1 → r 203 (13 * n + b) = nI (sp_sum (Fb m a fb s N) b)) ∧ ∀ b, i + 1 ≤ b → b ≤ 12 → r 203 (13 * n + b) = q36 203 (13 * n + b)) ?_ ?_ ro_FU (by decide) q36 ⟨fun _ _ => rfl, fun _ _ => rfl, fun b hb => by rw [show b = 0 by omega]; exact g3, fun _ _ _ => rfl⟩
      · intro i hi rec r hP
        obtain ⟨y1, y2, y3, y4⟩ := hP
        show ∃ s', _ ∧ fb_X7_add_202 (nI (13 * n)) rec (nI (i + 1)) r = rec (nI (i + 1 + 1), s')
        unfold fb_X7_add_202
        rw [if_neg (show ¬ (12 : Int32) < nI (i + 1) from nI_nlt (a := 12) (by omega) (by decide)), nI_add, if_pos (rt_in (n := 260) (by omega) (by decide)), show nI (13 * n + (i + 1)) - 1 = nI (13 * n + i) from nI_pred (13 * n + i), if_pos (rt_in (n := 260) (by omega) (by decide)), nI_clamp (show 13 * n + (i + 1) < 2 ^ 31 by omega), nI_clamp (show 13 * n + i < 2 ^ 31 by omega), y4 (i + 1) (Nat.le_refl _) (by omega), g4 i (by omega), y3 i (by omega), nI_add, ro_lt, nI_1]
        refine ⟨_, ⟨fun o ho => by rw [ro_set_ne _ _ _ ho]; exact y1 o ho, fun j hj => by rw [ro_set_same, pk_un (by omega)]; exact y2 j hj, fun b hb => ?_, fun b h1 h2 => ?_⟩, rfl⟩
        · rw [ro_set_same]
          by_cases e : b = i + 1
          · rw [e, pk_us, Nat.add_comm]
            rfl
          · rw [pk_un (by omega)]; exact y3 b (by omega)
        · rw [ro_set_same, pk_un (by omega)]; exact y4 b (by omega) h2
      · intro rec r _
        rfl
    obtain ⟨q43, ⟨y1, y2, y3, -⟩, e202⟩ := l202
    rw [e202, Option.bind_some, ro_lt]
    have k43 : q43 199 6 = nI n := by rw [y1 199 (by decide), g1 199 (by decide), p1 199 (by decide), k13]
    rw [k43, nI_1]
    have all : ∀ o, ¬ o = 199 → ¬ o = 203 → ro_set q43 199 6 (nI (n + 1)) o = m13 o := fun o h1 h2 => by rw [ro_set_ne _ _ _ h1, y1 o h2, g1 o h2, p1 o h2]
    refine ⟨_, rfl, fun o ho => ?_, fun k hk => ?_, by rw [ro_set_same, pk_us], ?_, ?_, ?_, fun q hq => ?_, fun b hb => ?_⟩
    · rw [all o (by omega) (by omega), n13 o (by omega) (by omega) (by omega)]
    · rw [ro_set_same, pk_un hk, y1 199 (by decide), g1 199 (by decide), p1 199 (by decide), n13 199 (by decide) (by decide) (by decide)]
    · rw [all 200 (by decide) (by decide), e13, ro_set_ne _ _ _ (by decide), e10, ro_set_ne _ _ _ (by decide), e7, ro_set_same]
    · rw [all 201 (by decide) (by decide), e13, ro_set_ne _ _ _ (by decide), e10, ro_set_same, e7, ro_set_ne _ _ _ (by decide)]
    · rw [all 202 (by decide) (by decide), e13, ro_set_same, e10, ro_set_ne _ _ _ (by decide), e7, ro_set_ne _ _ _ (by decide)]
    · rw [ro_set_ne _ _ _ (by decide), y2 q hq, g2 q hq, p2 q hq, n13 203 (by decide) (by decide) (by decide)]
    · rw [ro_set_ne _ _ _ (by decide)]; exact y3 b (by omega)
  have fin : ∀ t2, (if x = 0 then 0 else nn (m 4 s) + x) = t2 → ∀ M', (∀ o, ¬ (199 ≤ o ∧ o ≤ 203) → M' o = M o) ∧ (∀ k, ¬ k = 6 → M' 199 k = M 199 k) ∧ M' 199 6 = nI (n + 1) ∧ M' 200 = upd (M 200) n (nI t2) ∧ M' 201 = upd (M 201) n (nI (nn (m 4 s) + x)) ∧ M' 202 = upd (M 202) n 0 ∧ (∀ q, q < 13 * n → M' 203 q = M 203 q) ∧ (∀ b, b ≤ 12 → M' 203 (13 * n + b) = nI (sp_sum (Fb m a fb s N) b)) → SQ (n + 1) (ex_ F n (Fb m a fb s N)) (ex_ fr n (if x = 0 then 0 else nn (m 4 s) + x)) (ex_ to n (nn (m 4 s) + x)) (fun _ => 0) M' := by
    intro t2 ht2 M' h
    obtain ⟨z1, z2, z3, z4, z5, z6, z7, z8⟩ := h
    refine ⟨z3, by omega, fun t ht => ?_⟩
    by_cases e : t = n
    · subst e
      rw [ex_n, ex_n, ex_n, z4, z5, z6, pk_us, pk_us, pk_us, ht2]
      refine ⟨rfl, rfl, rfl, ?_, by omega, z8, Fb_12 hN⟩
      rw [← ht2]
      by_cases q : x = 0
      · rw [if_pos q]; omega
      · rw [if_neg q]; omega
    · obtain ⟨d1, d2, d3, d4, d5, d6, d7⟩ := a3 t (by omega)
      rw [ex_ne e, ex_ne e, ex_ne e, z4, z5, z6, pk_un e, pk_un e, pk_un e]
      exact ⟨d1, d2, d3, d4, d5, fun b hb => by rw [z7 _ (by omega)]; exact d6 b hb, d7⟩
  unfold fn_X7_add
  rw [a1, if_pos (show nI n < 20 from nI_lt (b := 20) hn (by decide)), if_pos (rt_in hs (by decide)), nI_clamp (show s < 2 ^ 31 by omega), e4, ro_lt]
  by_cases cx : x = 0
  · obtain ⟨M', f1, f2⟩ := body 0
    rw [if_pos (show nI x = 0 by rw [cx]; rfl)]
    exact ⟨M', f1, f2.1, f2.2.1, fin 0 (if_pos cx) M' f2⟩
  · obtain ⟨M', f1, f2⟩ := body (nn (m 4 s) + x)
    rw [if_neg (nI_ne0 (by omega) (by omega)), nI_add]
    exact ⟨M', f1, f2.1, f2.2.1, fin (nn (m 4 s) + x) (if_neg cx) M' f2⟩
