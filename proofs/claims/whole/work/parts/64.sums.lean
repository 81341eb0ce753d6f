-- ===== sums by loops =====
theorem rt_sumL {b : ((Int32 × Int32) → Option Int32) → (Int32 × Int32) → Option Int32} (f : Nat → Nat) (i0 n x0 : Nat) (hn : n < 1000) (hs : ∀ i, i < n → ∀ rec x, b rec (nI x, nI (i0 + i)) = rec (nI (x + f i), nI (i0 + i + 1))) (he : ∀ rec x, b rec (nI x, nI (i0 + n)) = some (nI x)) : ro_loop b ro_FU (nI x0, nI i0) = some (nI (x0 + sp_sum f n)) := by
  refine rt_loop (f := fun i => (nI (x0 + sp_sum f i), nI (i0 + i))) n ?_ ?_ ro_FU (Nat.lt_trans hn (by decide))
  · intro i hi rec
    show b rec (nI (x0 + sp_sum f i), nI (i0 + i)) = rec (nI (x0 + (sp_sum f i + f i)), nI (i0 + i + 1))
    rw [hs i hi rec, Nat.add_assoc]
  · intro rec
    exact he rec _
theorem rt_size {q s : Nat} (hq : q < 2 ^ 30) (hs : s < 2 ^ 30) : fn_X12_size (nI q - nI s) = some (nI (if s ≤ q then q - s else s - q)) := by
  unfold fn_X12_size
  by_cases c : s ≤ q
  · rw [pk_sub c, if_pos (show (0 : Int32) ≤ nI (q - s) from nI_le (a := 0) (by omega) (by omega)), if_pos c]
  · have h := pk_sneg (a := q) (b := s) hs (by omega)
    rw [if_neg (fun e => by rw [fa_lt] at h; rw [fa_le] at e; omega), if_neg c, Int32.zero_sub, Int32.neg_sub, pk_sub (by omega)]
theorem rt_abs {q s : Nat} (hq : q < 2 ^ 30) (hs : s < 2 ^ 30) : ro_ab (nI q - nI s) = nI (if s ≤ q then q - s else s - q) := by
  unfold ro_ab
  by_cases c : s ≤ q
  · rw [pk_sub c, if_pos c, if_pos (show (0 : Int32) ≤ nI (q - s) from nI_le (a := 0) (by omega) (by omega))]
  · have h := pk_sneg (a := q) (b := s) hs (by omega)
    rw [if_neg (fun e => by rw [fa_lt] at h; rw [fa_le] at e; omega), if_neg c, Int32.zero_sub, Int32.neg_sub, pk_sub (by omega)]
theorem rt_div12 {q s : Nat} (hq : q < 2 ^ 30) (hs : s < 2 ^ 30) : (nI q / 12 = nI s / 12) = (q / 12 = s / 12) := by
  show (nI q / nI 12 = nI s / nI 12) = _
  rw [pk_div (by omega) (by decide) (by decide), pk_div (by omega) (by decide) (by decide)]
  exact propext (nI_eq (by omega) (by omega))
theorem rt_nIe {a b : Nat} (ha : a < 2 ^ 31) (hb : b < 2 ^ 31) : (nI a = nI b) = (a = b) := propext (nI_eq ha hb)
theorem rt_dist {q s : Nat} (hq : q < 2 ^ 30) (hs : s < 2 ^ 30) : (nI (if s ≤ q then q - s else s - q) = 1) ↔ (q + 1 = s ∨ s + 1 = q) := by
  have e : (nI (if s ≤ q then q - s else s - q) = nI 1) ↔ (if s ≤ q then q - s else s - q) = 1 := by
    by_cases c : s ≤ q
    · rw [if_pos c]; exact nI_eq (by omega) (by decide)
    · rw [if_neg c]; exact nI_eq (by omega) (by decide)
  refine e.trans ?_
  by_cases c : s ≤ q
  · rw [if_pos c]; omega
  · rw [if_neg c]; omega
theorem rt_landsM {m : ro_Mem} {um : Nat → Int32} {k s d q : Nat} (hk : k < 16) (hq : m 211 k = nI q) (hq9 : q < 96) (hu : m 208 q = um q) (hs : s < 2 ^ 20) (hd : d < 2 ^ 20) : fn_X12_lands_ (nI k) (nI s) (nI d) m = some (nI (sp_share um q s d)) := by
  have hdist := rt_dist (q := q) (s := s) (by omega) (by omega)
  have h12 := rt_div12 (q := q) (s := s) (by omega) (by omega)
  unfold fn_X12_lands_ sp_share
  rw [if_pos (rt_in hk (by decide)), nI_clamp (show k < 2 ^ 31 by omega), hq, ro_lt, if_pos (rt_in hq9 (by decide)), nI_clamp (show q < 2 ^ 31 by omega), hu, rt_size (by omega) (by omega), rt_div3 (by omega)]
  by_cases c : um q = 0
  · rw [if_pos c, if_pos c]
    by_cases e : q = s
    · rw [if_pos (show nI q = nI s by rw [e]), if_pos e]
    · rw [if_neg (fun h => e ((nI_eq (by omega) (by omega)).mp h)), if_neg e]; rfl
  · rw [if_neg c, if_neg c]
    by_cases e : q / 12 = s / 12
    · rw [if_pos (h12.mpr e), Option.bind_some]
      by_cases e2 : q + 1 = s ∨ s + 1 = q
      · rw [if_pos (hdist.mpr e2), if_pos (show (q + 1 = s ∨ s + 1 = q) ∧ q / 12 = s / 12 from ⟨e2, e⟩)]
      · rw [if_neg (fun h => e2 (hdist.mp h)), if_neg (show ¬ ((q + 1 = s ∨ s + 1 = q) ∧ q / 12 = s / 12) from fun h => e2 h.1)]; rfl
    · rw [if_neg (fun h => e (h12.mp h)), if_neg (show ¬ ((q + 1 = s ∨ s + 1 = q) ∧ q / 12 = s / 12) from fun h => e h.2)]; rfl
theorem rt_share {m : ro_Mem} {um : Nat → Int32} {s d q : Nat} (hq9 : q < 96) (hu : m 3 = um) (hs : s < 2 ^ 20) (hd : d < 2 ^ 20) : fn_X1_share 2 (nI q) (nI s) (nI d) m = some (nI (sp_share um q s d)) := by
  have hdist := rt_dist (q := q) (s := s) (by omega) (by omega)
  have h12 := rt_div12 (q := q) (s := s) (by omega) (by omega)
  unfold fn_X1_share sp_share fj_X1_share_45 fj_X1_share_46
  rw [if_pos (rt_in hq9 (by decide)), nI_clamp (show q < 2 ^ 31 by omega), show m (2 + 1) q = um q by rw [← hu], rt_abs (by omega) (by omega), rt_div3 (by omega)]
  by_cases c : um q = 0
  · rw [if_pos c, if_pos c]
    by_cases e : q = s
    · rw [if_pos (show nI q = nI s by rw [e]), if_pos e]
    · rw [if_neg (fun h => e ((nI_eq (by omega) (by omega)).mp h)), if_neg e]; rfl
  · rw [if_neg c, if_neg c, if_neg rt_10, if_pos rfl]
    by_cases e2 : q + 1 = s ∨ s + 1 = q
    · rw [if_pos (hdist.mpr e2)]
      by_cases e : q / 12 = s / 12
      · rw [if_pos (h12.mpr e), if_pos (show (q + 1 = s ∨ s + 1 = q) ∧ q / 12 = s / 12 from ⟨e2, e⟩)]
      · rw [if_neg (fun h => e (h12.mp h)), if_neg (show ¬ ((q + 1 = s ∨ s + 1 = q) ∧ q / 12 = s / 12) from fun h => e h.2)]; rfl
    · rw [if_neg (fun h => e2 (hdist.mp h)), if_neg (show ¬ ((q + 1 = s ∨ s + 1 = q) ∧ q / 12 = s / 12) from fun h => e2 h.1)]; rfl
-- ===== what falls where =====
def ev_fl (μ : ro_Mem) (sh : Int32) (a s i k : Nat) : Nat := sp_fall (ev_D μ sh) (ev_F μ sh) (μ 3) (μ 6) a s i k
def ev_fn (μ : ro_Mem) (sh : Int32) (a s i : Nat) : Nat := sp_sum (fun k => ev_fl μ sh a s i k) 16
def ev_fs (μ : ro_Mem) (sh : Int32) (N a s k : Nat) : Nat := sp_sum (fun i => ev_fl μ sh a s i k) N
def ev_al (μ : ro_Mem) (sh : Int32) (N a s : Nat) : Nat := sp_prev (ev_D μ sh) (ev_F μ sh) (μ 3) (μ 6) a s (16 * N)
def ev_wt (μ : ro_Mem) (sh : Int32) (N a s : Nat) : Nat := ev_al μ sh N a s - nn (μ 4 s)
theorem ev_W_wt (μ : ro_Mem) (N a s : Nat) : ev_W μ N a s = ev_wt μ 0 N a s := rfl
theorem sp_share_le (um : Nat → Int32) (q s d : Nat) : sp_share um q s d ≤ d := by
  unfold sp_share
  by_cases c : um q = 0
  · rw [if_pos c]
    by_cases e : q = s
    · rw [if_pos e]; exact Nat.le_refl _
    · rw [if_neg e]; omega
  · rw [if_neg c]
    by_cases e : (q + 1 = s ∨ s + 1 = q) ∧ q / 12 = s / 12
    · rw [if_pos e]; omega
    · rw [if_neg e]; omega
theorem ev_fl_le (μ : ro_Mem) (sh : Int32) (a s i k : Nat) : ev_fl μ sh a s i k ≤ 99 := by
  unfold ev_fl sp_fall
  have := ev_D_le μ sh i k
  by_cases c : 0 < ev_D μ sh i k ∧ ev_F μ sh i k = a
  · rw [if_pos c]
    exact Nat.le_trans (sp_share_le _ _ _ _) this
  · rw [if_neg c]; omega
theorem ev_fn_le (μ : ro_Mem) (sh : Int32) (a s i : Nat) : ev_fn μ sh a s i ≤ 16 * 99 := sp_sum_bd (fun k _ => ev_fl_le μ sh a s i k)
theorem ev_fs_le (μ : ro_Mem) (sh : Int32) {N : Nat} (a s k : Nat) : ev_fs μ sh N a s k ≤ N * 99 := sp_sum_bd (fun i _ => ev_fl_le μ sh a s i k)
theorem ev_al_n (μ : ro_Mem) (sh : Int32) (N a s : Nat) : ev_al μ sh N a s = sp_sum (fun i => ev_fn μ sh a s i) N := by
  unfold ev_al sp_prev
  rw [sp_sum_16]
  refine sp_sum_cg (fun i _ => sp_sum_cg (fun k hk => ?_))
  rw [show (16 * i + k) / 16 = i by omega, show (16 * i + k) % 16 = k by omega]
  rfl
theorem ev_al_s (μ : ro_Mem) (sh : Int32) (N a s : Nat) : ev_al μ sh N a s = sp_sum (fun k => ev_fs μ sh N a s k) 16 := by
  rw [ev_al_n]
  unfold ev_fn ev_fs
  exact sp_sum_swap
theorem ev_al_le (μ : ro_Mem) (sh : Int32) {N : Nat} (hN : N ≤ 32) (a s : Nat) : ev_al μ sh N a s ≤ 50688 := by
  have : ev_al μ sh N a s ≤ 16 * N * 99 := sp_prev_le (ev_D_le μ sh)
  have h2 : 16 * N * 99 ≤ 512 * 99 := Nat.mul_le_mul_right _ (by omega)
  omega
theorem ev_wt_le (μ : ro_Mem) (sh : Int32) {N : Nat} (hN : N ≤ 32) (a s : Nat) : ev_wt μ sh N a s ≤ 50688 := by
  have := ev_al_le μ sh hN a s
  unfold ev_wt; omega
/-- the reference's memory behind laysDrops -/
def LM (μ : ro_Mem) (sh : Int32) (N : Nat) (m : ro_Mem) : Prop := (∀ i k, i < N → k < 16 → m 241 (16 * i + k) = nI (ev_D μ sh i k) ∧ m 242 (16 * i + k) = if 0 < ev_D μ sh i k ∧ ev_S μ sh i k = true then 1 else 0) ∧ m 222 = μ 222 ∧ m 211 = μ 211 ∧ m 208 = μ 208 ∧ m 209 = μ 209 ∧ m 207 18 = μ 207 18
theorem PM.lm {μ m : ro_Mem} {N : Nat} {sh : Int32} (h : PM μ sh (16 * N) m) : LM μ sh N m := by
  refine ⟨fun i k hi hk => ?_, h.1 _ (by decide) (by decide) (by decide) (by decide), h.1 _ (by decide) (by decide) (by decide) (by decide), h.1 _ (by decide) (by decide) (by decide) (by decide), h.1 _ (by decide) (by decide) (by decide) (by decide), by rw [h.1 207 (by decide) (by decide) (by decide) (by decide)]⟩
  have := h.2 (16 * i + k) (by omega)
  rwa [show (16 * i + k) / 16 = i by omega, show (16 * i + k) % 16 = k by omega] at this
theorem LM.put {μ m m' : ro_Mem} {N : Nat} {sh : Int32} (h : LM μ sh N m) (h' : ∀ o, (o = 241 ∨ o = 242 ∨ o = 222 ∨ o = 211 ∨ o = 208 ∨ o = 209) → m' o = m o) (h2 : m' 207 18 = m 207 18) : LM μ sh N m' := by
  obtain ⟨a, b, c, d, e, f⟩ := h
  refine ⟨fun i k hi hk => ?_, by rw [h' 222 (by omega), b], by rw [h' 211 (by omega), c], by rw [h' 208 (by omega), d], by rw [h' 209 (by omega), e], by rw [h2, f]⟩
  rw [h' 241 (by omega), h' 242 (by omega)]
  exact a i k hi hk
theorem rt_fallsIn {μ m : ro_Mem} {N : Nat} {sh : Int32} (hw : Wd μ N) (h : LM μ sh N m) {i k : Nat} (hi : i < N) (hk : k < 16) (hD : 0 < ev_D μ sh i k) : fn_X12_fallsIn (nI i) (nI k) m = some (if ev_F μ sh i k < 4 then nI (ev_F μ sh i k) else -1) := by
  have hn2 : N ≤ 32 := hw.2.2.2.2.2
  obtain ⟨-, d2⟩ := h.1 i k hi hk
  obtain ⟨hnt, -, -, -, hac⟩ := hw.nt hi
  have e16 : (16 : Int32) * nI i + nI k = nI (16 * i + k) := by
    show nI 16 * nI i + nI k = _
    rw [pk_mul, nI_add]
  have ma : m 222 i = nI (nt_ μ 5 i) := by rw [h.2.1]; exact (hnt 5 (by decide) (by decide)).2.1
  unfold fn_X12_fallsIn fj_X12_fallsIn_25
  rw [if_pos (rt_in (by omega) (by decide)), e16, if_pos (rt_in (n := 512) (by omega) (by decide)), nI_clamp (show 16 * i + k < 2 ^ 31 by omega), nI_clamp (show i < 2 ^ 31 by omega), ma, d2, ev_F_eq]
  have fin : ∀ x, x < 10 → (ro_lt (nI x) fun z4 => if 4 ≤ z4 then some (-1) else some z4) = some (if x < 4 then nI x else -1) := by
    intro x hx
    rw [ro_lt]
    by_cases c : x < 4
    · rw [if_pos c, if_neg (show ¬ (4 : Int32) ≤ nI x from nI_ge (b := 4) c (by decide))]
    · rw [if_neg c, if_pos (show (4 : Int32) ≤ nI x from nI_le (a := 4) (by omega) (by omega))]
  by_cases c : ev_S μ sh i k = true
  · rw [if_pos (show 0 < ev_D μ sh i k ∧ _ from ⟨hD, c⟩), if_neg rt_10, if_pos c, nI_1]
    exact fin _ (by omega)
  · rw [if_neg (show ¬ (0 < ev_D μ sh i k ∧ ev_S μ sh i k = true) from fun h => c h.2), if_pos rfl, if_neg c, show nI (nt_ μ 5 i) + 0 = nI (nt_ μ 5 i + 0) from Int32.add_zero _]
    exact fin _ (by omega)
theorem rt_byNote {μ m : ro_Mem} {N : Nat} {sh : Int32} (hw : Wd μ N) (h : LM μ sh N m) {i a s : Nat} (hi : i < N) (ha : a < 4) (hs : s < 2 ^ 20) : fn_X12_byNote (nI i) (nI a) (nI s) m = some (nI (ev_fn μ sh a s i)) := by
  have hn2 : N ≤ 32 := hw.2.2.2.2.2
  unfold fn_X12_byNote fl_X12_byNote_6
  rw [show ((0 : Int32), (0 : Int32)) = (nI 0, nI 0) from rfl, rt_sumL (fun k => ev_fl μ sh a s i k) 0 16 0 (by decide) ?_ ?_, Option.bind_some, Nat.zero_add]
  · rfl
  · intro k hk rec x
    rw [Nat.zero_add]
    show fb_X12_byNote_6 (nI i) (nI a) (nI s) m rec (nI x) (nI k) = _
    unfold fb_X12_byNote_6
    have e16 : (16 : Int32) * nI i + nI k = nI (16 * i + k) := by
      show nI 16 * nI i + nI k = _
      rw [pk_mul, nI_add]
    obtain ⟨d1, -⟩ := h.1 i k hi hk
    have hD9 := ev_D_le μ sh i k
    have hF4 := ev_F_le hw (sh := sh) (k := k) hi
    rw [if_neg (show ¬ (16 : Int32) ≤ nI k from nI_ge (b := 16) hk (by decide)), e16, if_pos (rt_in (n := 512) (by omega) (by decide)), nI_clamp (show 16 * i + k < 2 ^ 31 by omega), d1, nI_1]
    unfold ev_fl sp_fall
    by_cases c : ev_D μ sh i k = 0
    · rw [if_pos (show nI (ev_D μ sh i k) ≤ 0 by rw [c]; exact Int32.le_refl _), if_neg (fun q => by omega)]
      rfl
    · rw [if_neg (show ¬ nI (ev_D μ sh i k) ≤ 0 from nI_nle (by omega) (by omega)), rt_fallsIn hw h hi hk (by omega), Option.bind_some]
      by_cases cF : ev_F μ sh i k = a
      · obtain ⟨q1, q2, q3⟩ := hw.ss hk
        rw [if_pos (show (if ev_F μ sh i k < 4 then nI (ev_F μ sh i k) else -1) = nI a by rw [if_pos (by omega), cF]), if_pos ⟨by omega, cF⟩, rt_landsM (um := μ 3) hk (by rw [h.2.2.1]; exact q3 (ev_D_told (sh := sh) (i := i) (by omega))) q2 (by rw [h.2.2.2.1]; exact (hw.um q2).1) hs (by omega), Option.bind_some, ro_lt, nI_add]
        rfl
      · rw [if_neg, if_neg (fun q => cF q.2)]
        · rfl
        · intro q
          by_cases c4 : ev_F μ sh i k < 4
          · rw [if_pos c4, rt_nIe (by omega) (by omega)] at q; exact cF q
          · rw [if_neg c4] at q; exact rt_m1 (by omega) q.symm
  · intro rec x
    rfl
theorem rt_allOn {μ m : ro_Mem} {N : Nat} {sh : Int32} (hw : Wd μ N) (h : LM μ sh N m) {a s : Nat} (ha : a < 4) (hs : s < 2 ^ 20) : fn_X12_allOn (nI a) (nI s) m = some (nI (ev_al μ sh N a s)) := by
  have hn2 : N ≤ 32 := hw.2.2.2.2.2
  have hn : m 207 18 = nI N := by rw [h.2.2.2.2.2]; exact hw.notes.1
  unfold fn_X12_allOn fl_X12_allOn_5
  rw [show ((0 : Int32), (0 : Int32)) = (nI 0, nI 0) from rfl, rt_sumL (fun i => ev_fn μ sh a s i) 0 N 0 (by omega) ?_ ?_, Option.bind_some, Nat.zero_add, ev_al_n]
  · intro i hi rec x
    rw [Nat.zero_add]
    show fb_X12_allOn_5 (nI a) (nI s) m rec (nI x) (nI i) = _
    unfold fb_X12_allOn_5
    rw [hn, if_neg (nI_ge hi (by omega)), rt_byNote hw h hi ha hs, Option.bind_some, ro_lt, nI_add, nI_1]
  · intro rec x
    rw [Nat.zero_add]
    show fb_X12_allOn_5 (nI a) (nI s) m rec (nI x) (nI N) = _
    unfold fb_X12_allOn_5
    rw [hn, if_pos (Int32.le_refl _)]
theorem rt_wetOn {μ m : ro_Mem} {N : Nat} {sh : Int32} (hw : Wd μ N) (h : LM μ sh N m) {a s : Nat} (ha : a < 4) (hs : s < 96) : fn_X12_wetOn (nI a) (nI s) m = some (nI (ev_wt μ sh N a s)) := by
  have hn2 : N ≤ 32 := hw.2.2.2.2.2
  unfold fn_X12_wetOn
  obtain ⟨b1, b2, b3⟩ := hw.bu hs
  have := ev_al_le μ sh hn2 a s
  rw [if_neg (rt_255 hs), rt_allOn hw h ha (by omega), Option.bind_some, if_pos (rt_in hs (by decide)), nI_clamp (by omega), h.2.2.2.2.1, b3, b1, rt_maxs (by omega) (by omega), Option.bind_some]
  rfl
theorem rt_wetOut {m : ro_Mem} {v : Int32} : fn_X12_wetOn v 255 m = some 0 := by
  unfold fn_X12_wetOn
  rw [if_pos rfl]
theorem rt_wetAll {μ m : ro_Mem} {N : Nat} {sh : Int32} (hw : Wd μ N) (h : LM μ sh N m) {s : Nat} (hs : s < 96) : fn_X12_wetAll (nI s) m = some (nI (sp_sum (fun a => ev_wt μ sh N a s) 4)) := by
  unfold fn_X12_wetAll fl_X12_wetAll_4
  rw [show ((0 : Int32), (0 : Int32)) = (nI 0, nI 0) from rfl, rt_sumL (fun a => ev_wt μ sh N a s) 0 4 0 (by decide) ?_ ?_, Option.bind_some, Nat.zero_add]
  · intro i hi rec x
    rw [Nat.zero_add]
    show fb_X12_wetAll_4 (nI s) m rec (nI x) (nI i) = _
    unfold fb_X12_wetAll_4
    rw [if_neg (show ¬ (4 : Int32) ≤ nI i from nI_ge (b := 4) hi (by decide)), rt_wetOn hw h hi hs, Option.bind_some, ro_lt, nI_add, nI_1]
  · intro rec x
    rfl
/-- a guest's seat: out, or a seat -/
def st_ (μ : ro_Mem) (a g : Nat) : Nat := nn (μ 11 (10 * a + g))
theorem Wd.st {μ : ro_Mem} {N : Nat} (hw : Wd μ N) {a g : Nat} (ha : a < 4) (hg : g < 10) : μ 11 (10 * a + g) = nI (st_ μ a g) ∧ (st_ μ a g = 255 ∨ st_ μ a g < 96) ∧ (bt (μ 2 11) g = true → μ 216 (10 * a + g) = nI (st_ μ a g)) ∧ (bt (μ 2 11) g = false → st_ μ a g = 255) := by
  obtain ⟨⟨-, -, -, -, -, hG, -⟩, -⟩ := hw
  obtain ⟨-, -, -, h4, h5, -⟩ := hG
  unfold st_
  rcases h5 a g ha hg with e | ⟨t, n, hn, e⟩
  · rw [e]
    refine ⟨rfl, Or.inl rfl, fun t => by rw [h4 a g ha hg t, e]; rfl, fun _ => rfl⟩
  · rw [e, nn_nI (by omega)]
    refine ⟨rfl, Or.inr hn, fun t => by rw [h4 a g ha hg t, e], fun t' => ?_⟩
    rw [t] at t'; cases t'
def gw_ (μ : ro_Mem) (sh : Int32) (N a g : Nat) : Nat := if st_ μ a g < 96 then ev_wt μ sh N a (st_ μ a g) else 0
theorem rt_wetSt {μ m : ro_Mem} {N : Nat} {sh : Int32} (hw : Wd μ N) (h : LM μ sh N m) {a g : Nat} (ha : a < 4) (hg : g < 10) (ht : bt (μ 2 11) g = true) (h216 : m 216 = μ 216) : fn_X12_wetOn (nI a) (m 216 (10 * a + g)) m = some (nI (gw_ μ sh N a g)) := by
  obtain ⟨s1, s2, s3, s4⟩ := hw.st ha hg
  rw [h216, s3 ht]
  unfold gw_
  rcases s2 with e | e
  · rw [e, if_neg (by omega)]
    exact rt_wetOut
  · rw [if_pos e]
    exact rt_wetOn hw h ha e
theorem rt_guestWetAll {μ m : ro_Mem} {N : Nat} {sh : Int32} (hw : Wd μ N) (h : LM μ sh N m) {g : Nat} (hg : g < 10) (ht : bt (μ 2 11) g = true) (h216 : m 216 = μ 216) : fn_X12_guestWetAll (nI g) m = some (nI (sp_sum (fun a => gw_ μ sh N a g) 4)) := by
  unfold fn_X12_guestWetAll fl_X12_guestWetAll_4
  rw [show ((0 : Int32), (0 : Int32)) = (nI 0, nI 0) from rfl, rt_sumL (fun a => gw_ μ sh N a g) 0 4 0 (by decide) ?_ ?_, Option.bind_some, Nat.zero_add]
  · intro i hi rec x
    rw [Nat.zero_add]
    show fb_X12_guestWetAll_4 (nI g) m rec (nI x) (nI i) = _
    unfold fb_X12_guestWetAll_4
    have e10 : (10 : Int32) * nI i + nI g = nI (10 * i + g) := by
      show nI 10 * nI i + nI g = _
      rw [pk_mul, nI_add]
    rw [if_neg (show ¬ (4 : Int32) ≤ nI i from nI_ge (b := 4) hi (by decide)), e10, if_pos (rt_in (n := 40) (by omega) (by decide)), nI_clamp (by omega), rt_wetSt hw h hi hg ht h216, Option.bind_some, ro_lt, nI_add, nI_1]
  · intro rec x
    rfl
