-- ===== an act, seat by seat =====
theorem rt_mxs {x y : Nat} (hx : x < 2 ^ 30) (hy : y < 2 ^ 30) : ro_mx 0 (nI x - nI y) = nI (x - y) := by
  unfold ro_mx
  by_cases h : y < x
  · rw [pk_sub (by omega), if_pos (show (0 : Int32) < nI (x - y) from nI_lt (a := 0) (by omega) (by omega))]
  · by_cases e : x = y
    · subst e
      rw [pk_sub (Nat.le_refl _), if_neg, Nat.sub_self]
      · rfl
      · rw [Nat.sub_self]; decide
    · rw [if_neg, show x - y = 0 by omega]
      · rfl
      · intro q
        have := pk_sneg (a := x) (b := y) hy (by omega)
        rw [fa_lt] at this q
        omega
theorem rt_maxs {x y : Nat} (hx : x < 2 ^ 30) (hy : y < 2 ^ 30) : fn_X12_max 0 (nI x - nI y) = some (nI (x - y)) := by
  unfold fn_X12_max
  by_cases h : y ≤ x
  · rw [pk_sub h, if_pos (show (0 : Int32) ≤ nI (x - y) from nI_le (a := 0) (by omega) (by omega))]
  · have := pk_sneg (a := x) (b := y) hy (by omega)
    rw [if_neg (fun q => by rw [fa_lt] at this; rw [fa_le] at q; omega), show x - y = 0 by omega]
    rfl
theorem rt_mins {x y : Nat} (hx : x < 2 ^ 30) (hy : y < 2 ^ 30) : fn_X12_min (nI x) (nI y) = some (nI (min x y)) := by
  unfold fn_X12_min
  by_cases h : y ≤ x
  · rw [if_pos (nI_le h (by omega)), Nat.min_eq_right h]
  · rw [if_neg (fun q => h ((nI_leI (by omega) (by omega)).mp q)), Nat.min_eq_left (by omega)]
def nn (x : Int32) : Nat := x.toNatClampNeg
def EvA (bu : Nat → Int32) (a : Nat) (G : Nat → Nat → Nat) (P : Nat → Nat) (w l : Nat → Int32) : Prop :=
  (∀ a' s, a' < 4 → s < 96 → ¬ a' = a → w (96 * a' + s) = nI (G a' s)) ∧ ∀ s, s < 96 → w (96 * a + s) = nI (P s - nn (bu s)) ∧ l s = nI (nn (bu s) - P s)
def ad_ (P : Nat → Nat) (s0 x : Nat) : Nat → Nat := fun s => P s + (if s = s0 then x else 0)
theorem EvA.cg {bu : Nat → Int32} {a : Nat} {G : Nat → Nat → Nat} {P P' : Nat → Nat} {w l : Nat → Int32} (h : EvA bu a G P w l) (e : ∀ s, s < 96 → P' s = P s) : EvA bu a G P' w l := ⟨h.1, fun s hs => by rw [e s hs]; exact h.2 s hs⟩
theorem EvA.land {bu : Nat → Int32} {a : Nat} {G : Nat → Nat → Nat} {P : Nat → Nat} {w l : Nat → Int32} (h : EvA bu a G P w l) {s0 x : Nat} (ha : a < 4) (hs : s0 < 96) : EvA bu a G (ad_ P s0 x) (upd w (96 * a + s0) (nI (P s0 + x - nn (bu s0)))) (upd l s0 (nI (nn (bu s0) - (P s0 + x)))) := by
  refine ⟨fun a' s ha' hs' hne => ?_, fun s hs' => ?_⟩
  · rw [pk_un (by omega)]; exact h.1 a' s ha' hs' hne
  · unfold ad_
    by_cases e : s = s0
    · subst e
      rw [pk_us, pk_us, if_pos rfl]
      exact ⟨rfl, rfl⟩
    · rw [pk_un (by omega), pk_un e, if_neg e]
      exact h.2 s hs'
theorem rt_land {bu : Nat → Int32} {a : Nat} {G : Nat → Nat → Nat} {P : Nat → Nat} {μ : ro_Mem} (h : EvA bu a G P (μ 65) (μ 68)) {s0 x : Nat} (ha : a < 4) (hs : s0 < 96) (hb : nn (bu s0) ≤ 99) (hP : P s0 < 2 ^ 20) (hx : x ≤ 99) : ∃ m', fn_X0_land (nI a) (nI s0) (nI x) μ = some (nI ((P s0 + x - nn (bu s0)) - (P s0 - nn (bu s0))), m') ∧ EvA bu a G (ad_ P s0 x) (m' 65) (m' 68) ∧ ∀ o, ¬ o = 65 → ¬ o = 68 → m' o = μ o := by
  obtain ⟨e1, e2⟩ := h.2 s0 hs
  have hr : x - (nn (bu s0) - P s0) = (P s0 + x - nn (bu s0)) - (P s0 - nn (bu s0)) := by omega
  have e96 : nI a * 96 + nI s0 = nI (96 * a + s0) := by
    show nI a * nI 96 + nI s0 = _
    rw [pk_mul, nI_add, Nat.mul_comm]
  unfold fn_X0_land
  rw [if_pos (rt_in hs (by decide)), nI_clamp (show s0 < 2 ^ 31 by omega), e2, rt_mxs (by omega) (by omega), ro_lt, hr, e96, pk_sub (by omega), pk_sub (by omega), ro_lt, if_pos (rt_in (by omega) (by decide)), nI_clamp (show 96 * a + s0 < 2 ^ 31 by omega), ro_lt, ro_set_ne _ _ _ (show ¬ 65 = 68 by decide), e1, nI_add]
  refine ⟨_, rfl, ?_, fun o h1 h2 => by rw [ro_set_ne _ _ _ h1, ro_set_ne _ _ _ h2]⟩
  rw [ro_set_same, ro_set_ne _ _ _ (show ¬ 68 = 65 by decide), ro_set_same, ro_set_ne _ _ _ (show ¬ 65 = 68 by decide)]
  have := h.land (x := x) ha hs
  rwa [show nn (bu s0) - P s0 - (x - (P s0 + x - nn (bu s0) - (P s0 - nn (bu s0)))) = nn (bu s0) - (P s0 + x) by omega, show P s0 - nn (bu s0) + (P s0 + x - nn (bu s0) - (P s0 - nn (bu s0))) = P s0 + x - nn (bu s0) by omega]
def Nt (f : Nat → Nat) (n : Nat) (g : Nat → Int32) : Prop := ∀ i, i < n → g i = nI (f i)
theorem Nt.add {f : Nat → Nat} {n : Nat} {g : Nat → Int32} (h : Nt f n g) {i0 : Nat} (hi : i0 < n) (x : Nat) : Nt (ad_ f i0 x) n (upd g i0 (nI (f i0 + x))) := by
  intro i hin
  unfold ad_
  by_cases e : i = i0
  · subst e; rw [pk_us, if_pos rfl]
  · rw [pk_un e, if_neg e]; exact h i hin
theorem Nt.cg {f f' : Nat → Nat} {n : Nat} {g : Nat → Int32} (h : Nt f n g) (e : ∀ i, i < n → f' i = f i) : Nt f' n g := fun i hi => by rw [e i hi]; exact h i hi
theorem rt_pours {bu : Nat → Int32} {a : Nat} {G : Nat → Nat → Nat} {P BN BS : Nat → Nat} {μ : ro_Mem} (h : EvA bu a G P (μ 244) (μ 243)) (hn : Nt BN 32 (μ 245)) (hsl : Nt BS 16 (μ 246)) {s0 x i k : Nat} (ha : a < 4) (hs : s0 < 96) (hi : i < 32) (hk : k < 16) (hb : nn (bu s0) ≤ 99) (hP : P s0 < 2 ^ 20) (hx : x ≤ 99) : ∃ m', fn_X12_pours (nI a) (nI s0) (nI x) (nI i) (nI k) μ = some m' ∧ EvA bu a G (ad_ P s0 x) (m' 244) (m' 243) ∧ Nt (ad_ BN i ((P s0 + x - nn (bu s0)) - (P s0 - nn (bu s0)))) 32 (m' 245) ∧ Nt (ad_ BS k ((P s0 + x - nn (bu s0)) - (P s0 - nn (bu s0)))) 16 (m' 246) ∧ ∀ o, ¬ o = 243 → ¬ o = 244 → ¬ o = 245 → ¬ o = 246 → m' o = μ o := by
  obtain ⟨e1, e2⟩ := h.2 s0 hs
  have e96 : (96 : Int32) * nI a + nI s0 = nI (96 * a + s0) := by
    show nI 96 * nI a + nI s0 = _
    rw [pk_mul, nI_add]
  have hm : min x (nn (bu s0) - P s0) ≤ x := Nat.min_le_left _ _
  have hm2 : min x (nn (bu s0) - P s0) ≤ nn (bu s0) - P s0 := Nat.min_le_right _ _
  have hr : ∀ y, y + x - min x (nn (bu s0) - P s0) = y + ((P s0 + x - nn (bu s0)) - (P s0 - nn (bu s0))) := by intro y; omega
  unfold fn_X12_pours
  rw [if_pos (rt_in hs (by decide)), nI_clamp (show s0 < 2 ^ 31 by omega), e2, rt_mins (by omega) (by omega), Option.bind_some, ro_lt, e96, if_pos (rt_in (by omega) (by decide)), nI_clamp (show 96 * a + s0 < 2 ^ 31 by omega), ro_lt, if_pos (rt_in hi (by decide)), nI_clamp (show i < 2 ^ 31 by omega), ro_lt, if_pos (rt_in hk (by decide)), nI_clamp (show k < 2 ^ 31 by omega), ro_lt]
  refine ⟨_, rfl, ?_, ?_, ?_, fun o h1 h2 h3 h4 => by rw [ro_set_ne _ _ _ h4, ro_set_ne _ _ _ h3, ro_set_ne _ _ _ h2, ro_set_ne _ _ _ h1]⟩
  · rw [ro_set_ne _ _ _ (show ¬ 244 = 246 by decide), ro_set_ne _ _ _ (show ¬ 244 = 245 by decide), ro_set_same, ro_set_ne _ _ _ (show ¬ 244 = 243 by decide), ro_set_ne _ _ _ (show ¬ 243 = 246 by decide), ro_set_ne _ _ _ (show ¬ 243 = 245 by decide), ro_set_ne _ _ _ (show ¬ 243 = 244 by decide), ro_set_same, e1, nI_add, pk_sub (by omega), pk_sub (by omega), hr]
    have := h.land (x := x) ha hs
    rwa [show nn (bu s0) - P s0 - min x (nn (bu s0) - P s0) = nn (bu s0) - (P s0 + x) by omega, show P s0 - nn (bu s0) + (P s0 + x - nn (bu s0) - (P s0 - nn (bu s0))) = P s0 + x - nn (bu s0) by omega]
  · rw [ro_set_ne _ _ _ (show ¬ 245 = 246 by decide), ro_set_same, ro_set_ne _ _ _ (show ¬ 245 = 244 by decide), ro_set_ne _ _ _ (show ¬ 245 = 243 by decide), hn i hi, nI_add, pk_sub (by omega), hr]
    exact hn.add hi _
  · rw [ro_set_same, ro_set_ne _ _ _ (show ¬ 246 = 245 by decide), ro_set_ne _ _ _ (show ¬ 246 = 244 by decide), ro_set_ne _ _ _ (show ¬ 246 = 243 by decide), hsl k hk, nI_add, pk_sub (by omega), hr]
    exact hsl.add hk _
-- ===== drops through one slate =====
def sh_L (q : Nat) : Nat := q - 1
def sh_R (q : Nat) : Nat := if q % 12 < 11 then q + 1 else q
def sh_xL (q d : Nat) : Nat := if 0 < q % 12 then d / 3 else 0
def sh_xR (q d : Nat) : Nat := if q % 12 < 11 then d / 3 else 0
theorem sh_ne {q : Nat} : ¬ sh_R q = sh_L q := by
  unfold sh_L sh_R
  by_cases c : q % 12 < 11
  · rw [if_pos c]; omega
  · rw [if_neg c]; omega
theorem sh_eq {um : Nat → Int32} {q s d : Nat} (h : ¬ um q = 0) : sp_share um q s d = (if s = sh_L q then sh_xL q d else 0) + (if s = sh_R q then sh_xR q d else 0) := by
  unfold sp_share sh_L sh_R sh_xL sh_xR
  rw [if_neg h]
  by_cases c1 : q % 12 < 11
  · rw [if_pos c1, if_pos c1]
    by_cases c2 : 0 < q % 12
    · rw [if_pos c2]
      by_cases c3 : (q + 1 = s ∨ s + 1 = q) ∧ q / 12 = s / 12
      · rw [if_pos c3]
        by_cases c4 : s = q + 1
        · rw [if_pos c4, if_neg (by omega)]; omega
        · rw [if_neg c4, if_pos (by omega)]; omega
      · rw [if_neg c3, if_neg (by omega), if_neg (by omega)]
    · rw [if_neg c2]
      by_cases c3 : (q + 1 = s ∨ s + 1 = q) ∧ q / 12 = s / 12
      · rw [if_pos c3, if_pos (show s = q + 1 by omega)]
        by_cases c4 : s = q - 1
        · rw [if_pos c4]; omega
        · rw [if_neg c4]; omega
      · rw [if_neg c3, if_neg (show ¬ s = q + 1 by omega)]
        by_cases c4 : s = q - 1
        · rw [if_pos c4]
        · rw [if_neg c4]
  · rw [if_neg c1, if_neg c1, if_pos (show 0 < q % 12 by omega)]
    by_cases c3 : (q + 1 = s ∨ s + 1 = q) ∧ q / 12 = s / 12
    · rw [if_pos c3, if_pos (show s = q - 1 by omega)]
      by_cases c4 : s = q
      · rw [if_pos c4]; rfl
      · rw [if_neg c4]; rfl
    · rw [if_neg c3, if_neg (show ¬ s = q - 1 by omega)]
      by_cases c4 : s = q
      · rw [if_pos c4]
      · rw [if_neg c4]
theorem sp_sum_two {f : Nat → Nat} {i j x y n : Nat} (hi : i < n) (hj : j < n) (hne : ¬ j = i) (h : ∀ s, s < n → f s = (if s = i then x else 0) + (if s = j then y else 0)) : sp_sum f n = x + y := by
  rw [sp_sum_cg h, sp_sum_add, sp_sum_single hi (fun s _ e => if_neg e), sp_sum_single hj (fun s _ e => if_neg e), if_pos rfl, if_pos rfl]
/-- what one seat is wet by more -/
def mo_ (bu : Nat → Int32) (P : Nat → Nat) (s x : Nat) : Nat := (P s + x - nn (bu s)) - (P s - nn (bu s))
theorem mo_0 {bu : Nat → Int32} {P : Nat → Nat} {s : Nat} : mo_ bu P s 0 = 0 := by unfold mo_; omega
theorem mo_le {bu : Nat → Int32} {P : Nat → Nat} {s x : Nat} : mo_ bu P s x ≤ x := by unfold mo_; omega
theorem ad_ne {P : Nat → Nat} {s0 x s : Nat} (h : ¬ s = s0) : ad_ P s0 x s = P s := by unfold ad_; rw [if_neg h]; rfl
theorem sh_sum {um bu : Nat → Int32} {P : Nat → Nat} {q d : Nat} (hq : q < 96) (h : ¬ um q = 0) : sp_sum (fun s => mo_ bu P s (sp_share um q s d)) 96 = mo_ bu P (sh_L q) (sh_xL q d) + mo_ bu P (sh_R q) (sh_xR q d) := by
  have hL : sh_L q < 96 := by unfold sh_L; omega
  have hR : sh_R q < 96 := by
    unfold sh_R
    by_cases c : q % 12 < 11
    · rw [if_pos c]; omega
    · rw [if_neg c]; exact hq
  refine sp_sum_two hL hR sh_ne (fun s hs => ?_)
  rw [sh_eq h]
  by_cases c1 : s = sh_L q
  · rw [if_pos c1, if_pos c1, if_neg (fun e => sh_ne (e.symm.trans c1)), if_neg (fun e => sh_ne (e.symm.trans c1)), c1]
    rfl
  · rw [if_neg c1, if_neg c1]
    by_cases c2 : s = sh_R q
    · rw [if_pos c2, if_pos c2, c2, Nat.zero_add, Nat.zero_add]
    · rw [if_neg c2, if_neg c2]
      exact mo_0
theorem sh_sum0 {um bu : Nat → Int32} {P : Nat → Nat} {q d : Nat} (hq : q < 96) (h : um q = 0) : sp_sum (fun s => mo_ bu P s (sp_share um q s d)) 96 = mo_ bu P q d := by
  unfold sp_share
  rw [sp_sum_single hq (fun s _ e => by rw [if_pos h, if_neg (fun c => e c.symm)]; exact mo_0), if_pos h, if_pos rfl]
