theorem rt_rem12 {q : Nat} (h : q < 2 ^ 31) : ro_rem (nI q) 12 = nI (q % 12) := by
  show nI q - nI q / nI 12 * nI 12 = _
  exact pk_rem h (by decide) (by decide)
theorem rt_div3 {d : Nat} (h : d < 2 ^ 31) : nI d / 3 = nI (d / 3) := by
  show nI d / nI 3 = _
  exact pk_div h (by decide) (by decide)
theorem sh_Rlt {q : Nat} (hq : q < 96) : sh_R q < 96 := by
  unfold sh_R
  by_cases c : q % 12 < 11
  · rw [if_pos c]; omega
  · rw [if_neg c]; exact hq
theorem sh_add {um : Nat → Int32} {P : Nat → Nat} {q s d : Nat} (h : ¬ um q = 0) : P s + sp_share um q s d = ad_ (ad_ P (sh_L q) (sh_xL q d)) (sh_R q) (sh_xR q d) s := by
  unfold ad_
  rw [sh_eq h]; omega
theorem rt_fallC {um bu : Nat → Int32} {a : Nat} {G : Nat → Nat → Nat} {P BN BS : Nat → Nat} {μ : ro_Mem} {i k d q : Nat} (hE : EvA bu a G P (μ 65) (μ 68)) (hn : Nt BN 32 (μ 66)) (hsl : Nt BS 16 (μ 67)) (ha : a < 4) (hi : i < 32) (hk : k < 16) (hd : μ 63 (16 * i + k) = nI d) (hd9 : d ≤ 99) (hq : μ 6 k = nI q) (hq9 : q < 96) (hum : μ 3 = um) (hb : ∀ s, s < 96 → nn (bu s) ≤ 99) (hP : ∀ s, s < 96 → P s < 2 ^ 19) : ∃ m', fn_X0_fall 2 (nI a) (nI i) (nI k) μ = some m' ∧ EvA bu a G (fun s => P s + sp_share um q s d) (m' 65) (m' 68) ∧ Nt (ad_ BN i (sp_sum (fun s => mo_ bu P s (sp_share um q s d)) 96)) 32 (m' 66) ∧ Nt (ad_ BS k (sp_sum (fun s => mo_ bu P s (sp_share um q s d)) 96)) 16 (m' 67) ∧ ∀ o, ¬ o = 65 → ¬ o = 66 → ¬ o = 67 → ¬ o = 68 → m' o = μ o := by
  have e16 : nI i * 16 + nI k = nI (16 * i + k) := by
    show nI i * nI 16 + nI k = _
    rw [pk_mul, nI_add, Nat.mul_comm]
  have j103 : ∀ (m : ro_Mem) (r : Nat), m 66 = μ 66 → m 67 = μ 67 → ∃ m', fj_X0_fall_103 (nI i) (nI k) (nI r) m = some m' ∧ Nt (ad_ BN i r) 32 (m' 66) ∧ Nt (ad_ BS k r) 16 (m' 67) ∧ ∀ o, ¬ o = 66 → ¬ o = 67 → m' o = m o := by
    intro m r h66 h67
    unfold fj_X0_fall_103
    rw [if_pos (rt_in hi (by decide)), nI_clamp (show i < 2 ^ 31 by omega), ro_lt, if_pos (rt_in hk (by decide)), nI_clamp (show k < 2 ^ 31 by omega), ro_lt, h66, hn i hi, nI_add, ro_set_ne _ _ _ (show ¬ 67 = 66 by decide), h67, hsl k hk, nI_add]
    refine ⟨_, rfl, ?_, ?_, fun o h1 h2 => by rw [ro_set_ne _ _ _ h2, ro_set_ne _ _ _ h1]⟩
    · rw [ro_set_ne _ _ _ (show ¬ 66 = 67 by decide), ro_set_same, h66]
      exact hn.add hi r
    · rw [ro_set_same, ro_set_ne _ _ _ (show ¬ 67 = 66 by decide), h67]
      exact hsl.add hk r
  unfold fn_X0_fall
  rw [e16, if_pos (rt_in (n := 512) (by omega) (by decide)), nI_clamp (show 16 * i + k < 2 ^ 31 by omega), hd, ro_lt, if_pos (rt_in hk (by decide)), nI_clamp (show k < 2 ^ 31 by omega), show μ (2 + 4) k = nI q from hq, ro_lt, if_pos (rt_in hq9 (by decide)), nI_clamp (show q < 2 ^ 31 by omega), show μ (2 + 1) q = um q by rw [← hum]]
  by_cases hu : um q = 0
  · rw [if_pos hu]
    obtain ⟨m1, l1, l2, l3⟩ := rt_land hE ha hq9 (hb q hq9) (by have := hP q hq9; omega) hd9
    rw [l1, Option.bind_some]
    obtain ⟨m', j1, j2, j3, j4⟩ := j103 m1 (mo_ bu P q d) (l3 66 (by decide) (by decide)) (l3 67 (by decide) (by decide))
    rw [sh_sum0 hq9 hu]
    refine ⟨m', j1, ?_, j2, j3, fun o h1 h2 h3 h4 => by rw [j4 o h2 h3, l3 o h1 h4]⟩
    rw [j4 65 (by decide) (by decide), j4 68 (by decide) (by decide)]
    refine l2.cg (fun s hs => ?_)
    unfold sp_share ad_
    rw [if_pos hu]
    by_cases e : q = s
    · rw [if_pos e, if_pos e.symm]
    · rw [if_neg e, if_neg (fun c => e c.symm)]
  · rw [if_neg hu, rt_rem12 (by omega), ro_lt]
    have left : ∃ m1, (if nI (q % 12) ≤ 0 then fj_X0_fall_76 (nI a) (nI i) (nI k) (nI d) (nI q) (nI (q % 12)) 0 μ else (fn_X0_land (nI a) (nI q - 1) (nI d / 3) μ).bind fun q23 => fj_X0_fall_76 (nI a) (nI i) (nI k) (nI d) (nI q) (nI (q % 12)) q23.1 q23.2) = fj_X0_fall_76 (nI a) (nI i) (nI k) (nI d) (nI q) (nI (q % 12)) (nI (mo_ bu P (sh_L q) (sh_xL q d))) m1 ∧ EvA bu a G (ad_ P (sh_L q) (sh_xL q d)) (m1 65) (m1 68) ∧ ∀ o, ¬ o = 65 → ¬ o = 68 → m1 o = μ o := by
      by_cases c : 0 < q % 12
      · rw [if_neg (show ¬ nI (q % 12) ≤ 0 from nI_nle (by omega) (by omega)), show nI q - 1 = nI (q - 1) from pk_sub (b := 1) (by omega), rt_div3 (by omega)]
        have hL : sh_L q < 96 := by unfold sh_L; omega
        obtain ⟨m1, l1, l2, l3⟩ := rt_land hE ha hL (hb _ hL) (by have := hP _ hL; omega) (x := d / 3) (by omega)
        unfold sh_xL
        rw [if_pos c]
        refine ⟨m1, ?_, l2, l3⟩
        rw [show nI (q - 1) = nI (sh_L q) from rfl, l1]
        rfl
      · unfold sh_xL
        rw [if_pos (show nI (q % 12) ≤ 0 by rw [show q % 12 = 0 by omega]; exact Int32.le_refl _), if_neg c, mo_0]
        refine ⟨μ, rfl, hE.cg (fun s _ => ?_), fun _ _ _ => rfl⟩
        unfold ad_
        by_cases e : s = sh_L q
        · rw [if_pos e]; rfl
        · rw [if_neg e]; rfl
    obtain ⟨m1, el, el2, el3⟩ := left
    rw [el]
    unfold fj_X0_fall_76
    have j100 : ∀ (m : ro_Mem) (r1 r2 : Nat), m 66 = μ 66 → m 67 = μ 67 → ∃ m', fj_X0_fall_100 (nI i) (nI k) (nI r1) (nI r2) m = some m' ∧ Nt (ad_ BN i (r1 + r2)) 32 (m' 66) ∧ Nt (ad_ BS k (r1 + r2)) 16 (m' 67) ∧ ∀ o, ¬ o = 66 → ¬ o = 67 → m' o = m o := by
      intro m r1 r2 h1 h2
      unfold fj_X0_fall_100
      rw [nI_add, ro_lt]
      exact j103 m (r1 + r2) h1 h2
    have hs2 : ad_ P (sh_L q) (sh_xL q d) (sh_R q) = P (sh_R q) := ad_ne sh_ne
    rw [sh_sum hq9 hu]
    by_cases c : q % 12 < 11
    · have eR : sh_R q = q + 1 := by unfold sh_R; rw [if_pos c]
      rw [if_neg (show ¬ (11 : Int32) ≤ nI (q % 12) from nI_ge (b := 11) c (by decide)), nI_1, rt_div3 (by omega), ← eR]
      have hR := sh_Rlt hq9
      obtain ⟨m2, l1, l2, l3⟩ := rt_land el2 ha hR (hb _ hR) (by rw [hs2]; have := hP _ hR; omega) (x := d / 3) (by omega)
      rw [l1, Option.bind_some]
      obtain ⟨m', j1, j2, j3, j4⟩ := j100 m2 (mo_ bu P (sh_L q) (sh_xL q d)) (mo_ bu P (sh_R q) (sh_xR q d)) (by rw [l3 66 (by decide) (by decide), el3 66 (by decide) (by decide)]) (by rw [l3 67 (by decide) (by decide), el3 67 (by decide) (by decide)])
      have ex : sh_xR q d = d / 3 := if_pos c
      refine ⟨m', ?_, ?_, j2, j3, fun o h1 h2 h3 h4 => by rw [j4 o h2 h3, l3 o h1 h4, el3 o h1 h4]⟩
      · rw [← j1, ex, hs2]
        rfl
      · rw [j4 65 (by decide) (by decide), j4 68 (by decide) (by decide)]
        refine l2.cg (fun s hs => ?_)
        rw [sh_add hu, ex]
    · rw [if_pos (show (11 : Int32) ≤ nI (q % 12) from nI_le (a := 11) (by omega) (by omega))]
      have ex : sh_xR q d = 0 := if_neg c
      obtain ⟨m', j1, j2, j3, j4⟩ := j100 m1 (mo_ bu P (sh_L q) (sh_xL q d)) (mo_ bu P (sh_R q) (sh_xR q d)) (el3 66 (by decide) (by decide)) (el3 67 (by decide) (by decide))
      refine ⟨m', ?_, ?_, j2, j3, fun o h1 h2 h3 h4 => by rw [j4 o h2 h3, el3 o h1 h4]⟩
      · rw [← j1, ex, mo_0]
        rfl
      · rw [j4 65 (by decide) (by decide), j4 68 (by decide) (by decide)]
        refine el2.cg (fun s hs => ?_)
        rw [sh_add hu, ex]
        unfold ad_
        by_cases e : s = sh_R q
        · rw [if_pos e]; rfl
        · rw [if_neg e]; rfl
theorem ad_2 {f : Nat → Nat} {i x y : Nat} {j : Nat} : ad_ (ad_ f i x) i y j = ad_ f i (x + y) j := by
  unfold ad_
  by_cases e : j = i
  · rw [if_pos e, if_pos e, if_pos e]; omega
  · rw [if_neg e, if_neg e, if_neg e]
theorem rt_fallM {um bu : Nat → Int32} {a : Nat} {G : Nat → Nat → Nat} {P BN BS : Nat → Nat} {μ : ro_Mem} {i k d q : Nat} (hE : EvA bu a G P (μ 244) (μ 243)) (hn : Nt BN 32 (μ 245)) (hsl : Nt BS 16 (μ 246)) (ha : a < 4) (hi : i < 32) (hk : k < 16) (hd : μ 241 (16 * i + k) = nI d) (hd9 : d ≤ 99) (hq : μ 211 k = nI q) (hq9 : q < 96) (hum : μ 208 q = um q) (hb : ∀ s, s < 96 → nn (bu s) ≤ 99) (hP : ∀ s, s < 96 → P s < 2 ^ 19) : ∃ m', fn_X12_falls (nI a) (nI i) (nI k) μ = some m' ∧ EvA bu a G (fun s => P s + sp_share um q s d) (m' 244) (m' 243) ∧ Nt (ad_ BN i (sp_sum (fun s => mo_ bu P s (sp_share um q s d)) 96)) 32 (m' 245) ∧ Nt (ad_ BS k (sp_sum (fun s => mo_ bu P s (sp_share um q s d)) 96)) 16 (m' 246) ∧ ∀ o, ¬ o = 243 → ¬ o = 244 → ¬ o = 245 → ¬ o = 246 → m' o = μ o := by
  have e16 : (16 : Int32) * nI i + nI k = nI (16 * i + k) := by
    show nI 16 * nI i + nI k = _
    rw [pk_mul, nI_add]
  unfold fn_X12_falls
  rw [if_pos (rt_in hk (by decide)), nI_clamp (show k < 2 ^ 31 by omega), hq, ro_lt, e16, if_pos (rt_in (n := 512) (by omega) (by decide)), nI_clamp (show 16 * i + k < 2 ^ 31 by omega), hd, ro_lt, if_pos (rt_in hq9 (by decide)), nI_clamp (show q < 2 ^ 31 by omega), hum]
  by_cases hu : um q = 0
  · rw [if_pos hu]
    obtain ⟨m1, l1, l2, l3, l4, l5⟩ := rt_pours hE hn hsl ha hq9 hi hk (hb q hq9) (by have := hP q hq9; omega) hd9
    rw [l1, Option.bind_some, sh_sum0 hq9 hu]
    refine ⟨m1, rfl, ?_, l3, l4, l5⟩
    refine l2.cg (fun s hs => ?_)
    unfold sp_share ad_
    rw [if_pos hu]
    by_cases e : q = s
    · rw [if_pos e, if_pos e.symm]
    · rw [if_neg e, if_neg (fun c => e c.symm)]
  · rw [if_neg hu, rt_rem12 (by omega)]
    have left : ∃ m1, (if nI (q % 12) ≤ 0 then fj_X12_falls_66 (nI a) (nI i) (nI k) (nI q) (nI d) μ else (fn_X12_pours (nI a) (nI q - 1) (nI d / 3) (nI i) (nI k) μ).bind fun q13 => fj_X12_falls_66 (nI a) (nI i) (nI k) (nI q) (nI d) q13) = fj_X12_falls_66 (nI a) (nI i) (nI k) (nI q) (nI d) m1 ∧ EvA bu a G (ad_ P (sh_L q) (sh_xL q d)) (m1 244) (m1 243) ∧ Nt (ad_ BN i (mo_ bu P (sh_L q) (sh_xL q d))) 32 (m1 245) ∧ Nt (ad_ BS k (mo_ bu P (sh_L q) (sh_xL q d))) 16 (m1 246) ∧ ∀ o, ¬ o = 243 → ¬ o = 244 → ¬ o = 245 → ¬ o = 246 → m1 o = μ o := by
      by_cases c : 0 < q % 12
      · rw [if_neg (show ¬ nI (q % 12) ≤ 0 from nI_nle (by omega) (by omega)), show nI q - 1 = nI (q - 1) from pk_sub (b := 1) (by omega), rt_div3 (by omega)]
        have hL : sh_L q < 96 := by unfold sh_L; omega
        obtain ⟨m1, l1, l2, l3, l4, l5⟩ := rt_pours hE hn hsl ha hL hi hk (hb _ hL) (by have := hP _ hL; omega) (x := d / 3) (by omega)
        unfold sh_xL
        rw [if_pos c]
        refine ⟨m1, ?_, l2, l3, l4, l5⟩
        rw [show nI (q - 1) = nI (sh_L q) from rfl, l1]
        rfl
      · unfold sh_xL
        rw [if_pos (show nI (q % 12) ≤ 0 by rw [show q % 12 = 0 by omega]; exact Int32.le_refl _), if_neg c, mo_0]
        have z : ∀ (f : Nat → Nat) (s0 s : Nat), ad_ f s0 0 s = f s := fun f s0 s => by
          unfold ad_
          by_cases e : s = s0
          · rw [if_pos e]; rfl
          · rw [if_neg e]; rfl
        exact ⟨μ, rfl, hE.cg (fun s _ => z _ _ _), hn.cg (fun s _ => z _ _ _), hsl.cg (fun s _ => z _ _ _), fun _ _ _ _ _ => rfl⟩
    obtain ⟨m1, el, el2, el3, el4, el5⟩ := left
    rw [el]
    unfold fj_X12_falls_66
    have hs2 : ad_ P (sh_L q) (sh_xL q d) (sh_R q) = P (sh_R q) := ad_ne sh_ne
    rw [sh_sum hq9 hu, rt_rem12 (by omega)]
    by_cases c : q % 12 < 11
    · have eR : sh_R q = q + 1 := by unfold sh_R; rw [if_pos c]
      rw [if_neg (show ¬ (11 : Int32) ≤ nI (q % 12) from nI_ge (b := 11) c (by decide)), nI_1, rt_div3 (by omega), ← eR]
      have hR := sh_Rlt hq9
      obtain ⟨m2, l1, l2, l3, l4, l5⟩ := rt_pours el2 el3 el4 ha hR hi hk (hb _ hR) (by rw [hs2]; have := hP _ hR; omega) (x := d / 3) (by omega)
      have ex : sh_xR q d = d / 3 := if_pos c
      rw [l1, Option.bind_some]
      rw [hs2] at l3 l4
      refine ⟨m2, rfl, ?_, ?_, ?_, fun o h1 h2 h3 h4 => by rw [l5 o h1 h2 h3 h4, el5 o h1 h2 h3 h4]⟩
      · refine l2.cg (fun s hs => ?_)
        rw [sh_add hu, ex]
      · rw [ex]
        exact l3.cg (fun s hs => ad_2.symm)
      · rw [ex]
        exact l4.cg (fun s hs => ad_2.symm)
    · rw [if_pos (show (11 : Int32) ≤ nI (q % 12) from nI_le (a := 11) (by omega) (by omega))]
      have ex : sh_xR q d = 0 := if_neg c
      rw [ex, mo_0, Nat.add_zero]
      refine ⟨m1, rfl, ?_, el3, el4, el5⟩
      refine el2.cg (fun s hs => ?_)
      rw [sh_add hu, ex]
      unfold ad_
      by_cases e : s = sh_R q
      · rw [if_pos e]; rfl
      · rw [if_neg e]; rfl
-- ===== an act goes on, pair by pair =====
def EvS (D F : Nat → Nat → Nat) (um ss bu : Nat → Int32) (N a τ : Nat) (w n b l : Nat → Int32) : Prop :=
  EvA bu a (fun a' s => if a' < a then sp_wet D F um ss bu N a' s else 0) (fun s => sp_prev D F um ss a s τ) w l ∧ Nt (ev_BN D F um ss bu (16 * N) a τ) 32 n ∧ Nt (ev_BS D F um ss bu (16 * N) a τ) 16 b
def EvB (D F : Nat → Nat → Nat) (um ss bu : Nat → Int32) (N a : Nat) (w n b : Nat → Int32) : Prop :=
  (∀ a' s, a' < 4 → s < 96 → w (96 * a' + s) = nI (if a' < a then sp_wet D F um ss bu N a' s else 0)) ∧ Nt (ev_BN D F um ss bu (16 * N) a 0) 32 n ∧ Nt (ev_BS D F um ss bu (16 * N) a 0) 16 b
section
variable {D F : Nat → Nat → Nat} {um ss bu : Nat → Int32} {N : Nat}
theorem EvS.dry {a τ : Nat} {w n b l : Nat → Int32} (h : EvS D F um ss bu N a τ w n b l) (ha : a < 4) (hτ : τ < 512) (hd : ¬ (0 < D (τ / 16) (τ % 16) ∧ F (τ / 16) (τ % 16) = a)) : EvS D F um ss bu N a (τ + 1) w n b l := by
  obtain ⟨e1, e2⟩ := ev_dry (um := um) (ss := ss) (bu := bu) hd
  obtain ⟨h1, h2, h3⟩ := h
  refine ⟨h1.cg (fun s _ => e1 s), h2.cg (fun i _ => ?_), h3.cg (fun k hk => ?_)⟩
  · rw [ev_BN_s ha, e2]
    by_cases c : i = τ / 16
    · rw [if_pos c]; rfl
    · rw [if_neg c]; rfl
  · rw [ev_BS_s ha hk hτ, e2]
    by_cases c : k = τ % 16
    · rw [if_pos c]; rfl
    · rw [if_neg c]; rfl
theorem EvS.dryn {a τ : Nat} {w n b l : Nat → Int32} (h : EvS D F um ss bu N a τ w n b l) (ha : a < 4) : ∀ j, τ + j ≤ 512 → (∀ t, τ ≤ t → t < τ + j → ¬ (0 < D (t / 16) (t % 16) ∧ F (t / 16) (t % 16) = a)) → EvS D F um ss bu N a (τ + j) w n b l := by
  intro j
  induction j with
  | zero => intro _ _; exact h
  | succ j ih =>
    intro hj hd
    exact (ih (by omega) (fun t h1 h2 => hd t h1 (by omega))).dry ha (by omega) (hd (τ + j) (by omega) (by omega))
theorem EvB.start {a : Nat} {w n b l : Nat → Int32} (h : EvB D F um ss bu N a w n b) (ha : a < 4) (hl : ∀ s, s < 96 → l s = bu s) (hbu : ∀ s, s < 96 → bu s = nI (nn (bu s))) : EvS D F um ss bu N a 0 w n b l := by
  refine ⟨⟨fun a' s h1 h2 h3 => h.1 a' s h1 h2, fun s hs => ⟨?_, ?_⟩⟩, h.2.1, h.2.2⟩
  · rw [h.1 a s ha hs, if_neg (Nat.lt_irrefl _)]
    show nI 0 = nI (0 - nn (bu s))
    rw [Nat.zero_sub]
  · rw [hl s hs]
    exact hbu s hs
theorem EvS.fin {a : Nat} {w n b l : Nat → Int32} (h : EvS D F um ss bu N a (16 * N) w n b l) (ha : a < 4) : EvB D F um ss bu N (a + 1) w n b := by
  refine ⟨fun a' s h1 h2 => ?_, h.2.1.cg (fun i _ => ev_BN_a), h.2.2.cg (fun k _ => ev_BS_a)⟩
  by_cases e : a' = a
  · subst e
    rw [(h.1.2 s h2).1, if_pos (by omega)]
    rfl
  · rw [h.1.1 a' s h1 h2 e]
    show nI (if a' < a then _ else 0) = _
    by_cases c : a' < a
    · rw [if_pos c, if_pos (by omega)]
    · rw [if_neg c, if_neg (by omega)]
theorem sp_prev_le {a s t : Nat} (hD : ∀ i k, D i k ≤ 99) : sp_prev D F um ss a s t ≤ t * 99 := by
  unfold sp_prev
  refine sp_sum_bd (fun u _ => ?_)
  unfold sp_fall
  by_cases c : 0 < D (u / 16) (u % 16) ∧ F (u / 16) (u % 16) = a
  · rw [if_pos c]
    unfold sp_share
    have := hD (u / 16) (u % 16)
    by_cases c1 : um (ss (u % 16)).toNatClampNeg = 0
    · rw [if_pos c1]
      by_cases c2 : (ss (u % 16)).toNatClampNeg = s
      · rw [if_pos c2]; exact this
      · rw [if_neg c2]; omega
    · rw [if_neg c1]
      by_cases c2 : ((ss (u % 16)).toNatClampNeg + 1 = s ∨ s + 1 = (ss (u % 16)).toNatClampNeg) ∧ (ss (u % 16)).toNatClampNeg / 12 = s / 12
      · rw [if_pos c2]; omega
      · rw [if_neg c2]; omega
  · rw [if_neg c]; omega
theorem EvS.wet {a i k q : Nat} {w n b l w' n' b' l' : Nat → Int32} (h : EvS D F um ss bu N a (16 * i + k) w n b l) (ha : a < 4) (hi : i < 32) (hk : k < 16) (hd : 0 < D i k ∧ F i k = a) (hq : nn (ss k) = q)
    (h1 : EvA bu a (fun a' s => if a' < a then sp_wet D F um ss bu N a' s else 0) (fun s => sp_prev D F um ss a s (16 * i + k) + sp_share um q s (D i k)) w' l')
    (h2 : Nt (ad_ (ev_BN D F um ss bu (16 * N) a (16 * i + k)) i (sp_sum (fun s => mo_ bu (fun s => sp_prev D F um ss a s (16 * i + k)) s (sp_share um q s (D i k))) 96)) 32 n')
    (h3 : Nt (ad_ (ev_BS D F um ss bu (16 * N) a (16 * i + k)) k (sp_sum (fun s => mo_ bu (fun s => sp_prev D F um ss a s (16 * i + k)) s (sp_share um q s (D i k))) 96)) 16 b') : EvS D F um ss bu N a (16 * i + k + 1) w' n' b' l' := by
  have dv : (16 * i + k) / 16 = i := by omega
  have md : (16 * i + k) % 16 = k := by omega
  have hpr : ∀ s, sp_prev D F um ss a s (16 * i + k + 1) = sp_prev D F um ss a s (16 * i + k) + sp_share um q s (D i k) := fun s => by
    rw [ev_prev_s, dv, md]
    unfold sp_fall
    rw [if_pos hd]
    show _ + sp_share um (nn (ss k)) s (D i k) = _
    rw [hq]
  have hR : ev_R D F um ss bu a (16 * i + k) = sp_sum (fun s => mo_ bu (fun s => sp_prev D F um ss a s (16 * i + k)) s (sp_share um q s (D i k))) 96 := by
    unfold ev_R
    refine sp_sum_cg (fun s _ => ?_)
    unfold sp_rest mo_
    rw [hpr s]
    rfl
  refine ⟨h1.cg (fun s _ => hpr s), h2.cg (fun i' _ => ?_), h3.cg (fun k' hk' => ?_)⟩
  · rw [ev_BN_s ha, dv, hR]; rfl
  · rw [ev_BS_s ha hk' (by omega), md, hR]; rfl
end
