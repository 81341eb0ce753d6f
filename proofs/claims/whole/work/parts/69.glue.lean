-- ===== the reference over a memory whose class part is another one: V is the world, M the memory =====
def gl_ (V m : ro_Mem) : ro_Mem := fun o => if o < 207 then V o else m o
theorem gl_lt {V m : ro_Mem} {o : Nat} (h : o < 207) : gl_ V m o = V o := if_pos h
theorem gl_ge {V m : ro_Mem} {o : Nat} (h : 207 ≤ o) : gl_ V m o = m o := if_neg (by omega)
theorem gl_fr {V m : ro_Mem} (h : ∀ o, 207 ≤ o → ¬ (239 ≤ o ∧ o ≤ 246) → m o = V o) : Fr V (gl_ V m) := by
  have g : ∀ o, ¬ (239 ≤ o ∧ o ≤ 246) → gl_ V m o = V o := fun o ho => by
    by_cases c : o < 207
    · exact gl_lt c
    · rw [gl_ge (by omega), h o (by omega) ho]
  exact ⟨fun o ho => g o (by unfold fr_id at ho; omega), fun k _ => by rw [g 0 (by omega)], fun k _ => by rw [g 207 (by omega)]⟩
theorem rt_feelsNote2 {μ M : ro_Mem} {sh : Int32} {i k N : Nat} (hR0 : ∀ o, 207 ≤ o → M o = μ o) (hw : Wd μ N) (hsh : μ 207 52 = sh) (hi : i < N) (hk : k < 16) (ht : bt (μ 2 6) k = true) : ∃ g, fn_X12_feelsNote (nI i) (nI k) M = some (ro_arr M 240 g) ∧ ∀ j, j < 12 → g j = ev_L μ sh i k j := by
  obtain ⟨-, V, Pt, Ln, Br, Ac, B, A, hB, hA, -, -, hv, -⟩ := hw.notes
  obtain ⟨⟨hU, hBu, hMo, hS, hR, hG, hN, hX⟩, hSW, hC, hW, hn, hn2⟩ := hw
  obtain ⟨-, ⟨m1, m2, m3, m4, m5⟩, ⟨s1, s2, s3, s4, s5⟩, -, -, -, -, -, hac⟩ := hv i hi
  obtain ⟨⟨q, hq, eq⟩, h1, -⟩ := hS.2.2.2 k hk
  have e211 : M 211 k = nI q := by rw [hR0 211 (by decide), (h1 ht).1, eq]
  rw [← hR0 218 (by decide)] at m1
  rw [← hR0 219 (by decide)] at m2
  rw [← hR0 220 (by decide)] at m3
  rw [← hR0 221 (by decide)] at m4
  rw [← hR0 222 (by decide)] at m5
  rw [← hR0 207 (by decide)] at hsh
  unfold fn_X12_feelsNote
  rw [if_pos (rt_in hk (by decide)), nI_clamp (show k < 2 ^ 31 by omega), e211, rt_feels hq, Option.bind_some, if_pos (rt_in (by omega) (by decide)), nI_clamp (show i < 2 ^ 31 by omega)]
  have ne : ∀ f o, ¬ o = 240 → ro_arr M 240 f o = M o := fun f o h => ro_arr_ne _ _ h
  rw [ne _ 218 (by decide), m1, ro_arr_set, ro_lt, ne _ 219 (by decide), ne _ 207 (by decide), m2, hsh, ro_arr_set, ro_lt, ne _ 220 (by decide), m3, ro_arr_set, ro_lt, ro_arr_set, ro_lt, ne _ 221 (by decide), m4, ro_arr_set, ro_lt, ro_arr_set, ro_lt, ne _ 222 (by decide), m5, ro_arr_set, ro_lt, ne _ 222 (by decide), m5, if_pos (rt_in (show Ac i < 4 by omega) (by decide)), nI_clamp (show Ac i < 2 ^ 31 by omega), ne _ 214 (by decide), hR0 214 (by decide), (hR (Ac i) (by omega)).1, ro_arr_set, ro_lt]
  refine ⟨_, rfl, ?_⟩
  intro j hj
  unfold ev_L sp_lt
  rw [s1, s2, s3, s4, s5, eq, nI_clamp (show Ac i < 2 ^ 31 by omega), nI_clamp (show q < 2 ^ 31 by omega)]
  have e210 : M 210 q = μ 5 q := by rw [hR0 210 (by decide)]; exact (hMo q hq).1
  rw [e210]
  have : j = 0 ∨ j = 1 ∨ j = 2 ∨ j = 3 ∨ j = 4 ∨ j = 5 ∨ j = 6 ∨ j = 7 ∨ j = 8 ∨ j = 9 ∨ j = 10 ∨ j = 11 := by omega
  rcases this with rfl | rfl | rfl | rfl | rfl | rfl | rfl | rfl | rfl | rfl | rfl | rfl <;> rfl
theorem gl_W {μ M : ro_Mem} {g : Nat → Int32} (hR0 : ∀ o, 207 ≤ o → M o = μ o) (hW : iv_W (iv_lw μ) (iv_mw μ) (μ 207 38)) : iv_W (iv_lw μ) (iv_mw (ro_arr M 240 g)) (ro_arr M 240 g 207 38) := by
  have e1 : iv_mw (ro_arr M 240 g) = iv_mw μ := cg_mw (fun o a b => by rw [ro_arr_ne _ _ (by omega)]; exact hR0 o (by omega))
  rw [e1, ro_arr_ne _ _ (by decide), hR0 207 (by decide)]
  exact hW
theorem rt_dropsM2 {μ M : ro_Mem} {sh : Int32} {i k N : Nat} (hR0 : ∀ o, 207 ≤ o → M o = μ o) (hw : Wd μ N) (hsh : μ 207 52 = sh) (hi : i < N) (hk : k < 16) : ∃ m', fn_X12_dropsOf (nI i) (nI k) M = some (nI (ev_D μ sh i k), m') ∧ (∀ o, ¬ o = 239 → ¬ o = 240 → m' o = M o) ∧ ev_D μ sh i k ≤ 99 ∧ (0 < ev_D μ sh i k → bt (μ 2 6) k = true) := by
  obtain ⟨-, V, Pt, Ln, Br, Ac, B, A, hB, hA, -, -, hv, -⟩ := hw.notes
  have hw' := hw
  obtain ⟨⟨hU, hBu, hMo, hS, hR, hG, hN, hX⟩, hSW, hC, hW, hn, hn2⟩ := hw
  obtain ⟨-, ⟨m1, m2, m3, m4, m5⟩, ⟨s1, s2, s3, s4, s5⟩, -, -, -, -, -, hac⟩ := hv i hi
  obtain ⟨-, h1, -⟩ := hS.2.2.2 k hk
  have hshM : M 207 52 = sh := by rw [hR0 207 (by decide)]; exact hsh
  have m2M : M 219 i = nI (Pt i) := by rw [hR0 219 (by decide)]; exact m2
  have hSM : fn_X12_isSlate (nI k) M = some (if bt (μ 2 6) k = true then 1 else 0) := by
    have h := rt_slateI hS hk
    unfold fn_X12_isSlate at h ⊢
    rw [hR0 211 (by decide)]
    exact h
  unfold ev_D sp_D
  unfold fn_X12_dropsOf
  rw [if_pos (rt_in (by omega) (by decide)), nI_clamp (show i < 2 ^ 31 by omega), m2M, hshM, ← s2, ro_lt, hSM, Option.bind_some]
  by_cases c1 : bt (μ 2 6) k = true
  · obtain ⟨-, e212, e213⟩ := h1 c1
    rw [← hR0 212 (by decide)] at e212
    rw [← hR0 213 (by decide)] at e213
    rw [if_pos c1, if_neg rt_10, rt_nailM (by omega), Option.bind_some, hR0 207 (by decide), hS.1]
    by_cases c2 : bt (μ 2 7) k = true
    · rw [if_pos c2, if_neg rt_10, if_neg (by rw [c2]; simp)]
      exact ⟨M, rfl, fun _ _ _ => rfl, by omega, fun h => absurd h (by omega)⟩
    · have c2' : bt (μ 2 7) k = false := by simpa using c2
      rw [if_neg c2, if_pos rfl, if_pos (rt_in hk (by decide)), nI_clamp (show k < 2 ^ 31 by omega), e212, e213]
      by_cases c3 : iv_sc μ 2 i + sh < μ 7 k
      · rw [if_pos c3, if_neg (fun h => h.2.2.1 c3)]
        exact ⟨M, rfl, fun _ _ _ => rfl, by omega, fun h => absurd h (by omega)⟩
      · rw [if_neg c3]
        by_cases c4 : iv_sc μ 2 i + sh ≤ μ 8 k
        · have hc : bt (μ 2 6) k = true ∧ bt (μ 2 7) k = false ∧ ¬ iv_sc μ 2 i + sh < μ 7 k ∧ iv_sc μ 2 i + sh ≤ μ 8 k := ⟨c1, c2', c3, c4⟩
          rw [if_pos c4, if_pos hc]
          obtain ⟨g, hg, hgl⟩ := rt_feelsNote2 hR0 hw' hsh hi hk c1
          rw [hg, Option.bind_some]
          obtain ⟨m', r1, r2⟩ := rt_byLaw (μ := ro_arr M 240 g) (W := iv_lw μ) (lt := g) (kind := 0) (most := 99) (by decide) (by decide) (by decide) (gl_W hR0 hW) (ro_arr_same _ _ _)
          have r1 : fn_X12_byLaw 100 99 (ro_arr M 240 g) = some (sp_amt (iv_lw μ) g (nI 0) (nI 99), m') := r1
          rw [sp_amt_cg hgl] at r1
          rw [r1, Option.bind_some]
          obtain ⟨n, hn, en⟩ := sp_amt_nn (W := iv_lw μ) (lt := ev_L μ sh i k) (kind := 0) (most := 99) (by decide)
          have en' : sp_amt (iv_lw μ) (sp_lt (iv_sc μ) (μ 5) (μ 6) (μ 9) sh i k) 0 99 = nI n := en
          rw [en', nI_clamp (by omega)]
          exact ⟨m', by rw [show sp_amt (iv_lw μ) (ev_L μ sh i k) (nI 0) (nI 99) = nI n from en], fun o ho ho2 => by rw [r2 o ho, ro_arr_ne _ _ ho2], hn, fun _ => c1⟩
        · rw [if_neg c4, if_neg (fun h => c4 h.2.2.2)]
          exact ⟨M, rfl, fun _ _ _ => rfl, by omega, fun h => absurd h (by omega)⟩
  · rw [if_neg c1, if_pos rfl, if_neg (fun h => c1 h.1)]
    exact ⟨M, rfl, fun _ _ _ => rfl, by omega, fun h => absurd h (by omega)⟩
theorem rt_isSnowM2 {μ M : ro_Mem} {sh : Int32} {i k N : Nat} (hR0 : ∀ o, 207 ≤ o → M o = μ o) (hw : Wd μ N) (hsh : μ 207 52 = sh) (hi : i < N) (hk : k < 16) (ht : bt (μ 2 6) k = true) : ∃ m', fn_X12_isSnow (nI i) (nI k) M = some (if ev_S μ sh i k = true then 1 else 0, m') ∧ (∀ o, ¬ o = 239 → ¬ o = 240 → m' o = M o) := by
  obtain ⟨g, hg, hgl⟩ := rt_feelsNote2 hR0 hw hsh hi hk ht
  obtain ⟨-, -, -, hW, -, -⟩ := hw
  unfold fn_X12_isSnow
  rw [hg, Option.bind_some]
  obtain ⟨m', r1, r2⟩ := rt_anySnow (μ := ro_arr M 240 g) (W := iv_lw μ) (lt := g) (gl_W hR0 hW) (ro_arr_same _ _ _)
  rw [sp_any_cg hgl] at r1
  rw [r1, Option.bind_some]
  refine ⟨m', ?_, fun o ho ho2 => by rw [r2 o ho, ro_arr_ne _ _ ho2]⟩
  unfold ev_S
  cases sp_any (iv_lw μ) (ev_L μ sh i k) 1
  · exact if_pos (Or.inl rfl)
  · exact if_pos (Or.inr rfl)
def PM2 (V M : ro_Mem) (sh : Int32) (T : Nat) (m : ro_Mem) : Prop := (∀ o, ¬ o = 239 → ¬ o = 240 → ¬ o = 241 → ¬ o = 242 → m o = M o) ∧ ∀ t, t < T → m 241 t = nI (ev_D V sh (t / 16) (t % 16)) ∧ m 242 t = if 0 < ev_D V sh (t / 16) (t % 16) ∧ ev_S V sh (t / 16) (t % 16) = true then 1 else 0
theorem rt_lays2 {μ M : ro_Mem} {N : Nat} {sh : Int32} (hR0 : ∀ o, 207 ≤ o → M o = μ o) (hw : Wd μ N) (hsh : μ 207 52 = sh) : ∃ m', fn_X12_laysDrops M = some m' ∧ PM2 μ M sh (16 * N) m' := by
  have hSW := hw.2.1
  have hn : μ 207 18 = nI N := hw.notes.1
  have hn2 : N ≤ 32 := hw.2.2.2.2.2
  have nar0 : vp_nar .boolean 0 = 0 := rt_nar (Or.inl rfl)
  have nar1 : vp_nar .boolean 1 = 1 := rt_nar (Or.inr rfl)
  unfold fn_X12_laysDrops
  have hl : ∃ m', PM2 μ M sh (16 * N) m' ∧ fl_X12_laysDrops_2 (0, M) = some m' := by
    unfold fl_X12_laysDrops_2
    refine rt_cnt (fun i m => (nI i, m)) (fun m => m) N (fun i m => PM2 μ M sh (16 * i) m) ?_ ?_ ro_FU (Nat.lt_of_le_of_lt hn2 (by decide)) M ⟨fun _ _ _ _ _ => rfl, fun t h => absurd h (by omega)⟩
    · intro i hi rec m hP
      show ∃ m', _ ∧ fb_X12_laysDrops_2 rec (nI i) m = rec (nI (i + 1), m')
      unfold fb_X12_laysDrops_2
      have a1 : m 207 18 = nI N := by rw [hP.1 207 (by omega) (by omega) (by omega) (by omega), hR0 207 (by decide)]; exact hn
      rw [a1, if_neg (nI_ge hi (by omega))]
      have hin : ∃ m', PM2 μ M sh (16 * i + 16) m' ∧ fl_X12_laysDrops_12 (nI i) (0, m) = some m' := by
        unfold fl_X12_laysDrops_12
        refine rt_cnt (fun k m => (nI k, m)) (fun m => m) 16 (fun k m => PM2 μ M sh (16 * i + k) m) ?_ ?_ ro_FU (by decide) m hP
        · intro k hk rec m hP
          show ∃ m', _ ∧ fb_X12_laysDrops_12 (nI i) rec (nI k) m = rec (nI (k + 1), m')
          have hfr : Fr μ (gl_ μ m) := gl_fr (fun o h1 h2 => by rw [hP.1 o (by omega) (by omega) (by omega) (by omega), hR0 o h1])
          have hwm := hw.fr hfr
          have hshm : gl_ μ m 207 52 = sh := by rw [gl_ge (by decide), hP.1 207 (by omega) (by omega) (by omega) (by omega), hR0 207 (by decide)]; exact hsh
          obtain ⟨m1, d1, d2, d3, d4⟩ := rt_dropsM2 (M := m) (fun o ho => (gl_ge ho).symm) hwm hshm hi hk
          obtain ⟨v1, v2, v3⟩ := hfr.ev hSW
          rw [v1] at d1 d3 d4
          unfold fb_X12_laysDrops_12
          have e16 : (16 : Int32) * nI i + nI k = nI (16 * i + k) := by
            show nI 16 * nI i + nI k = _
            rw [pk_mul, nI_add]
          have dv : (16 * i + k) / 16 = i := by omega
          have md : (16 * i + k) % 16 = k := by omega
          rw [if_neg (show ¬ (16 : Int32) ≤ nI k from nI_ge (b := 16) hk (by decide)), e16, d1, Option.bind_some, if_pos (rt_in (n := 512) (by omega) (by decide)), nI_clamp (show 16 * i + k < 2 ^ 31 by omega)]
          obtain ⟨m9, e9⟩ : ∃ m9, m9 = ro_set m1 241 (16 * i + k) (nI (ev_D μ sh i k)) := ⟨_, rfl⟩
          show ∃ m', _ ∧ ro_lt (ro_set m1 241 (16 * i + k) (nI (ev_D μ sh i k))) _ = _
          rw [← e9, ro_lt]
          have q241 : m9 241 = upd (m 241) (16 * i + k) (nI (ev_D μ sh i k)) := by rw [e9, ro_set_same, d2 241 (by omega) (by omega)]
          have qo : ∀ o, ¬ o = 239 → ¬ o = 240 → ¬ o = 241 → m9 o = m o := fun o h1 h2 h3 => by rw [e9, ro_set_ne _ _ _ h3, d2 o h1 h2]
          have qv : m9 241 (16 * i + k) = nI (ev_D μ sh i k) := by rw [q241, pk_us]
          rw [qv]
          have old : ∀ t, t < 16 * i + k → m9 241 t = m 241 t := fun t ht => by rw [q241, pk_un (by omega)]
          have fin : ∀ (m13 : ro_Mem) (x : Int32), (∀ o, ¬ o = 239 → ¬ o = 240 → m13 o = m9 o) → x = (if 0 < ev_D μ sh i k ∧ ev_S μ sh i k = true then 1 else 0) → ∃ m', PM2 μ M sh (16 * i + (k + 1)) m' ∧ rec (nI (k + 1), ro_set m13 242 (16 * i + k) x) = rec (nI (k + 1), m') := by
            intro m13 x s2 hx
            refine ⟨_, ⟨fun o h1 h2 h3 h4 => by rw [ro_set_ne _ _ _ h4, s2 o h1 h2, qo o h1 h2 h3, hP.1 o h1 h2 h3 h4], fun t ht => ?_⟩, rfl⟩
            rw [ro_set_ne _ _ _ (show ¬ 241 = 242 by decide), s2 241 (by omega) (by omega)]
            by_cases e : t = 16 * i + k
            · rw [e, dv, md, qv, ro_set_same, pk_us]
              exact ⟨rfl, hx⟩
            · rw [ro_set_same, pk_un (by omega), s2 242 (by omega) (by omega), old t (by omega), qo 242 (by omega) (by omega) (by omega)]
              exact hP.2 t (by omega)
          rw [nI_1 k, nar0, nar1]
          by_cases c : ev_D μ sh i k = 0
          · rw [if_pos (show nI (ev_D μ sh i k) ≤ 0 by rw [c]; exact Int32.le_refl _), ro_lt]
            exact fin m9 0 (fun _ _ _ => rfl) (by rw [if_neg (by omega)])
          · rw [if_neg (show ¬ nI (ev_D μ sh i k) ≤ 0 from nI_nle (by omega) (by omega))]
            have f9 : Fr μ (gl_ μ m9) := gl_fr (fun o h1 h2 => by rw [qo o (by omega) (by omega) (by omega), hP.1 o (by omega) (by omega) (by omega) (by omega), hR0 o h1])
            have sh9 : gl_ μ m9 207 52 = sh := by rw [gl_ge (by decide), qo 207 (by omega) (by omega) (by omega), ← gl_ge (V := μ) (m := m) (show 207 ≤ 207 by decide)]; exact hshm
            have t9 : bt (gl_ μ m9 2 6) k = true := by rw [gl_lt (by decide)]; have := d4 (by omega); rwa [gl_lt (by decide)] at this
            obtain ⟨m13, s1, s2⟩ := rt_isSnowM2 (M := m9) (fun o ho => (gl_ge ho).symm) (hw.fr f9) sh9 hi hk t9
            have eS : ev_S (gl_ μ m9) sh i k = ev_S μ sh i k := by
              unfold ev_S
              rw [(f9.ev hSW).2.2, (f9.eve hSW).2.1]
            rw [eS] at s1
            rw [s1, Option.bind_some]
            by_cases cs : ev_S μ sh i k = true
            · rw [if_pos cs]
              show ∃ m', _ ∧ (if (1 : Int32) = 0 then _ else ro_lt _ _) = _
              rw [if_neg rt_10, ro_lt]
              exact fin m13 1 s2 (by rw [if_pos ⟨by omega, cs⟩])
            · rw [if_neg cs]
              show ∃ m', _ ∧ (if (0 : Int32) = 0 then ro_lt _ _ else _) = _
              rw [if_pos rfl, ro_lt]
              exact fin m13 0 s2 (by rw [if_neg (fun h => cs h.2)])
        · intro rec m _
          rfl
      obtain ⟨m', hP', e'⟩ := hin
      rw [e', Option.bind_some, nI_1]
      exact ⟨m', by rw [show 16 * (i + 1) = 16 * i + 16 by omega]; exact hP', rfl⟩
    · intro rec m hP
      show fb_X12_laysDrops_2 rec (nI N) m = some m
      have a1 : m 207 18 = nI N := by rw [hP.1 207 (by omega) (by omega) (by omega) (by omega), hR0 207 (by decide)]; exact hn
      unfold fb_X12_laysDrops_2
      rw [a1, if_pos (Int32.le_refl _)]
  obtain ⟨m', hP, e⟩ := hl
  rw [e]
  exact ⟨m', rfl, hP⟩
def MP2 (V M : ro_Mem) (N : Nat) (m : ro_Mem) : Prop := (∀ o, ¬ (239 ≤ o ∧ o ≤ 246) → m o = M o) ∧ ∀ t, t < 16 * N → m 241 t = nI (ev_D V 0 (t / 16) (t % 16)) ∧ m 242 t = if 0 < ev_D V 0 (t / 16) (t % 16) ∧ ev_S V 0 (t / 16) (t % 16) = true then 1 else 0
theorem MP2.put {V M m m' : ro_Mem} {N : Nat} (h : MP2 V M N m) (h' : ∀ o, ¬ o = 243 → ¬ o = 244 → ¬ o = 245 → ¬ o = 246 → m' o = m o) : MP2 V M N m' := by
  refine ⟨fun o h1 => by rw [h' o (by omega) (by omega) (by omega) (by omega)]; exact h.1 o h1, fun t ht => ?_⟩
  rw [h' 241 (by decide) (by decide) (by decide) (by decide), h' 242 (by decide) (by decide) (by decide) (by decide)]
  exact h.2 t ht
theorem rt_fallsOf2 {μ M m : ro_Mem} {N a : Nat} (hR0 : ∀ o, 207 ≤ o → M o = μ o) (hw : Wd μ N) (ha : a < 4) {v2 v3 : Int32} (tt : Nat → Nat) (hC : MP2 μ M N m) (hS : ev_St μ N a (tt 0) (m 244) (m 245) (m 246) (m 243))
    (hst : ∀ i k, i < N → k < 16 → ((nI (nt_ μ 5 i) = v2 ∧ 0 < ev_D μ 0 i k ∧ (if ev_S μ 0 i k = true then (1 : Int32) else 0) = v3) → ev_F μ 0 i k = a ∧ tt (16 * i + k) = 16 * i + k ∧ tt (16 * i + k + 1) = 16 * i + k + 1) ∧
      (¬ (nI (nt_ μ 5 i) = v2 ∧ 0 < ev_D μ 0 i k ∧ (if ev_S μ 0 i k = true then (1 : Int32) else 0) = v3) → tt (16 * i + k + 1) = tt (16 * i + k) ∨ (tt (16 * i + k) = 16 * i + k ∧ tt (16 * i + k + 1) = 16 * i + k + 1 ∧ ¬ (0 < ev_D μ 0 i k ∧ ev_F μ 0 i k = a)))) :
    ∃ m', fn_X12_fallsOf (nI a) v2 v3 m = some m' ∧ MP2 μ M N m' ∧ ev_St μ N a (tt (16 * N)) (m' 244) (m' 245) (m' 246) (m' 243) := by
  have hn : μ 207 18 = nI N := hw.notes.1
  have hn2 : N ≤ 32 := hw.2.2.2.2.2
  have hl : ∃ m', (MP2 μ M N m' ∧ ev_St μ N a (tt (16 * N)) (m' 244) (m' 245) (m' 246) (m' 243)) ∧ fl_X12_fallsOf_3 (nI a) v2 v3 (0, m) = some m' := by
    unfold fl_X12_fallsOf_3
    refine rt_cnt (fun i m => (nI i, m)) (fun m => m) N (fun i m => MP2 μ M N m ∧ ev_St μ N a (tt (16 * i)) (m 244) (m 245) (m 246) (m 243)) ?_ ?_ ro_FU (Nat.lt_of_le_of_lt hn2 (by decide)) m ⟨hC, hS⟩
    · intro i hi rec m hP
      obtain ⟨hC, hS⟩ := hP
      show ∃ m', _ ∧ fb_X12_fallsOf_3 (nI a) v2 v3 rec (nI i) m = rec (nI (i + 1), m')
      unfold fb_X12_fallsOf_3
      have a1 : m 207 18 = nI N := by rw [hC.1 207 (by omega), hR0 207 (by decide)]; exact hn
      rw [a1, if_neg (nI_ge hi (by omega))]
      obtain ⟨hnt, -, -, -, hac⟩ := hw.nt hi
      have hin : ∃ m', (MP2 μ M N m' ∧ ev_St μ N a (tt (16 * i + 16)) (m' 244) (m' 245) (m' 246) (m' 243)) ∧ fl_X12_fallsOf_15 (nI a) v2 v3 (nI i) (0, m) = some m' := by
        unfold fl_X12_fallsOf_15
        refine rt_cnt (fun k m => (nI k, m)) (fun m => m) 16 (fun k m => MP2 μ M N m ∧ ev_St μ N a (tt (16 * i + k)) (m 244) (m 245) (m 246) (m 243)) ?_ ?_ ro_FU (by decide) m ⟨hC, hS⟩
        · intro k hk rec m hP
          obtain ⟨hC, hS⟩ := hP
          show ∃ m', _ ∧ fb_X12_fallsOf_15 (nI a) v2 v3 (nI i) rec (nI k) m = rec (nI (k + 1), m')
          unfold fb_X12_fallsOf_15
          have e16 : (16 : Int32) * nI i + nI k = nI (16 * i + k) := by
            show nI 16 * nI i + nI k = _
            rw [pk_mul, nI_add]
          have dv : (16 * i + k) / 16 = i := by omega
          have md : (16 * i + k) % 16 = k := by omega
          obtain ⟨d1, d2⟩ := hC.2 (16 * i + k) (by omega)
          rw [dv, md] at d1 d2
          have ma : m 222 i = nI (nt_ μ 5 i) := by rw [hC.1 222 (by omega), hR0 222 (by decide)]; exact (hnt 5 (by decide) (by decide)).2.1
          have hD9 := ev_D_le μ 0 i k
          obtain ⟨g1, g2⟩ := hst i k hi hk
          rw [if_neg (show ¬ (16 : Int32) ≤ nI k from nI_ge (b := 16) hk (by decide)), if_pos (rt_in (by omega) (by decide)), nI_clamp (show i < 2 ^ 31 by omega), ma, nI_1]
          have dry : ¬ (nI (nt_ μ 5 i) = v2 ∧ 0 < ev_D μ 0 i k ∧ (if ev_S μ 0 i k = true then (1 : Int32) else 0) = v3) → ∃ m', (MP2 μ M N m' ∧ ev_St μ N a (tt (16 * i + (k + 1))) (m' 244) (m' 245) (m' 246) (m' 243)) ∧ rec (nI (k + 1), m) = rec (nI (k + 1), m') := by
            intro hno
            refine ⟨m, ⟨hC, ?_⟩, rfl⟩
            rcases g2 hno with e | ⟨e1, e2, e3⟩
            · rw [show 16 * i + (k + 1) = 16 * i + k + 1 from rfl, e]; exact hS
            · rw [show 16 * i + (k + 1) = 16 * i + k + 1 from rfl, e2]
              rw [e1] at hS
              exact hS.dry ha (by omega) (by rw [dv, md]; exact e3)
          by_cases c1 : nI (nt_ μ 5 i) = v2
          · rw [if_pos c1, e16, if_pos (rt_in (n := 512) (by omega) (by decide)), nI_clamp (show 16 * i + k < 2 ^ 31 by omega), d1]
            by_cases c : ev_D μ 0 i k = 0
            · rw [if_pos (show nI (ev_D μ 0 i k) ≤ 0 by rw [c]; exact Int32.le_refl _)]
              exact dry (fun h => by omega)
            · rw [if_neg (show ¬ nI (ev_D μ 0 i k) ≤ 0 from nI_nle (by omega) (by omega)), d2]
              have ev3 : (if 0 < ev_D μ 0 i k ∧ ev_S μ 0 i k = true then (1 : Int32) else 0) = (if ev_S μ 0 i k = true then (1 : Int32) else 0) := by
                by_cases q : ev_S μ 0 i k = true
                · rw [if_pos ⟨by omega, q⟩, if_pos q]
                · rw [if_neg (fun h => q h.2), if_neg q]
              rw [ev3]
              by_cases c3 : (if ev_S μ 0 i k = true then (1 : Int32) else 0) = v3
              · rw [if_pos c3]
                obtain ⟨g3, g4, g5⟩ := g1 ⟨c1, by omega, c3⟩
                obtain ⟨q1, q2, q3⟩ := hw.ss hk
                have hbu : ∀ s, s < 96 → nn (μ 4 s) ≤ 99 := fun s h => (hw.bu h).2.1
                rw [g4] at hS
                obtain ⟨m', f1, f2, f3, f4, f5⟩ := rt_fallM (um := μ 3) (bu := μ 4) (d := ev_D μ 0 i k) (q := nn (μ 6 k)) hS.1 hS.2.1 hS.2.2 ha (by omega) hk d1 hD9 (by rw [hC.1 211 (by omega), hR0 211 (by decide)]; exact q3 (ev_D_told (sh := 0) (i := i) (by omega))) q2 (by rw [hC.1 208 (by omega), hR0 208 (by decide)]; exact (hw.um q2).1) hbu (fun s h => by
                  have h1 : sp_prev (ev_D μ 0) (ev_F μ 0) (μ 3) (μ 6) a s (16 * i + k) ≤ (16 * i + k) * 99 := sp_prev_le (ev_D_le μ 0)
                  have h2 : (16 * i + k) * 99 ≤ 512 * 99 := Nat.mul_le_mul_right _ (by omega)
                  show sp_prev (ev_D μ 0) (ev_F μ 0) (μ 3) (μ 6) a s (16 * i + k) < 2 ^ 19
                  omega)
                rw [f1, Option.bind_some]
                refine ⟨m', ⟨hC.put f5, ?_⟩, rfl⟩
                rw [show 16 * i + (k + 1) = 16 * i + k + 1 from rfl, g5]
                exact EvS.wet (q := nn (μ 6 k)) hS ha (by omega) hk ⟨by omega, g3⟩ rfl f2 f3 f4
              · rw [if_neg c3]
                exact dry (fun h => c3 h.2.2)
          · rw [if_neg c1]
            exact dry (fun h => c1 h.1)
        · intro rec m _
          rfl
      obtain ⟨m', hP', e'⟩ := hin
      rw [e', Option.bind_some, nI_1]
      exact ⟨m', by rw [show 16 * (i + 1) = 16 * i + 16 by omega]; exact hP', rfl⟩
    · intro rec m hP
      show fb_X12_fallsOf_3 (nI a) v2 v3 rec (nI N) m = some m
      have a1 : m 207 18 = nI N := by rw [hP.1.1 207 (by omega), hR0 207 (by decide)]; exact hn
      unfold fb_X12_fallsOf_3
      rw [a1, if_pos (Int32.le_refl _)]
  obtain ⟨m', ⟨h1, h2⟩, e⟩ := hl
  refine ⟨m', ?_, h1, h2⟩
  unfold fn_X12_fallsOf
  rw [e]
  rfl
theorem rt_evening2 {μ M : ro_Mem} {N : Nat} (hR0 : ∀ o, 207 ≤ o → M o = μ o) (hw : Wd μ N) (hsh : μ 207 52 = 0) : ∃ m', fn_X12_evening M = some m' ∧ MP2 μ M N m' ∧ ev_Bt μ N 4 (m' 244) (m' 245) (m' 246) := by
  unfold fn_X12_evening
  obtain ⟨m1, p1, p2⟩ := rt_lays2 hR0 hw hsh
  rw [p1, Option.bind_some]
  have hC1 : MP2 μ M N m1 := ⟨fun o h => p2.1 o (by omega) (by omega) (by omega) (by omega), p2.2⟩
  have l1 : fl_X12_evening_6 (0, m1) = some (ro_arr m1 244 (rt_mix (fun _ => 0) (m1 244) 384)) := by
    unfold fl_X12_evening_6
    refine rt_fillL (fun _ _ => 0) (fun _ _ => rfl) (by decide) (fun i hi rec m => ?_) (fun rec m => rfl)
    show fb_X12_evening_6 rec (nI i) m = _
    unfold fb_X12_evening_6
    rw [if_neg (show ¬ (384 : Int32) ≤ nI i from nI_ge (b := 384) hi (by decide)), if_pos (rt_in hi (by decide)), nI_clamp (by omega), ro_lt, nI_1]
  have l2 : ∀ m : ro_Mem, fl_X12_evening_28 (0, m) = some (ro_arr m 245 (rt_mix (fun _ => 0) (m 245) 32)) := by
    intro m
    unfold fl_X12_evening_28
    refine rt_fillL (fun _ _ => 0) (fun _ _ => rfl) (by decide) (fun i hi rec m => ?_) (fun rec m => rfl)
    show fb_X12_evening_28 rec (nI i) m = _
    unfold fb_X12_evening_28
    rw [if_neg (show ¬ (32 : Int32) ≤ nI i from nI_ge (b := 32) hi (by decide)), if_pos (rt_in hi (by decide)), nI_clamp (by omega), ro_lt, nI_1]
  have l3 : ∀ m : ro_Mem, fl_X12_evening_49 (0, m) = some (ro_arr m 246 (rt_mix (fun _ => 0) (m 246) 16)) := by
    intro m
    unfold fl_X12_evening_49
    refine rt_fillL (fun _ _ => 0) (fun _ _ => rfl) (by decide) (fun i hi rec m => ?_) (fun rec m => rfl)
    show fb_X12_evening_49 rec (nI i) m = _
    unfold fb_X12_evening_49
    rw [if_neg (show ¬ (16 : Int32) ≤ nI i from nI_ge (b := 16) hi (by decide)), if_pos (rt_in hi (by decide)), nI_clamp (by omega), ro_lt, nI_1]
  rw [l1, Option.bind_some, l2, Option.bind_some, l3, Option.bind_some]
  obtain ⟨m0, em0⟩ : ∃ m0, m0 = ro_arr (ro_arr (ro_arr m1 244 (rt_mix (fun _ => 0) (m1 244) 384)) 245 (rt_mix (fun _ => 0) (ro_arr m1 244 (rt_mix (fun _ => 0) (m1 244) 384) 245) 32)) 246 (rt_mix (fun _ => 0) (ro_arr (ro_arr m1 244 (rt_mix (fun _ => 0) (m1 244) 384)) 245 (rt_mix (fun _ => 0) (ro_arr m1 244 (rt_mix (fun _ => 0) (m1 244) 384) 245) 32) 246) 16) := ⟨_, rfl⟩
  rw [← em0]
  have c0 : MP2 μ M N m0 := hC1.put (fun o h1 h2 h3 h4 => by rw [em0, ro_arr_ne _ _ h4, ro_arr_ne _ _ h3, ro_arr_ne _ _ h2])
  have b0 : ev_Bt μ N 0 (m0 244) (m0 245) (m0 246) := by
    rw [em0]
    refine ev_Bt0 (fun j hj => ?_) (fun j hj => ?_) (fun j hj => ?_)
    · rw [ro_arr_ne _ _ (show ¬ 244 = 246 by decide), ro_arr_ne _ _ (show ¬ 244 = 245 by decide), ro_arr_same]
      exact if_pos hj
    · rw [ro_arr_ne _ _ (show ¬ 245 = 246 by decide), ro_arr_same]
      exact if_pos hj
    · rw [ro_arr_same]
      exact if_pos hj
  have hl : ∃ m', (MP2 μ M N m' ∧ ev_Bt μ N 4 (m' 244) (m' 245) (m' 246)) ∧ fl_X12_evening_70 (0, m0) = some m' := by
    unfold fl_X12_evening_70
    refine rt_cnt (fun i m => (nI i, m)) (fun m => m) 4 (fun a m => MP2 μ M N m ∧ ev_Bt μ N a (m 244) (m 245) (m 246)) ?_ ?_ ro_FU (by decide) m0 ⟨c0, b0⟩
    · intro a ha rec m hP
      obtain ⟨hC, hB⟩ := hP
      show ∃ m', _ ∧ fb_X12_evening_70 rec (nI a) m = rec (nI (a + 1), m')
      unfold fb_X12_evening_70
      rw [if_neg (show ¬ (4 : Int32) ≤ nI a from nI_ge (b := 4) ha (by decide)), nI_1]
      have l77 : fl_X12_evening_77 (nI a) (0, m) = some (ro_arr m 243 (rt_mix (m 209) (m 243) 96)) := by
        unfold fl_X12_evening_77
        refine rt_fillL (fun m i => m 209 i) (fun f i => by rw [ro_arr_ne _ _ (by decide)]) (by decide) (fun i hi rec m => ?_) (fun rec m => rfl)
        show fb_X12_evening_77 (nI a) rec (nI i) m = _
        unfold fb_X12_evening_77
        rw [if_neg (show ¬ (96 : Int32) ≤ nI i from nI_ge (b := 96) hi (by decide)), if_pos (rt_in hi (by decide)), nI_clamp (by omega), ro_lt, nI_1]
      rw [l77, Option.bind_some]
      have hC1 : MP2 μ M N (ro_arr m 243 (rt_mix (m 209) (m 243) 96)) := hC.put (fun o h1 h2 h3 h4 => ro_arr_ne _ _ h1)
      have hS1 : ev_St μ N a 0 (ro_arr m 243 (rt_mix (m 209) (m 243) 96) 244) (ro_arr m 243 (rt_mix (m 209) (m 243) 96) 245) (ro_arr m 243 (rt_mix (m 209) (m 243) 96) 246) (ro_arr m 243 (rt_mix (m 209) (m 243) 96) 243) := by
        rw [ro_arr_same, ro_arr_ne _ _ (show ¬ 244 = 243 by decide), ro_arr_ne _ _ (show ¬ 245 = 243 by decide), ro_arr_ne _ _ (show ¬ 246 = 243 by decide)]
        refine EvB.start hB ha (fun s h => ?_) (fun s h => (hw.bu h).1)
        rw [rt_mix_lt h, hC.1 209 (by omega), hR0 209 (by decide)]
        exact (hw.bu h).2.2
      obtain ⟨i0, hi0, hlo, hhi⟩ := hw.split a
      have pred : ∀ x, nI x = nI a - 1 → x < 4 → x + 1 = a := by
        intro x e hx
        have := congrArg Int32.toInt e
        rw [show nI a - 1 = nI a - nI 1 from rfl, pk_sub_toInt (by omega) (by decide), nI_toInt (by omega)] at this
        omega
      obtain ⟨m2, f1, f2, f3⟩ := rt_fallsOf2 hR0 hw ha (v2 := nI a - 1) (v3 := 1) (fun t => min t (16 * i0)) hC1 (by rw [Nat.zero_min]; exact hS1) (by
        intro i k hi hk
        have hac := (hw.nt hi).2.2.2.2
        constructor
        · rintro ⟨e1, e2, e3⟩
          have h1 := pred _ e1 hac
          have h2 : i < i0 := by
            rcases Nat.lt_or_ge i i0 with h | h
            · exact h
            · have := hhi i h hi; omega
          have h3 : ev_S μ 0 i k = true := by
            by_cases c : ev_S μ 0 i k = true
            · exact c
            · rw [if_neg c] at e3; exact absurd e3 (by decide)
          refine ⟨by rw [ev_F_eq, if_pos h3]; exact h1, by show min _ _ = _; omega, by show min _ _ = _; omega⟩
        · intro hno
          by_cases h2 : i < i0
          · refine Or.inr ⟨by show min _ _ = _; omega, by show min _ _ = _; omega, ?_⟩
            rintro ⟨h4, h5⟩
            have h6 := hlo i h2
            rw [ev_F_eq] at h5
            by_cases c : ev_S μ 0 i k = true
            · rw [if_pos c] at h5
              refine hno ⟨?_, h4, by rw [if_pos c]⟩
              rw [show nt_ μ 5 i = a - 1 by omega]
              exact (pk_sub (b := 1) (by omega)).symm
            · rw [if_neg c] at h5; omega
          · refine Or.inl ?_
            show min _ _ = min _ _
            omega)
      rw [f1, Option.bind_some]
      obtain ⟨m3, g1, g2, g3⟩ := rt_fallsOf2 hR0 hw ha (v2 := nI a) (v3 := 0) (fun t => max t (16 * i0)) f2 (by
        have e : max 0 (16 * i0) = min (16 * N) (16 * i0) := by omega
        show ev_St μ N a (max 0 (16 * i0)) _ _ _ _
        rw [e]; exact f3) (by
        intro i k hi hk
        have hac := (hw.nt hi).2.2.2.2
        constructor
        · rintro ⟨e1, e2, e3⟩
          have h1 : nt_ μ 5 i = a := (nI_eq (by omega) (by omega)).mp e1
          have h2 : i0 ≤ i := by
            rcases Nat.lt_or_ge i i0 with h | h
            · have := hlo i h; omega
            · exact h
          have h3 : ¬ ev_S μ 0 i k = true := by
            intro c
            rw [if_pos c] at e3; exact absurd e3 (by decide)
          refine ⟨by rw [ev_F_eq, if_neg h3]; exact h1, by show max _ _ = _; omega, by show max _ _ = _; omega⟩
        · intro hno
          by_cases h2 : i < i0
          · refine Or.inl ?_
            show max _ _ = max _ _
            omega
          · refine Or.inr ⟨by show max _ _ = _; omega, by show max _ _ = _; omega, ?_⟩
            rintro ⟨h4, h5⟩
            have h6 := hhi i (by omega) hi
            rw [ev_F_eq] at h5
            by_cases c : ev_S μ 0 i k = true
            · rw [if_pos c] at h5; omega
            · rw [if_neg c] at h5
              exact hno ⟨by rw [show nt_ μ 5 i = a by omega], h4, by rw [if_neg c]⟩)
      rw [g1, Option.bind_some]
      refine ⟨m3, ⟨g2, EvS.fin (l := m3 243) ?_ ha⟩, rfl⟩
      have e : max (16 * N) (16 * i0) = 16 * N := by omega
      have g3 : ev_St μ N a (max (16 * N) (16 * i0)) _ _ _ _ := g3
      rw [e] at g3
      exact g3
    · intro rec m _
      rfl
  obtain ⟨m', ⟨h1, h2⟩, e⟩ := hl
  rw [e]
  exact ⟨m', rfl, h1, h2⟩
