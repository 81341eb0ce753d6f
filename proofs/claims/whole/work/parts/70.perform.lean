-- ===== an evening is performed =====
theorem rt_fillR {o n : Nat} {μ : ro_Mem} (v : Nat → Int32) (hn : n < 1000) {b : ((Int32 × ro_Mem) → Option ro_Mem) → (Int32 × ro_Mem) → Option ro_Mem} (hs : ∀ i, i < n → ∀ rec f, (∀ j, i ≤ j → f j = μ o j) → b rec (nI i, ro_arr μ o f) = rec (nI (i + 1), ro_arr μ o (upd f i (v i)))) (he : ∀ rec m, b rec (nI n, m) = some m) : ro_loop b ro_FU (0, μ) = some (ro_arr μ o (rt_mix v (μ o) n)) := by
  have h0 : ((0 : Int32), μ) = (fun i => (nI i, ro_arr μ o (rt_mix v (μ o) i))) 0 := by
    show _ = (nI 0, ro_arr μ o (rt_mix v (μ o) 0))
    have : rt_mix v (μ o) 0 = μ o := by
      funext j
      exact if_neg (by omega)
    rw [this, ro_arr_self]
    rfl
  rw [h0]
  refine rt_loop (fun i => (nI i, ro_arr μ o (rt_mix v (μ o) i))) n ?_ ?_ ro_FU (Nat.lt_trans hn (by decide))
  · intro i hi rec
    show b rec (nI i, ro_arr μ o (rt_mix v (μ o) i)) = rec (nI (i + 1), ro_arr μ o (rt_mix v (μ o) (i + 1)))
    rw [hs i hi rec (rt_mix v (μ o) i) (fun j hj => if_neg (by omega))]
    congr 3
    funext j
    unfold upd rt_mix
    by_cases e : j = i
    · rw [if_pos e, if_pos (by omega), e]
    · rw [if_neg e]
      by_cases h : j < i
      · rw [if_pos h, if_pos (by omega)]
      · rw [if_neg h, if_neg (by omega)]
  · intro rec
    exact he rec _
def ml_ (mo : Int32) (s w : Nat) : Nat → Int32 := fun j => [0, 0, 0, 0, 0, 0, 0, 0, nI s / 12, ro_rem (nI s) 12, mo, nI w].getD j 0
def gm_ (W : Nat → Nat → Int32) (mo : Int32) (s w : Nat) : Nat := nn (sp_amt W (ml_ mo s w) (nI 2) (nI 9))
theorem gm_eq (W : Nat → Nat → Int32) (mo : Int32) (s w : Nat) : sp_amt W (ml_ mo s w) (nI 2) (nI 9) = nI (gm_ W mo s w) ∧ gm_ W mo s w ≤ 9 := by
  obtain ⟨n, hn, e⟩ := sp_amt_nn (W := W) (lt := ml_ mo s w) (kind := nI 2) (most := 9) (by decide)
  unfold gm_
  rw [e, nn_nI (by omega)]
  exact ⟨rfl, hn⟩
theorem rt_growC {m : ro_Mem} {L : Nat} {W Mw : Nat → Nat → Int32} {cl : Int32} {f : Nat → Nat → Nat} {mo : Nat → Nat} (hL : L = 21 ∨ L = 51) (hr : ro_rf m 1 2 = L) (hW : iv_W W Mw cl) (hj : ∀ j, j ≤ 6 → W j = m (L + j)) (h65 : ∀ a s, a < 4 → s < 96 → m 65 (96 * a + s) = nI (f a s)) (hmo : ∀ s, s < 96 → m 5 s = nI (mo s) ∧ mo s ≤ 99) : ∃ m', fn_X9_growMould m = some m' ∧ (∀ o, ¬ o = 5 → ¬ o = L + 7 → ¬ o = L + 8 → m' o = m o) ∧ (∀ s, s < 96 → m' 5 s = nI (min 99 (mo s + gm_ W (nI (mo s)) s (sp_sum (fun a => f a s) 4)))) := by
  unfold fn_X9_growMould
  rw [hr, if_pos (rt_law_id hL), rt_fill (rt_len7 hL) (by decide), Option.bind_some]
  have hl : ∃ m', ((∀ o, ¬ o = 5 → ¬ o = L + 7 → ¬ o = L + 8 → m' o = m o) ∧ (∀ s, s < 96 → m' 5 s = nI (min 99 (mo s + gm_ W (nI (mo s)) s (sp_sum (fun a => f a s) 4)))) ∧ (∀ s, 96 ≤ s → m' 5 s = m 5 s) ∧ ∀ j, j < 8 → m' (L + 7) j = 0) ∧ fl_X9_growMould_13 (0, ro_arr m (L + 7) (rt_mix (fun _ => 0) (m (L + 7)) 12)) = some m' := by
    unfold fl_X9_growMould_13
    refine rt_cnt (fun i (m' : ro_Mem) => (nI i, m')) (fun m' => m') 96 (fun q m' => (∀ o, ¬ o = 5 → ¬ o = L + 7 → ¬ o = L + 8 → m' o = m o) ∧ (∀ s, s < q → m' 5 s = nI (min 99 (mo s + gm_ W (nI (mo s)) s (sp_sum (fun a => f a s) 4)))) ∧ (∀ s, q ≤ s → m' 5 s = m 5 s) ∧ ∀ j, j < 8 → m' (L + 7) j = 0) ?_ ?_ ro_FU (by decide) _ ?_
    · intro q hq rec M hP
      obtain ⟨p1, p2, p3, p4⟩ := hP
      show ∃ s', _ ∧ fb_X9_growMould_13 rec (nI q) M = rec (nI (q + 1), s')
      have hrM : ∀ g, ro_rf (ro_arr M (L + 7) g) 1 2 = L := fun g => by
        unfold ro_rf
        rw [ro_arr_ne _ _ (show 1 ≠ L + 7 by omega), p1 1 (by omega) (by omega) (by omega)]; exact hr
      have hrM0 : ro_rf M 1 2 = L := by
        unfold ro_rf
        rw [p1 1 (by omega) (by omega) (by omega)]; exact hr
      have e5 : M 5 q = nI (mo q) := by rw [p3 q (Nat.le_refl _)]; exact (hmo q hq).1
      have hm9 := (hmo q hq).2
      unfold fb_X9_growMould_13
      rw [if_neg (show ¬ (96 : Int32) ≤ nI q from nI_ge (b := 96) hq (by decide)), rt_tellSeat hL hrM0 hq, Option.bind_some, hrM, if_pos (rt_law_id hL), e5, rt_seatWet4w (f := f) (fun a s ha hs => by rw [ro_arr_ne _ _ (show 65 ≠ L + 7 by omega), p1 65 (by omega) (by omega) (by omega)]; exact h65 a s ha hs) hq, Option.bind_some, ro_arr_set, ro_lt, if_pos (rt_in hq (by decide)), hrM, if_pos (rt_law_id hL), ro_arr_ne _ _ (show 5 ≠ L + 7 by omega), nI_clamp (show q < 2 ^ 31 by omega), e5]
      obtain ⟨g, eg⟩ : ∃ g, g = upd (upd (upd (upd (M (L + 7)) 8 (nI q / 12)) 9 (ro_rem (nI q) 12)) 10 (nI (mo q))) (11 : Int32).toNatClampNeg (nI (sp_sum (fun a => f a q) 4)) := ⟨_, rfl⟩
      rw [← eg]
      have hg : ∀ j, j < 12 → g j = ml_ (nI (mo q)) q (sp_sum (fun a => f a q) 4) j := by
        intro j hj
        rw [eg]
        unfold ml_
        have : j = 0 ∨ j = 1 ∨ j = 2 ∨ j = 3 ∨ j = 4 ∨ j = 5 ∨ j = 6 ∨ j = 7 ∨ j = 8 ∨ j = 9 ∨ j = 10 ∨ j = 11 := by omega
        rcases this with rfl | rfl | rfl | rfl | rfl | rfl | rfl | rfl | rfl | rfl | rfl | rfl
        · exact p4 0 (by decide)
        · exact p4 1 (by decide)
        · exact p4 2 (by decide)
        · exact p4 3 (by decide)
        · exact p4 4 (by decide)
        · exact p4 5 (by decide)
        · exact p4 6 (by decide)
        · exact p4 7 (by decide)
        · rfl
        · rfl
        · rfl
        · rfl
      obtain ⟨m', r1, r2⟩ := rt_amount (o0 := L) (μ := ro_arr M (L + 7) g) (kind := 2) (most := 9) (by decide) (by decide) hW (fun j hj' => by rw [hj j hj', ro_arr_ne _ _ (show L + j ≠ L + 7 by omega), p1 _ (by omega) (by omega) (by omega)])
      rw [ro_arr_same, sp_amt_cg hg] at r1
      have r1 : fn_X2_amount L 2 9 (ro_arr M (L + 7) g) = some (sp_amt W (ml_ (nI (mo q)) q (sp_sum (fun a => f a q) 4)) (nI 2) (nI 9), m') := r1
      have hge := gm_eq W (nI (mo q)) q (sp_sum (fun a => f a q) 4)
      rw [r1, Option.bind_some, hge.1, nI_add, show ro_mn 99 (nI (mo q + gm_ W (nI (mo q)) q (sp_sum (fun a => f a q) 4))) = nI (min 99 (mo q + gm_ W (nI (mo q)) q (sp_sum (fun a => f a q) 4))) from rt_mnn (x := 99) (by decide) (by omega), ro_lt, nI_1]
      have m5 : m' 5 = M 5 := by rw [r2 5 (by omega), ro_arr_ne _ _ (show 5 ≠ L + 7 by omega)]
      refine ⟨ro_set m' 5 q (nI (min 99 (mo q + gm_ W (nI (mo q)) q (sp_sum (fun a => f a q) 4)))), ⟨fun o h1 h2 h3 => ?_, fun s hs => ?_, fun s hs => ?_, fun j hj8 => ?_⟩, rfl⟩
      · rw [ro_set_ne _ _ _ h1, r2 o h3, ro_arr_ne _ _ h2, p1 o h1 h2 h3]
      · rw [ro_set_same]
        by_cases e : s = q
        · rw [e, pk_us]
        · rw [pk_un e, m5]
          exact p2 s (by omega)
      · rw [ro_set_same, pk_un (by omega), m5]
        exact p3 s (by omega)
      · rw [ro_set_ne _ _ _ (show ¬ L + 7 = 5 by omega), r2 (L + 7) (by omega), ro_arr_same, hg j (by omega)]
        have : j = 0 ∨ j = 1 ∨ j = 2 ∨ j = 3 ∨ j = 4 ∨ j = 5 ∨ j = 6 ∨ j = 7 := by omega
        rcases this with rfl | rfl | rfl | rfl | rfl | rfl | rfl | rfl <;> rfl
    · intro rec M _
      rfl
    · refine ⟨fun o h1 h2 h3 => ro_arr_ne _ _ h2, fun s h => absurd h (by omega), fun s _ => by rw [ro_arr_ne _ _ (show 5 ≠ L + 7 by omega)], fun j hj8 => ?_⟩
      rw [ro_arr_same]
      exact if_pos (by omega)
  obtain ⟨m', ⟨h1, h2, h3, h4⟩, e⟩ := hl
  rw [e, Option.bind_some]
  exact ⟨m', rfl, h1, h2⟩
theorem rt_growM {R : ro_Mem} {W : Nat → Nat → Int32} {f : Nat → Nat → Nat} {mo : Nat → Nat} (hW : iv_W W (iv_mw R) (R 207 38)) (h244 : ∀ a s, a < 4 → s < 96 → R 244 (96 * a + s) = nI (f a s)) (hmo : ∀ s, s < 96 → R 210 s = nI (mo s)) : ∃ m', fl_X12_perform_138 (0, R) = some m' ∧ (∀ o, ¬ o = 239 → ¬ o = 240 → ¬ o = 260 → m' o = R o) ∧ ∀ s, s < 96 → m' 260 s = nI (gm_ W (nI (mo s)) s (sp_sum (fun a => f a s) 4)) := by
  have hl : ∃ m', ((∀ o, ¬ o = 239 → ¬ o = 240 → ¬ o = 260 → m' o = R o) ∧ ∀ s, s < 96 → m' 260 s = nI (gm_ W (nI (mo s)) s (sp_sum (fun a => f a s) 4))) ∧ fl_X12_perform_138 (0, R) = some m' := by
    unfold fl_X12_perform_138
    refine rt_cnt (fun i (m' : ro_Mem) => (nI i, m')) (fun m' => m') 96 (fun q m' => (∀ o, ¬ o = 239 → ¬ o = 240 → ¬ o = 260 → m' o = R o) ∧ ∀ s, s < q → m' 260 s = nI (gm_ W (nI (mo s)) s (sp_sum (fun a => f a s) 4))) ?_ ?_ ro_FU (by decide) R ⟨fun _ _ _ _ => rfl, fun s h => absurd h (by omega)⟩
    · intro q hq rec M hP
      obtain ⟨p1, p2⟩ := hP
      show ∃ s', _ ∧ fb_X12_perform_138 rec (nI q) M = rec (nI (q + 1), s')
      have e210 : M 210 q = nI (mo q) := by rw [p1 210 (by omega) (by omega) (by omega)]; exact hmo q hq
      have e1 : (96 : Int32) + nI q = nI (96 + q) := nI_add 96 q
      have e2 : (192 : Int32) + nI q = nI (192 + q) := nI_add 192 q
      have e3 : (288 : Int32) + nI q = nI (288 + q) := nI_add 288 q
      have h0 := h244 0 q (by decide) hq
      have h1 := h244 1 q (by decide) hq
      have h2 := h244 2 q (by decide) hq
      have h3 := h244 3 q (by decide) hq
      rw [show 96 * 0 + q = q by omega] at h0
      rw [show 96 * 1 + q = 96 + q by omega] at h1
      rw [show 96 * 2 + q = 192 + q by omega] at h2
      rw [show 96 * 3 + q = 288 + q by omega] at h3
      have i0 : ro_in (nI q) 384 := rt_in (by omega) (by decide)
      have i1 : ro_in (nI (96 + q)) 384 := rt_in (by omega) (by decide)
      have i2 : ro_in (nI (192 + q)) 384 := rt_in (by omega) (by decide)
      have i3 : ro_in (nI (288 + q)) 384 := rt_in (by omega) (by decide)
      unfold fb_X12_perform_138
      rw [if_neg (show ¬ (96 : Int32) ≤ nI q from nI_ge (b := 96) hq (by decide)), rt_feels hq, Option.bind_some, e1, e2, e3, if_pos i0, if_pos i1, if_pos i2, if_pos i3]
      simp only [if_pos (show ro_in (nI q) 96 from rt_in hq (by decide))]
      rw [nI_clamp (show q < 2 ^ 31 by omega), nI_clamp (show 96 + q < 2 ^ 31 by omega), nI_clamp (show 192 + q < 2 ^ 31 by omega), nI_clamp (show 288 + q < 2 ^ 31 by omega), ro_arr_ne _ _ (show 244 ≠ 240 by decide), p1 244 (by omega) (by omega) (by omega), h0, h1, h2, h3, nI_add, nI_add, nI_add, ← rt_sum4 (fun a => f a q), ro_arr_set, ro_lt, e210]
      obtain ⟨g, eg⟩ : ∃ g, g = upd (upd (upd (upd (rt_mix (fun _ => 0) (M 240) 12) 8 (nI q / 12)) 9 (ro_rem (nI q) 12)) 10 (nI (mo q))) (11 : Int32).toNatClampNeg (nI (sp_sum (fun a => f a q) 4)) := ⟨_, rfl⟩
      rw [← eg]
      have hg : ∀ j, j < 12 → g j = ml_ (nI (mo q)) q (sp_sum (fun a => f a q) 4) j := by
        intro j hj
        rw [eg]
        unfold ml_
        have : j = 0 ∨ j = 1 ∨ j = 2 ∨ j = 3 ∨ j = 4 ∨ j = 5 ∨ j = 6 ∨ j = 7 ∨ j = 8 ∨ j = 9 ∨ j = 10 ∨ j = 11 := by omega
        rcases this with rfl | rfl | rfl | rfl | rfl | rfl | rfl | rfl | rfl | rfl | rfl | rfl <;> rfl
      obtain ⟨m', r1, r2⟩ := rt_byLaw (μ := ro_arr M 240 g) (W := W) (lt := g) (kind := 2) (most := 9) (by decide) (by decide) (by decide) (by
        have e1 : iv_mw (ro_arr M 240 g) = iv_mw R := cg_mw (fun o a b => by rw [ro_arr_ne _ _ (by omega)]; exact p1 o (by omega) (by omega) (by omega))
        rw [e1, ro_arr_ne _ _ (by decide), p1 207 (by omega) (by omega) (by omega)]
        exact hW) (ro_arr_same _ _ _)
      have r1 : fn_X12_byLaw 109 9 (ro_arr M 240 g) = some (sp_amt W g (nI 2) (nI 9), m') := r1
      rw [r1, Option.bind_some, sp_amt_cg hg, (gm_eq W (nI (mo q)) q _).1, ro_lt, nI_1]
      refine ⟨ro_set m' 260 q (nI (gm_ W (nI (mo q)) q (sp_sum (fun a => f a q) 4))), ⟨fun o h1 h2 h3 => ?_, fun s hs => ?_⟩, rfl⟩
      · rw [ro_set_ne _ _ _ h3, r2 o h1, ro_arr_ne _ _ h2, p1 o h1 h2 h3]
      · rw [ro_set_same]
        by_cases e : s = q
        · rw [e, pk_us]
        · rw [pk_un e, r2 260 (by decide), ro_arr_ne _ _ (by decide)]
          exact p2 s (by omega)
    · intro rec M _
      rfl
  obtain ⟨m', ⟨h1, h2⟩, e⟩ := hl
  exact ⟨m', e, h1, h2⟩
-- ===== all that makes the house wet, by slates and by seats =====
theorem sp_sum_c {f : Nat → Nat} {c : Nat} : ∀ {n : Nat}, sp_sum f (c * n) = sp_sum (fun i => sp_sum (fun k => f (c * i + k)) c) n := by
  intro n
  induction n with
  | zero => rfl
  | succ n ih =>
    show _ = sp_sum (fun i => sp_sum (fun k => f (c * i + k)) c) n + sp_sum (fun k => f (c * n + k)) c
    rw [← ih, ← sp_sum_app]; rfl
theorem ev_tele {D F : Nat → Nat → Nat} {um ss bu : Nat → Int32} {a s : Nat} : ∀ T, sp_sum (fun t => sp_rest D F um ss bu a s t) T = sp_prev D F um ss a s T - (bu s).toNatClampNeg := by
  intro T
  induction T with
  | zero => show 0 = 0 - _; omega
  | succ T ih =>
    show sp_sum (fun t => sp_rest D F um ss bu a s t) T + sp_rest D F um ss bu a s T = _
    rw [ih]
    have : sp_prev D F um ss a s T ≤ sp_prev D F um ss a s (T + 1) := by unfold sp_prev; exact sp_sum_mono (by omega)
    unfold sp_rest
    omega
theorem ev_house {m : ro_Mem} {N : Nat} : sp_sum (ev_K m N) 16 = sp_sum (fun a => sp_sum (fun s => ev_W m N a s) 96) 4 := by
  unfold ev_K sp_bs
  rw [sp_sum_swap]
  refine sp_sum_cg (fun a _ => ?_)
  rw [sp_sum_swap]
  refine sp_sum_cg (fun s _ => ?_)
  rw [sp_sum_swap]
  unfold ev_W sp_wet
  rw [← ev_tele (16 * N), sp_sum_16]
theorem rt_houseWet {m : ro_Mem} {f : Nat → Nat} (h : Nt f 16 (m 67)) : fn_X0_houseWet m = some (nI (sp_sum f 16)) := by
  have key := rt_sumL (b := fun rec s => fb_X0_houseWet_4 m rec s.1 s.2) f 0 16 0 (by omega) (fun i hi rec x => by
    rw [Nat.zero_add]
    show fb_X0_houseWet_4 m rec (nI x) (nI i) = _
    unfold fb_X0_houseWet_4
    rw [if_neg (show ¬ (16 : Int32) ≤ nI i from nI_ge (b := 16) hi (by decide)), if_pos (rt_in hi (by decide)), nI_clamp (by omega), h i hi, ro_lt, nI_add, nI_1]) (fun rec x => rfl)
  rw [Nat.zero_add] at key
  have key : fl_X0_houseWet_4 m (0, 0) = _ := key
  unfold fn_X0_houseWet
  rw [key, Option.bind_some]
theorem rt_houseAll {m : ro_Mem} {f : Nat → Nat → Nat} (h : ∀ a s, a < 4 → s < 96 → m 244 (96 * a + s) = nI (f a s)) : fn_X12_houseAll m = some (nI (sp_sum (fun a => sp_sum (fun s => f a s) 96) 4)) := by
  have key := rt_sumL (b := fun rec s => fb_X12_houseAll_4 m rec s.1 s.2) (fun t => f (t / 96) (t % 96)) 0 384 0 (by omega) (fun i hi rec x => by
    rw [Nat.zero_add]
    show fb_X12_houseAll_4 m rec (nI x) (nI i) = _
    have := h (i / 96) (i % 96) (by omega) (by omega)
    rw [show 96 * (i / 96) + i % 96 = i by omega] at this
    unfold fb_X12_houseAll_4
    rw [if_neg (show ¬ (384 : Int32) ≤ nI i from nI_ge (b := 384) hi (by decide)), if_pos (rt_in hi (by decide)), nI_clamp (by omega), this, ro_lt, nI_add, nI_1]) (fun rec x => rfl)
  rw [Nat.zero_add] at key
  have key : fl_X12_houseAll_4 m (0, 0) = _ := key
  have es : sp_sum (fun t => f (t / 96) (t % 96)) (96 * 4) = sp_sum (fun a => sp_sum (fun s => f a s) 96) 4 := by
    rw [sp_sum_c]
    refine sp_sum_cg (fun a ha => sp_sum_cg (fun s hs => ?_))
    rw [show (96 * a + s) / 96 = a by omega, show (96 * a + s) % 96 = s by omega]
  rw [show 96 * 4 = 384 from rfl] at es
  unfold fn_X12_houseAll
  rw [key, Option.bind_some, es]
theorem Inv.house2 {m M : ro_Mem} (hI : Inv m) (hn : iv_now M) (h7 : M 0 7 = 1) (h0 : ∀ k, ¬ k = 7 → M 0 k = m 0 k) (hf : ∀ o, ¬ qy_s o → ¬ (o = 0 ∨ (2 ≤ o ∧ o ≤ 14) ∨ (207 ≤ o ∧ o ≤ 216) ∨ (257 ≤ o ∧ o ≤ 259)) → M o = m o) (hs : ∀ k, ¬ (k = 0 ∨ k = 1 ∨ k = 2 ∨ k = 70 ∨ k = 71) → M 207 k = m 207 k) : Inv M := by
  obtain ⟨μ', e⟩ : ∃ μ' : ro_Mem, (∀ o, ¬ qy_s o → μ' o = m o) ∧ ∀ o, qy_s o → μ' o = M o := by
    refine ⟨fun o => @ite _ (qy_s o) (Classical.propDecidable _) (M o) (m o), fun o ho => ?_, fun o ho => ?_⟩
    · exact if_neg ho
    · exact if_pos ho
  refine (hI.scr e.1).house hn h7 (fun k hk => ?_) (fun o ho => ?_) (fun k hk => ?_)
  · rw [e.1 0 (by unfold qy_s; omega)]; exact h0 k hk
  · by_cases c : qy_s o
    · exact (e.2 o c).symm
    · rw [e.1 o c]; exact hf o c ho
  · rw [e.1 207 (by unfold qy_s; omega)]; exact hs k hk
/-- what the class's perform leaves, m: its memory behind refresh -/
def PFC (m : ro_Mem) (N : Nat) (mo : Nat → Nat) (M : ro_Mem) : Prop :=
  (∀ o, ¬ o = 0 → ¬ o = 2 → ¬ o = 5 → ¬ o = 12 → ¬ o = 13 → ¬ o = 14 → ¬ o = ro_rf m 1 2 + 7 → ¬ o = ro_rf m 1 2 + 8 → M o = m o) ∧ M 0 7 = 1 ∧ (∀ k, ¬ k = 7 → M 0 k = m 0 k) ∧
  M 2 12 = m 2 12 + 1 ∧ M 2 13 = m 2 13 + nI (sp_sum (fun a => sp_sum (fun g => pd_ m N a g) 10) 4) ∧ (∀ k, ¬ k = 12 → ¬ k = 13 → M 2 k = m 2 k) ∧
  (∀ g, g < 10 → M 12 g = m 12 g + nI (sp_sum (fun a => gw_ m 0 N a g) 4)) ∧ (∀ k, k < 16 → M 13 k = m 13 k + nI (ev_K m N k)) ∧ (∀ i, i < 32 → M 14 i = m 14 i + nI (ev_N m N i)) ∧
  (∀ s, s < 96 → M 5 s = nI (min 99 (mo s + gm_ (iv_lw m) (nI (mo s)) s (sp_sum (fun a => ev_W m N a s) 4))))
theorem gw_un {m : ro_Mem} {N : Nat} (hw : Wd m N) {g : Nat} (hg : g < 10) (ht : ¬ bt (m 2 11) g = true) : sp_sum (fun a => gw_ m 0 N a g) 4 = 0 := by
  refine sp_sum_zero (fun a ha => ?_)
  unfold gw_
  have := (hw.st ha hg).2.2.2 (by simpa using ht)
  rw [if_neg (by omega)]
theorem rt_perfC {μ m : ro_Mem} {N : Nat} {mo : Nat → Nat} (hN0 : ¬ μ (ro_rf μ 1 1) 5 = 0) (hSW : iv_SW μ) (e : fn_X11_refresh μ = some m) (hw : Wd m N) (hE : EVC m N m) (hmo : ∀ s, s < 96 → m 5 s = nI (mo s) ∧ mo s ≤ 99) : ∃ M, fn_X11_perform μ = some (nI (sp_sum (ev_K m N) 16), M) ∧ PFC m N mo M := by
  have hL := (cg_rf hw.2.1).2
  have hlw : ∀ j, j ≤ 6 → iv_lw m j = m (ro_rf m 1 2 + j) := fun j h => by unfold iv_lw; rw [if_pos h]
  obtain ⟨ma, a1, a2⟩ := rt_paidC4 hw hE.2.2.2.2.1
  unfold fn_X11_perform
  rw [if_pos (rt_sc5 hSW).1, if_neg hN0, e, Option.bind_some, a2, Option.bind_some]
  unfold LsC at a1
  generalize hLe : ro_rf m 1 2 = L at *
  generalize hP : sp_sum (fun a => sp_sum (fun g => pd_ m N a g) 10) 4 = P at *
  obtain ⟨m7, e7⟩ : ∃ m7, m7 = ro_set ma 2 13 (m 2 13 + nI P) := ⟨_, rfl⟩
  show ∃ M, ro_lt (ro_set ma 2 13 (m 2 13 + nI P)) _ = _ ∧ _
  rw [← e7, ro_lt]
  have n7 : ∀ o, ¬ o = 2 → ¬ o = L + 7 → ¬ o = L + 8 → m7 o = m o := fun o h1 h2 h3 => by rw [e7, ro_set_ne _ _ _ h1, a1 o h2 h3]
  have n72 : m7 2 = upd (m 2) 13 (m 2 13 + nI P) := by rw [e7, ro_set_same, a1 2 (by omega) (by omega)]
  have b211 : m7 2 11 = m 2 11 := by rw [n72, pk_un (by decide)]
  have l1 : fl_X11_perform_43 (0, m7) = some (ro_arr m7 12 (rt_mix (fun g => m 12 g + nI (sp_sum (fun a => gw_ m 0 N a g) 4)) (m7 12) 10)) := by
    unfold fl_X11_perform_43
    refine rt_fillR (fun g => m 12 g + nI (sp_sum (fun a => gw_ m 0 N a g) 4)) (by decide) (fun g hg rec f hf => ?_) (fun rec m => rfl)
    show fb_X11_perform_43 rec (nI g) (ro_arr m7 12 f) = _
    have fg : f g = m 12 g := by rw [hf g (Nat.le_refl _), n7 12 (by omega) (by omega) (by omega)]
    unfold fb_X11_perform_43
    rw [if_neg (show ¬ (10 : Int32) ≤ nI g from nI_ge (b := 10) hg (by decide)), if_pos (rt_in hg (by decide)), rt_guestC hg, ro_arr_ne _ _ (show 2 ≠ 12 by decide), b211, Option.bind_some, nI_clamp (show g < 2 ^ 31 by omega), ro_arr_same, fg, nI_1, ro_arr_set, ro_lt]
    by_cases ht : bt (m 2 11) g = true
    · rw [if_pos ht, if_neg rt_10, rt_wogG4 (S := st_ m) (f := ev_W m N) (fun a g ha hg => by rw [ro_arr_ne _ _ (show 11 ≠ 12 by decide), n7 11 (by omega) (by omega) (by omega)]; exact ⟨(hw.st ha hg).1, (hw.st ha hg).2.1⟩) (fun a s ha hs => by rw [ro_arr_ne _ _ (show 65 ≠ 12 by decide), n7 65 (by omega) (by omega) (by omega)]; exact hE.2.2.2.2.1 a s ha hs) hg, Option.bind_some, ro_arr_set, ro_lt]
      rfl
    · rw [if_neg ht, if_pos rfl, gw_un hw hg ht]
      rfl
  rw [l1, Option.bind_some]
  obtain ⟨m8, e8⟩ : ∃ m8, m8 = ro_arr m7 12 (rt_mix (fun g => m 12 g + nI (sp_sum (fun a => gw_ m 0 N a g) 4)) (m7 12) 10) := ⟨_, rfl⟩
  rw [← e8]
  have n8 : ∀ o, ¬ o = 12 → m8 o = m7 o := fun o h => by rw [e8, ro_arr_ne _ _ h]
  have l2 : fl_X11_perform_84 (0, m8) = some (ro_arr m8 13 (rt_mix (fun k => m 13 k + nI (ev_K m N k)) (m8 13) 16)) := by
    unfold fl_X11_perform_84
    refine rt_fillR (fun k => m 13 k + nI (ev_K m N k)) (by decide) (fun g hg rec f hf => ?_) (fun rec m => rfl)
    show fb_X11_perform_84 rec (nI g) (ro_arr m8 13 f) = _
    have fg : f g = m 13 g := by rw [hf g (Nat.le_refl _), n8 13 (by omega), n7 13 (by omega) (by omega) (by omega)]
    unfold fb_X11_perform_84
    rw [if_neg (show ¬ (16 : Int32) ≤ nI g from nI_ge (b := 16) hg (by decide)), if_pos (rt_in hg (by decide)), nI_clamp (show g < 2 ^ 31 by omega), ro_arr_same, fg, nI_1, ro_arr_set, ro_lt, ro_arr_ne _ _ (show 67 ≠ 13 by decide), n8 67 (by omega), n7 67 (by omega) (by omega) (by omega), hE.2.2.2.2.2.2 g hg]
  rw [l2, Option.bind_some]
  obtain ⟨m9, e9⟩ : ∃ m9, m9 = ro_arr m8 13 (rt_mix (fun k => m 13 k + nI (ev_K m N k)) (m8 13) 16) := ⟨_, rfl⟩
  rw [← e9]
  have n9 : ∀ o, ¬ o = 13 → m9 o = m8 o := fun o h => by rw [e9, ro_arr_ne _ _ h]
  have l3 : fl_X11_perform_116 (0, m9) = some (ro_arr m9 14 (rt_mix (fun i => m 14 i + nI (ev_N m N i)) (m9 14) 32)) := by
    unfold fl_X11_perform_116
    refine rt_fillR (fun i => m 14 i + nI (ev_N m N i)) (by decide) (fun g hg rec f hf => ?_) (fun rec m => rfl)
    show fb_X11_perform_116 rec (nI g) (ro_arr m9 14 f) = _
    have fg : f g = m 14 g := by rw [hf g (Nat.le_refl _), n9 14 (by omega), n8 14 (by omega), n7 14 (by omega) (by omega) (by omega)]
    unfold fb_X11_perform_116
    rw [if_neg (show ¬ (32 : Int32) ≤ nI g from nI_ge (b := 32) hg (by decide)), if_pos (rt_in hg (by decide)), nI_clamp (show g < 2 ^ 31 by omega), ro_arr_same, fg, nI_1, ro_arr_set, ro_lt, ro_arr_ne _ _ (show 66 ≠ 14 by decide), n9 66 (by omega), n8 66 (by omega), n7 66 (by omega) (by omega) (by omega), hE.2.2.2.2.2.1 g hg]
  rw [l3, Option.bind_some]
  obtain ⟨m10, e10⟩ : ∃ m10, m10 = ro_arr m9 14 (rt_mix (fun i => m 14 i + nI (ev_N m N i)) (m9 14) 32) := ⟨_, rfl⟩
  rw [← e10]
  have n10 : ∀ o, ¬ o = 14 → m10 o = m9 o := fun o h => by rw [e10, ro_arr_ne _ _ h]
  have nn10 : ∀ o, ¬ o = 2 → ¬ o = 12 → ¬ o = 13 → ¬ o = 14 → ¬ o = L + 7 → ¬ o = L + 8 → m10 o = m o := fun o h1 h2 h3 h4 h5 h6 => by rw [n10 o h4, n9 o h3, n8 o h2, n7 o h1 h5 h6]
  obtain ⟨m11, g1, g2, g3⟩ := rt_growC (m := m10) (L := L) (W := iv_lw m) (f := ev_W m N) (mo := mo) hL (by unfold ro_rf; rw [nn10 1 (by omega) (by omega) (by omega) (by omega) (by omega) (by omega)]; exact hLe) hw.2.2.2.1 (fun j hj => by rw [hlw j hj, nn10 _ (by omega) (by omega) (by omega) (by omega) (by omega) (by omega)]) (fun a s ha hs => by rw [nn10 65 (by omega) (by omega) (by omega) (by omega) (by omega) (by omega)]; exact hE.2.2.2.2.1 a s ha hs) (fun s hs => by rw [nn10 5 (by omega) (by omega) (by omega) (by omega) (by omega) (by omega)]; exact hmo s hs)
  rw [g1, Option.bind_some, ro_lt, ro_lt]
  have e112 : m11 2 = upd (m 2) 13 (m 2 13 + nI P) := by rw [g2 2 (by omega) (by omega) (by omega), n10 2 (by omega), n9 2 (by omega), n8 2 (by omega), n72]
  obtain ⟨M, eM⟩ : ∃ M, M = ro_set (ro_set m11 2 12 (m11 2 12 + 1)) 0 7 1 := ⟨_, rfl⟩
  rw [← eM]
  have nM : ∀ o, ¬ o = 0 → ¬ o = 2 → M o = m11 o := fun o h1 h2 => by rw [eM, ro_set_ne _ _ _ h1, ro_set_ne _ _ _ h2]
  have nnM : ∀ o, ¬ o = 0 → ¬ o = 2 → ¬ o = 5 → ¬ o = 12 → ¬ o = 13 → ¬ o = 14 → ¬ o = L + 7 → ¬ o = L + 8 → M o = m o := fun o h0 h1 h5 h2 h3 h4 h6 h7 => by rw [nM o h0 h1, g2 o h5 h6 h7, nn10 o h1 h2 h3 h4 h6 h7]
  have M2 : M 2 = upd (upd (m 2) 13 (m 2 13 + nI P)) 12 (m 2 12 + 1) := by
    rw [eM, ro_set_ne _ _ _ (show ¬ 2 = 0 by decide), ro_set_same, e112, pk_un (show ¬ 12 = 13 by decide)]
  have M0 : M 0 = upd (m 0) 7 1 := by
    rw [eM, ro_set_same, ro_set_ne _ _ _ (show ¬ 0 = 2 by decide), g2 0 (by omega) (by omega) (by omega), nn10 0 (by omega) (by omega) (by omega) (by omega) (by omega) (by omega)]
  rw [rt_houseWet (f := ev_K m N) (by rw [nnM 67 (by omega) (by omega) (by omega) (by omega) (by omega) (by omega) (by omega) (by omega)]; exact hE.2.2.2.2.2.2), Option.bind_some]
  refine ⟨M, rfl, by rw [hLe]; exact nnM, by rw [M0, pk_us], fun k hk => by rw [M0, pk_un hk], by rw [M2, pk_us], by rw [M2, pk_un (by decide), pk_us, hP], fun k h1 h2 => by rw [M2, pk_un h1, pk_un h2], fun g hg => ?_, fun k hk => ?_, fun i hi => ?_, fun s hs => ?_⟩
  · rw [nM 12 (by omega) (by omega), g2 12 (by omega) (by omega) (by omega), n10 12 (by omega), n9 12 (by omega), e8, ro_arr_same, rt_mix_lt hg]
  · rw [nM 13 (by omega) (by omega), g2 13 (by omega) (by omega) (by omega), n10 13 (by omega), e9, ro_arr_same, rt_mix_lt hk]
  · rw [nM 14 (by omega) (by omega), g2 14 (by omega) (by omega) (by omega), e10, ro_arr_same, rt_mix_lt hi]
  · rw [nM 5 (by omega) (by omega), g3 s hs]
/-- what the reference's perform leaves -/
def PFM (m : ro_Mem) (N : Nat) (mo : Nat → Nat) (M1 M : ro_Mem) : Prop :=
  (∀ o, ¬ o = 207 → ¬ o = 210 → ¬ (239 ≤ o ∧ o ≤ 246) → ¬ (257 ≤ o ∧ o ≤ 260) → M o = M1 o) ∧
  M 207 70 = m 207 70 + 1 ∧ M 207 71 = m 207 71 + nI (sp_sum (fun a => sp_sum (fun g => pd_ m N a g) 10) 4) ∧ (∀ k, ¬ k = 70 → ¬ k = 71 → M 207 k = m 207 k) ∧
  (∀ g, g < 10 → M 257 g = m 257 g + nI (sp_sum (fun a => gw_ m 0 N a g) 4)) ∧ (∀ k, k < 16 → M 258 k = m 258 k + nI (ev_K m N k)) ∧ (∀ i, i < 32 → M 259 i = m 259 i + nI (ev_N m N i)) ∧
  (∀ s, s < 96 → M 210 s = nI (min 99 (mo s + gm_ (iv_lw m) (nI (mo s)) s (sp_sum (fun a => ev_W m N a s) 4))))
theorem rt_perfM {m M1 : ro_Mem} {N : Nat} {mo : Nat → Nat} (hR0 : ∀ o, 207 ≤ o → M1 o = m o) (hN0 : ¬ m 207 18 = 0) (hw : Wd m N) (hq : m 207 52 = 0) (hmo : ∀ s, s < 96 → m 210 s = nI (mo s) ∧ mo s ≤ 99) : ∃ M, fn_X12_perform M1 = some (nI (sp_sum (fun a => sp_sum (fun s => ev_W m N a s) 96) 4), M) ∧ PFM m N mo M1 M := by
  obtain ⟨q2, v1, v2, v3⟩ := rt_evening2 hR0 hw hq
  have hof : ∀ o, 207 ≤ o → ¬ (239 ≤ o ∧ o ≤ 246) → q2 o = m o := fun o h1 h2 => by rw [v2.1 o h2, hR0 o h1]
  have hL : LM m 0 N q2 := by
    refine ⟨fun i k hi hk => ?_, hof _ (by decide) (by decide), hof _ (by decide) (by decide), hof _ (by decide) (by decide), hof _ (by decide) (by decide), by rw [hof 207 (by decide) (by decide)]⟩
    have := v2.2 (16 * i + k) (by omega)
    rwa [show (16 * i + k) / 16 = i by omega, show (16 * i + k) % 16 = k by omega] at this
  have w244 : ∀ a s, a < 4 → s < 96 → q2 244 (96 * a + s) = nI (ev_W m N a s) := fun a s ha hs => by
    rw [v3.1 a s ha hs, if_pos ha]; rfl
  have w245 : Nt (ev_N m N) 32 (q2 245) := v3.2.1.cg (fun i _ => ev_BN_4.symm)
  have w246 : Nt (ev_K m N) 16 (q2 246) := v3.2.2.cg (fun k hk => (ev_BS_4 hk hw.2.2.2.2.2).symm)
  obtain ⟨q4, a1, a2⟩ := rt_paidAll hw hL hof
  unfold FsM at a1
  unfold fn_X12_perform
  rw [hR0 207 (by decide), if_neg hN0, v1, Option.bind_some, a2, Option.bind_some]
  unfold PFM
  generalize hP : sp_sum (fun a => sp_sum (fun g => pd_ m N a g) 10) 4 = P at *
  obtain ⟨m6, e6⟩ : ∃ m6, m6 = ro_set q4 207 71 (q2 207 71 + nI P) := ⟨_, rfl⟩
  show ∃ M, ro_lt (ro_set q4 207 71 (q2 207 71 + nI P)) _ = _ ∧ _
  rw [← e6, ro_lt]
  have n6 : ∀ o, ¬ o = 207 → ¬ o = 239 → ¬ o = 240 → m6 o = q2 o := fun o h1 h2 h3 => by rw [e6, ro_set_ne _ _ _ h1, a1 o h2 h3]
  have n67 : m6 207 = upd (m 207) 71 (m 207 71 + nI P) := by rw [e6, ro_set_same, a1 207 (by omega) (by omega), hof 207 (by decide) (by decide)]
  have b2 : m6 207 2 = m 2 11 := by rw [n67, pk_un (by decide)]; exact hw.gst
  have l1 : fl_X12_perform_28 (0, m6) = some (ro_arr m6 257 (rt_mix (fun g => m 257 g + nI (sp_sum (fun a => gw_ m 0 N a g) 4)) (m6 257) 10)) := by
    unfold fl_X12_perform_28
    refine rt_fillR (fun g => m 257 g + nI (sp_sum (fun a => gw_ m 0 N a g) 4)) (by decide) (fun g hg rec f hf => ?_) (fun rec m => rfl)
    show fb_X12_perform_28 rec (nI g) (ro_arr m6 257 f) = _
    have fg : f g = m 257 g := by rw [hf g (Nat.le_refl _), n6 257 (by omega) (by omega) (by omega), hof 257 (by omega) (by omega)]
    unfold fb_X12_perform_28
    rw [if_neg (show ¬ (10 : Int32) ≤ nI g from nI_ge (b := 10) hg (by decide)), if_pos (rt_in hg (by decide)), rt_guestM hg, ro_arr_ne _ _ (show 207 ≠ 257 by decide), b2, Option.bind_some, nI_clamp (show g < 2 ^ 31 by omega), ro_arr_same, fg, nI_1, ro_arr_set, ro_lt]
    by_cases ht : bt (m 2 11) g = true
    · have hL' : LM m 0 N (ro_arr m6 257 f) := hL.put (fun o ho => by rw [ro_arr_ne _ _ (by omega), n6 o (by omega) (by omega) (by omega)]) (by rw [ro_arr_ne _ _ (by decide), n67, pk_un (by decide), hof 207 (by decide) (by decide)])
      rw [if_pos ht, if_neg rt_10, rt_guestWetAll hw hL' hg ht (by rw [ro_arr_ne _ _ (by decide), n6 216 (by omega) (by omega) (by omega), hof 216 (by omega) (by omega)]), Option.bind_some, ro_arr_set, ro_lt]
    · rw [if_neg ht, if_pos rfl, gw_un hw hg ht]
      rfl
  rw [l1, Option.bind_some]
  obtain ⟨m8, e8⟩ : ∃ m8, m8 = ro_arr m6 257 (rt_mix (fun g => m 257 g + nI (sp_sum (fun a => gw_ m 0 N a g) 4)) (m6 257) 10) := ⟨_, rfl⟩
  rw [← e8]
  have n8 : ∀ o, ¬ o = 257 → m8 o = m6 o := fun o h => by rw [e8, ro_arr_ne _ _ h]
  have l2 : fl_X12_perform_72 (0, m8) = some (ro_arr m8 258 (rt_mix (fun k => m 258 k + nI (ev_K m N k)) (m8 258) 16)) := by
    unfold fl_X12_perform_72
    refine rt_fillR (fun k => m 258 k + nI (ev_K m N k)) (by decide) (fun g hg rec f hf => ?_) (fun rec m => rfl)
    show fb_X12_perform_72 rec (nI g) (ro_arr m8 258 f) = _
    have fg : f g = m 258 g := by rw [hf g (Nat.le_refl _), n8 258 (by omega), n6 258 (by omega) (by omega) (by omega), hof 258 (by omega) (by omega)]
    unfold fb_X12_perform_72
    rw [if_neg (show ¬ (16 : Int32) ≤ nI g from nI_ge (b := 16) hg (by decide)), if_pos (rt_in hg (by decide)), nI_clamp (show g < 2 ^ 31 by omega), ro_arr_same, fg, nI_1, ro_arr_set, ro_lt, ro_arr_ne _ _ (show 246 ≠ 258 by decide), n8 246 (by omega), n6 246 (by omega) (by omega) (by omega), w246 g hg]
  rw [l2, Option.bind_some]
  obtain ⟨m9, e9⟩ : ∃ m9, m9 = ro_arr m8 258 (rt_mix (fun k => m 258 k + nI (ev_K m N k)) (m8 258) 16) := ⟨_, rfl⟩
  rw [← e9]
  have n9 : ∀ o, ¬ o = 258 → m9 o = m8 o := fun o h => by rw [e9, ro_arr_ne _ _ h]
  have l3 : fl_X12_perform_105 (0, m9) = some (ro_arr m9 259 (rt_mix (fun i => m 259 i + nI (ev_N m N i)) (m9 259) 32)) := by
    unfold fl_X12_perform_105
    refine rt_fillR (fun i => m 259 i + nI (ev_N m N i)) (by decide) (fun g hg rec f hf => ?_) (fun rec m => rfl)
    show fb_X12_perform_105 rec (nI g) (ro_arr m9 259 f) = _
    have fg : f g = m 259 g := by rw [hf g (Nat.le_refl _), n9 259 (by omega), n8 259 (by omega), n6 259 (by omega) (by omega) (by omega), hof 259 (by omega) (by omega)]
    unfold fb_X12_perform_105
    rw [if_neg (show ¬ (32 : Int32) ≤ nI g from nI_ge (b := 32) hg (by decide)), if_pos (rt_in hg (by decide)), nI_clamp (show g < 2 ^ 31 by omega), ro_arr_same, fg, nI_1, ro_arr_set, ro_lt, ro_arr_ne _ _ (show 245 ≠ 259 by decide), n9 245 (by omega), n8 245 (by omega), n6 245 (by omega) (by omega) (by omega), w245 g hg]
  rw [l3, Option.bind_some]
  obtain ⟨m10, e10⟩ : ∃ m10, m10 = ro_arr m9 259 (rt_mix (fun i => m 259 i + nI (ev_N m N i)) (m9 259) 32) := ⟨_, rfl⟩
  rw [← e10]
  have n10 : ∀ o, ¬ o = 259 → m10 o = m9 o := fun o h => by rw [e10, ro_arr_ne _ _ h]
  have nn10 : ∀ o, ¬ o = 207 → ¬ o = 239 → ¬ o = 240 → ¬ (257 ≤ o ∧ o ≤ 259) → m10 o = q2 o := fun o h1 h2 h3 h4 => by rw [n10 o (by omega), n9 o (by omega), n8 o (by omega), n6 o h1 h2 h3]
  have e1007 : m10 207 = upd (m 207) 71 (m 207 71 + nI P) := by rw [n10 207 (by omega), n9 207 (by omega), n8 207 (by omega), n67]
  obtain ⟨m11, g1, g2, g3⟩ := rt_growM (R := m10) (W := iv_lw m) (f := ev_W m N) (mo := mo) (by
    have e1 : iv_mw m10 = iv_mw m := cg_mw (fun o a b => by rw [nn10 o (by omega) (by omega) (by omega) (by omega), hof o (by omega) (by omega)])
    rw [e1, e1007, pk_un (by decide)]
    exact hw.2.2.2.1) (fun a s ha hs => by rw [nn10 244 (by omega) (by omega) (by omega) (by omega)]; exact w244 a s ha hs) (fun s hs => by rw [nn10 210 (by omega) (by omega) (by omega) (by omega), hof 210 (by omega) (by omega)]; exact (hmo s hs).1)
  rw [g1, Option.bind_some]
  have l4 : fl_X12_perform_216 (0, m11) = some (ro_arr m11 210 (rt_mix (fun s => nI (min 99 (mo s + gm_ (iv_lw m) (nI (mo s)) s (sp_sum (fun a => ev_W m N a s) 4)))) (m11 210) 96)) := by
    unfold fl_X12_perform_216
    refine rt_fillR (fun s => nI (min 99 (mo s + gm_ (iv_lw m) (nI (mo s)) s (sp_sum (fun a => ev_W m N a s) 4)))) (by decide) (fun s hs rec f hf => ?_) (fun rec m => rfl)
    show fb_X12_perform_216 rec (nI s) (ro_arr m11 210 f) = _
    have fg : f s = nI (mo s) := by rw [hf s (Nat.le_refl _), g2 210 (by omega) (by omega) (by omega), nn10 210 (by omega) (by omega) (by omega) (by omega), hof 210 (by omega) (by omega)]; exact (hmo s hs).1
    have hm9 := (hmo s hs).2
    have hge := gm_eq (iv_lw m) (nI (mo s)) s (sp_sum (fun a => ev_W m N a s) 4)
    unfold fb_X12_perform_216
    rw [if_neg (show ¬ (96 : Int32) ≤ nI s from nI_ge (b := 96) hs (by decide)), if_pos (rt_in hs (by decide)), nI_clamp (show s < 2 ^ 31 by omega), ro_arr_same, fg, ro_arr_ne _ _ (show 260 ≠ 210 by decide), g3 s hs, nI_add, show fn_X12_min 99 (nI (mo s + gm_ (iv_lw m) (nI (mo s)) s (sp_sum (fun a => ev_W m N a s) 4))) = some (nI (min 99 (mo s + gm_ (iv_lw m) (nI (mo s)) s (sp_sum (fun a => ev_W m N a s) 4)))) from rt_mins (x := 99) (by decide) (by omega), Option.bind_some, ro_arr_set, ro_lt, nI_1]
  rw [l4, Option.bind_some]
  obtain ⟨m12, e12⟩ : ∃ m12, m12 = ro_arr m11 210 (rt_mix (fun s => nI (min 99 (mo s + gm_ (iv_lw m) (nI (mo s)) s (sp_sum (fun a => ev_W m N a s) 4)))) (m11 210) 96) := ⟨_, rfl⟩
  rw [← e12, ro_lt]
  have n12 : ∀ o, ¬ o = 210 → m12 o = m11 o := fun o h => by rw [e12, ro_arr_ne _ _ h]
  have e127 : m12 207 = upd (m 207) 71 (m 207 71 + nI P) := by rw [n12 207 (by omega), g2 207 (by omega) (by omega) (by omega), e1007]
  obtain ⟨M, eM⟩ : ∃ M, M = ro_set m12 207 70 (m12 207 70 + 1) := ⟨_, rfl⟩
  rw [← eM]
  have nM : ∀ o, ¬ o = 207 → M o = m12 o := fun o h => by rw [eM, ro_set_ne _ _ _ h]
  have M7 : M 207 = upd (upd (m 207) 71 (m 207 71 + nI P)) 70 (m 207 70 + 1) := by rw [eM, ro_set_same, e127, pk_un (show ¬ 70 = 71 by decide)]
  rw [rt_houseAll (f := ev_W m N) (fun a s ha hs => by rw [nM 244 (by omega), n12 244 (by omega), g2 244 (by omega) (by omega) (by omega), nn10 244 (by omega) (by omega) (by omega) (by omega)]; exact w244 a s ha hs), Option.bind_some]
  refine ⟨M, rfl, fun o h1 h2 h3 h4 => ?_, by rw [M7, pk_us], by rw [M7, pk_un (by decide), pk_us], fun k h1 h2 => by rw [M7, pk_un h1, pk_un h2], fun g hg => ?_, fun k hk => ?_, fun i hi => ?_, fun s hs => ?_⟩
  · rw [nM o h1, n12 o h2, g2 o (by omega) (by omega) (by omega), nn10 o h1 (by omega) (by omega) (by omega), v2.1 o h3]
  · rw [nM 257 (by omega), n12 257 (by omega), g2 257 (by omega) (by omega) (by omega), n10 257 (by omega), n9 257 (by omega), e8, ro_arr_same, rt_mix_lt hg]
  · rw [nM 258 (by omega), n12 258 (by omega), g2 258 (by omega) (by omega) (by omega), n10 258 (by omega), e9, ro_arr_same, rt_mix_lt hk]
  · rw [nM 259 (by omega), n12 259 (by omega), g2 259 (by omega) (by omega) (by omega), e10, ro_arr_same, rt_mix_lt hi]
  · rw [nM 210 (by omega), e12, ro_arr_same, rt_mix_lt hs]
theorem op_perform (μ : ro_Mem) (hI : Inv μ) : ∃ r μ1 μ2, fn_X11_perform μ = some (r, μ1) ∧ fn_X12_perform μ1 = some (r, μ2) ∧ Inv μ2 := by
  obtain ⟨N, hw⟩ := hI.wd
  have hn : μ (ro_rf μ 1 1) 5 = nI N := hw.2.2.2.2.1
  have hm : μ 207 18 = nI N := hw.notes.1
  have hN : N ≤ 32 := hw.2.2.2.2.2
  by_cases hN0 : N = 0
  · refine ⟨-1, μ, μ, ?_, ?_, hI⟩
    · unfold fn_X11_perform
      rw [if_pos (rt_sc5 hw.2.1).1, hn, if_pos (by rw [hN0]; rfl)]
    · unfold fn_X12_perform
      rw [hm, if_pos (by rw [hN0]; rfl)]
  · obtain ⟨m, e, hI1, hw1, hE, hof, hof0⟩ := rt_fresh hI hw
    have hL := (cg_rf hw1.2.1).2
    have hMo := hw1.1.2.2.1
    have hmoC : ∀ s, s < 96 → m 5 s = nI (nn (m 5 s)) ∧ nn (m 5 s) ≤ 99 := fun s hs => by
      obtain ⟨-, n, h1, h2⟩ := hMo s hs
      rw [h2, nn_nI (by omega)]
      exact ⟨rfl, h1⟩
    have hmoM : ∀ s, s < 96 → m 210 s = nI (nn (m 5 s)) ∧ nn (m 5 s) ≤ 99 := fun s hs => by
      rw [(hMo s hs).1]
      exact hmoC s hs
    obtain ⟨M1, c1, C1, C2, C3, C4, C5, C6, C7, C8, C9, C10⟩ := rt_perfC (mo := fun s => nn (m 5 s)) (by rw [hn]; exact nI_ne0 (by omega) (by omega)) hw.2.1 e hw1 hE hmoC
    obtain ⟨M2, d1, D1, D2, D3, D4, D5, D6, D7, D8⟩ := rt_perfM (mo := fun s => nn (m 5 s)) (M1 := M1) (fun o ho => C1 o (by omega) (by omega) (by omega) (by omega) (by omega) (by omega) (by omega) (by omega)) (by rw [hw1.notes.1]; exact nI_ne0 (by omega) (by omega)) hw1 hI1.2.2.2.2.2.2.2 hmoM
    rw [← ev_house] at d1
    refine ⟨_, M1, M2, c1, d1, ?_⟩
    have lo : ∀ o, o < 207 → M2 o = M1 o := fun o ho => D1 o (by omega) (by omega) (by omega) (by omega)
    have keep : ∀ o, ¬ o = 0 → ¬ o = 2 → ¬ o = 5 → ¬ o = 12 → ¬ o = 13 → ¬ o = 14 → ¬ (28 ≤ o ∧ o ≤ 29) → ¬ (58 ≤ o ∧ o ≤ 59) → ¬ o = 207 → ¬ o = 210 → ¬ (239 ≤ o ∧ o ≤ 246) → ¬ (257 ≤ o ∧ o ≤ 260) → M2 o = m o := fun o h0 h1 h2 h3 h4 h5 h6 h7 h8 h9 h10 h11 => by
      rw [D1 o h8 h9 h10 h11, C1 o h0 h1 h2 h3 h4 h5 (by omega) (by omega)]
    obtain ⟨hU, hB, -, hS, hR, hG, hNn, hX⟩ := hI1.1
    have k2 : ∀ k, ¬ k = 12 → ¬ k = 13 → M2 2 k = m 2 k := fun k h1 h2 => by rw [lo 2 (by omega), C6 k h1 h2]
    refine hI1.house2 ⟨?_, ?_, ?_, ?_, ?_, ?_, ?_, ?_⟩ (by rw [lo 0 (by omega), C2]) (fun k hk => by rw [lo 0 (by omega), C3 k hk]) (fun o h1 h2 => ?_) (fun k hk => D4 k (by omega) (by omega))
    · rw [keep 3 (by omega) (by omega) (by omega) (by omega) (by omega) (by omega) (by omega) (by omega) (by omega) (by omega) (by omega) (by omega), keep 208 (by omega) (by omega) (by omega) (by omega) (by omega) (by omega) (by omega) (by omega) (by omega) (by omega) (by omega) (by omega)]; exact hU
    · rw [keep 4 (by omega) (by omega) (by omega) (by omega) (by omega) (by omega) (by omega) (by omega) (by omega) (by omega) (by omega) (by omega), keep 209 (by omega) (by omega) (by omega) (by omega) (by omega) (by omega) (by omega) (by omega) (by omega) (by omega) (by omega) (by omega)]; exact hB
    · intro s hs
      rw [D8 s hs, lo 5 (by omega), C10 s hs]
      exact ⟨rfl, _, Nat.min_le_left _ _, rfl⟩
    · have g : ∀ o, (o = 6 ∨ o = 7 ∨ o = 8 ∨ o = 211 ∨ o = 212 ∨ o = 213) → M2 o = m o := fun o ho => keep o (by omega) (by omega) (by omega) (by omega) (by omega) (by omega) (by omega) (by omega) (by omega) (by omega) (by omega) (by omega)
      rw [g 6 (by omega), g 7 (by omega), g 8 (by omega), g 211 (by omega), g 212 (by omega), g 213 (by omega), k2 6 (by decide) (by decide), k2 7 (by decide) (by decide), D4 1 (by decide) (by decide)]; exact hS
    · have g : ∀ o, (o = 9 ∨ o = 214) → M2 o = m o := fun o ho => keep o (by omega) (by omega) (by omega) (by omega) (by omega) (by omega) (by omega) (by omega) (by omega) (by omega) (by omega) (by omega)
      rw [g 9 (by omega), g 214 (by omega)]; exact hR
    · have g : ∀ o, (o = 10 ∨ o = 11 ∨ o = 215 ∨ o = 216) → M2 o = m o := fun o ho => keep o (by omega) (by omega) (by omega) (by omega) (by omega) (by omega) (by omega) (by omega) (by omega) (by omega) (by omega) (by omega)
      rw [g 10 (by omega), g 11 (by omega), g 215 (by omega), g 216 (by omega), k2 11 (by decide) (by decide), D4 2 (by decide) (by decide)]; exact hG
    · obtain ⟨N1, N2, N3, N4, N5⟩ := hNn
      refine ⟨?_, ?_, fun g hg => ?_, fun k hk => ?_, fun i hi => ?_⟩
      · rw [D2, lo 2 (by omega), C4, N1]
      · rw [D3, lo 2 (by omega), C5, N2]
      · rw [D5 g hg, lo 12 (by omega), C7 g hg, N3 g hg]
      · rw [D6 k hk, lo 13 (by omega), C8 k hk, N4 k hk]
      · rw [D7 i hi, lo 14 (by omega), C9 i hi, N5 i hi]
    · rw [k2 17 (by decide) (by decide), D4 0 (by decide) (by decide)]; exact hX
    · unfold qy_s at h1
      exact keep o (by omega) (by omega) (by omega) (by omega) (by omega) (by omega) (by omega) (by omega) (by omega) (by omega) (by omega) (by omega)
