-- ===== what falls on a seat by a note (class) =====
theorem rt_fromBoth {m M : ro_Mem} {N : Nat} (hw : Wd m N) (hE : EVC m N m) (h63 : M 63 = m 63) (h64 : M 64 = m 64) (h6 : M 6 = m 6) (h3 : M 3 = m 3) {i k a s : Nat} (hi : i < N) (hk : k < 16) (ha : a < 4) (hs : s < 2 ^ 20) : fn_X0_fromBoth (nI i) (nI k) (nI a) (nI s) 2 M = some (nI (ev_fl m 0 a s i k)) := by
  have hN : N ≤ 32 := hw.2.2.2.2.2
  obtain ⟨d1, d2⟩ := hE.2.2.2.1 i k hi hk
  have hD9 := ev_D_le m 0 i k
  have hF4 := ev_F_le hw (sh := 0) (k := k) hi
  obtain ⟨q1, q2, -⟩ := hw.ss hk
  have z34 : fj_X0_fromBoth_33 (nI k) (nI s) 2 (nI (16 * i + k)) M = some 0 := by
    unfold fj_X0_fromBoth_33 fj_X0_fromBoth_34
    rw [if_pos rfl]
  unfold fn_X0_fromBoth ev_fl sp_fall
  rw [rt_e16, ro_lt, if_pos (rt_in (n := 512) (by omega) (by decide)), nI_clamp (show 16 * i + k < 2 ^ 31 by omega), h63, h64, d1, z34]
  by_cases c : ev_D m 0 i k = 0
  · rw [if_pos (show nI (ev_D m 0 i k) ≤ 0 by rw [c]; exact Int32.le_refl _), if_neg (by omega)]
    rfl
  · rw [if_neg (nI_nle (by omega) (by omega)), d2 (by omega)]
    by_cases cF : ev_F m 0 i k = a
    · unfold fj_X0_fromBoth_34
      rw [if_pos (show nI (ev_F m 0 i k) = nI a by rw [cF]), if_neg rt_10, if_pos (rt_in hk (by decide)), if_pos (rt_in (n := 512) (by omega) (by decide)), nI_clamp (show k < 2 ^ 31 by omega), nI_clamp (show 16 * i + k < 2 ^ 31 by omega), h63, d1, show M (2 + 4) k = nI (nn (m 6 k)) by rw [show 2 + 4 = 6 from rfl, h6]; exact q1]
      rw [rt_share (um := m 3) q2 h3 hs (by omega), Option.bind_some, if_pos (show 0 < ev_D m 0 i k ∧ ev_F m 0 i k = a from ⟨by omega, cF⟩)]
      rfl
    · rw [if_neg (fun e => cF ((nI_eq (by omega) (by omega)).mp e)), if_neg (show ¬ (0 < ev_D m 0 i k ∧ ev_F m 0 i k = a) from fun h => cF h.2)]
      rfl
theorem rt_fromNote {m M : ro_Mem} {N : Nat} (hw : Wd m N) (hE : EVC m N m) (h63 : M 63 = m 63) (h64 : M 64 = m 64) (h6 : M 6 = m 6) (h3 : M 3 = m 3) {i a s : Nat} (hi : i < N) (ha : a < 4) (hs : s < 2 ^ 20) : fn_X0_fromNote (nI i) (nI a) (nI s) 2 M = some (nI (ev_fn m 0 a s i)) := by
  have key := rt_sumL (b := fun rec x => fb_X0_fromNote_6 (nI i) (nI a) (nI s) 2 M rec x.1 x.2) (fun k => ev_fl m 0 a s i k) 0 16 0 (by omega) (fun k hk rec x => by
    rw [Nat.zero_add]
    show fb_X0_fromNote_6 (nI i) (nI a) (nI s) 2 M rec (nI x) (nI k) = _
    unfold fb_X0_fromNote_6
    rw [if_neg (show ¬ (16 : Int32) ≤ nI k from nI_ge (b := 16) hk (by decide)), rt_fromBoth hw hE h63 h64 h6 h3 hi hk ha hs, Option.bind_some, ro_lt, nI_add, nI_1]) (fun rec x => rfl)
  rw [Nat.zero_add] at key
  have key : fl_X0_fromNote_6 (nI i) (nI a) (nI s) 2 M (0, 0) = some (nI (ev_fn m 0 a s i)) := key
  unfold fn_X0_fromNote
  rw [key, Option.bind_some]
def lw_ (m : ro_Mem) (N a s i : Nat) : Nat := if i < N ∧ nt_ m 5 i = a then ev_fn m 0 a s i else 0
theorem lw_le (m : ro_Mem) (N a s i : Nat) : lw_ m N a s i < 2 ^ 20 := by
  unfold lw_
  have := ev_fn_le m 0 a s i
  by_cases c : i < N ∧ nt_ m 5 i = a
  · rw [if_pos c]; omega
  · rw [if_neg c]; omega
theorem rt_len204 : ro_len (204 + 1) = 32 ∧ ro_len (204 + 2) = 32 := by decide +kernel
theorem rt_weigh {m : ro_Mem} {N : Nat} (hw : Wd m N) (hE : EVC m N m) {a s : Nat} (ha : a < 4) (hs : s < 2 ^ 20) : ∃ m', fn_X11_weighNotes (nI a) (nI s) m = some m' ∧ (∀ o, ¬ o = 205 → ¬ o = 206 → m' o = m o) ∧ (∀ i, i < 32 → m' 205 i = nI (lw_ m N a s i)) ∧ ∃ ord, So (lw_ m N a s) ord 32 (m' 206) := by
  have hN : N ≤ 32 := hw.2.2.2.2.2
  obtain ⟨hsc, hL⟩ := cg_rf hw.2.1
  have hn : m (ro_rf m 1 1) 5 = nI N := hw.2.2.2.2.1
  have l1 : fl_X11_weighNotes_2 (nI a) (nI s) (0, m) = some (ro_arr m 205 (rt_mix (fun i => nI (lw_ m N a s i)) (m 205) 32)) := by
    unfold fl_X11_weighNotes_2
    refine rt_fillR (fun i => nI (lw_ m N a s i)) (by decide) (fun i hi rec f _ => ?_) (fun rec m => rfl)
    show fb_X11_weighNotes_2 (nI a) (nI s) rec (nI i) (ro_arr m 205 f) = _
    have r1 : ro_rf (ro_arr m 205 f) 1 1 = ro_rf m 1 1 := by unfold ro_rf; rw [ro_arr_ne _ _ (show 1 ≠ 205 by decide)]
    have z42 : fj_X11_weighNotes_42 rec (nI a) (nI s) (nI i) (ro_arr m 205 f) = rec (nI (i + 1), ro_arr m 205 (upd f i (nI 0))) := by
      unfold fj_X11_weighNotes_42 fj_X11_weighNotes_43
      rw [if_pos rfl, if_pos (rt_in hi (by decide)), nI_clamp (show i < 2 ^ 31 by omega), ro_arr_set, ro_lt, nI_1]
      rfl
    unfold fb_X11_weighNotes_2 lw_
    rw [if_neg (show ¬ (32 : Int32) ≤ nI i from nI_ge (b := 32) hi (by decide)), r1, if_pos (rt_score_id hsc), ro_arr_ne _ _ (show ro_rf m 1 1 ≠ 205 by omega), hn, if_pos (rt_in hi (by decide)), nI_clamp (show i < 2 ^ 31 by omega), z42]
    by_cases c : i < N
    · obtain ⟨hnt, -, -, -, hac⟩ := hw.nt c
      rw [if_neg (nI_ge c (by omega)), ro_arr_ne _ _ (show ro_rf m 1 1 + 5 ≠ 205 by omega), (hnt 5 (by decide) (by decide)).1]
      by_cases c2 : nt_ m 5 i = a
      · unfold fj_X11_weighNotes_43
        rw [if_pos (show nI (nt_ m 5 i) = nI a by rw [c2]), if_neg rt_10, rt_fromNote hw hE (ro_arr_ne _ _ (by decide)) (ro_arr_ne _ _ (by decide)) (ro_arr_ne _ _ (by decide)) (ro_arr_ne _ _ (by decide)) c ha hs, Option.bind_some, if_pos (rt_in hi (by decide)), nI_clamp (show i < 2 ^ 31 by omega), ro_arr_set, ro_lt, if_pos ⟨c, c2⟩, nI_1]
      · rw [if_neg (fun e => c2 ((nI_eq (by omega) (by omega)).mp e)), if_neg (show ¬ (i < N ∧ nt_ m 5 i = a) from fun h => c2 h.2)]
    · rw [if_pos (nI_le (by omega) (by omega)), if_neg (show ¬ (i < N ∧ nt_ m 5 i = a) from fun h => c h.1)]
  obtain ⟨m', e, h1, ord, h2⟩ := rt_sort (o0 := 204) (n := 32) (μ := ro_arr m 205 (rt_mix (fun i => nI (lw_ m N a s i)) (m 205) 32)) (w := lw_ m N a s) rt_len204.1 rt_len204.2 (Nat.le_refl _) (fun i hi => ⟨by rw [ro_arr_same, rt_mix_lt hi], lw_le m N a s i⟩)
  refine ⟨m', ?_, fun o h3 h4 => by rw [h1 o h4, ro_arr_ne _ _ h3], fun i hi => by rw [h1 205 (by decide), ro_arr_same, rt_mix_lt hi], ord, h2⟩
  unfold fn_X11_weighNotes
  rw [l1, Option.bind_some, e, Option.bind_some]
-- ===== the fewest =====
def fw_ (w : Nat → Nat) (need : Nat) : Option Nat := sp_first (fun c => decide (need ≤ tp_ w 32 0 c)) 33 0
theorem rt_fewest {m : ro_Mem} {w ord : Nat → Nat} (hw : ∀ i, i < 32 → m 205 i = nI (w i) ∧ w i < 2 ^ 20) (hS : So w ord 32 (m 206)) {need : Nat} (hn : need < 2 ^ 30) (hB : ∀ c, tp_ w 32 0 c < 2 ^ 30) : fn_X10_fewest 204 (nI need) m = some (sp_wv (fw_ w need)) := by
  have key : fl_X10_fewest_2 204 (nI need) m 0 = some (match fw_ w need with
    | none => Sum.inr ()
    | some c => Sum.inl (nI c)) := by
    unfold fl_X10_fewest_2 fw_
    refine rt_find (fun c => decide (need ≤ tp_ w 32 0 c)) 33 (fun c => (Sum.inl (nI c) : Int32 ⊕ Unit)) (Sum.inr ()) ?_ ?_ ro_FU (by decide)
    · intro c hc rec
      show fb_X10_fewest_2 204 (nI need) m rec (nI c) = _
      have hh := rt_heaviest (o0 := 204) rt_len204.1 rt_len204.2 (Nat.le_refl _) hw hS (lo := 0) (hi := 32) (most := c) (by omega) (by omega) (by omega)
      have hh : fn_X10_heaviest 204 0 (nI 32) (nI c) m = some (nI (tp_ w 32 0 c)) := hh
      have hb := hB c
      unfold fb_X10_fewest_2
      rw [rt_len204.1, if_neg (nI_nlt (by omega) (by decide)), hh, Option.bind_some, nI_1]
      by_cases q : need ≤ tp_ w 32 0 c
      · rw [if_neg (nI_nlt q (by omega)), if_pos (decide_eq_true q)]
      · rw [if_pos (nI_lt (by omega) (by omega)), if_neg (by simpa using q)]
    · intro rec
      show fb_X10_fewest_2 204 (nI need) m rec (nI 33) = _
      unfold fb_X10_fewest_2
      rw [rt_len204.1, if_pos (show nI 32 < nI 33 by decide)]
  unfold fn_X10_fewest
  rw [key, Option.bind_some]
  cases fw_ w need <;> rfl
-- ===== the picks =====
/-- place x would be picked as the k-th of c all, d being due -/
def pT (w : Nat → Nat) (few k d x : Nat) : Prop := d ≤ w x + tp_ w (31 - x) (x + 1) (few - k - 1)
theorem pk_next {w : Nat → Nat} {few k d : Nat} (hk : k < few) : ∀ r i, i + r = 32 → d ≤ tp_ w r i (few - k) → tp_ w r i (few - k - 1) < d → ∃ x, i ≤ x ∧ x < 32 ∧ pT w few k d x ∧ (∀ y, i ≤ y → y < x → ¬ pT w few k d y) ∧ 0 < w x ∧ (k + 1 < few → w x < d ∧ d - w x ≤ tp_ w (31 - x) (x + 1) (few - (k + 1)) ∧ tp_ w (31 - x) (x + 1) (few - (k + 1) - 1) < d - w x) := by
  intro r
  induction r with
  | zero =>
    intro i hi hA hB
    have e1 : tp_ w 0 i (few - k) = 0 := rfl
    omega
  | succ r ih =>
    intro i hi hA hB
    have er : 31 - i = r := by omega
    rw [tp_s] at hA hB
    rw [if_neg (show ¬ few - k = 0 by omega)] at hA
    have l1 := Nat.le_max_left (tp_ w r (i + 1) (few - k - 1)) (if few - k - 1 = 0 then 0 else w i + tp_ w r (i + 1) (few - k - 1 - 1))
    have l2 := Nat.le_max_right (tp_ w r (i + 1) (few - k - 1)) (if few - k - 1 = 0 then 0 else w i + tp_ w r (i + 1) (few - k - 1 - 1))
    by_cases c : pT w few k d i
    · have c' := c
      unfold pT at c'
      rw [er] at c'
      refine ⟨i, Nat.le_refl _, by omega, c, fun y h1 h2 => absurd h2 (by omega), by omega, fun h => ?_⟩
      rw [if_neg (show ¬ few - k - 1 = 0 by omega)] at hB
      rw [er, show few - (k + 1) = few - k - 1 by omega]
      omega
    · have c' := c
      unfold pT at c'
      rw [er] at c'
      have hA' : d ≤ tp_ w r (i + 1) (few - k) := by
        rcases Nat.le_total (tp_ w r (i + 1) (few - k)) (w i + tp_ w r (i + 1) (few - k - 1)) with h | h
        · rw [Nat.max_eq_right h] at hA; omega
        · rw [Nat.max_eq_left h] at hA; exact hA
      obtain ⟨x, x1, x2, x3, x4, x5, x6⟩ := ih (i + 1) (by omega) hA' (by omega)
      refine ⟨x, by omega, x2, x3, fun y h1 h2 => ?_, x5, x6⟩
      by_cases e : y = i
      · rw [e]; exact c
      · exact x4 y (by omega) h2
section
variable {m M : ro_Mem} {w ord : Nat → Nat} {N few wanted : Nat}
/-- one place, by the class -/
theorem rt_pickC (hw : ∀ i, i < 32 → m 205 i = nI (w i) ∧ w i < 2 ^ 20) (hS : So w ord 32 (m 206)) (hB : ∀ n lo c, tp_ w n lo c < 2 ^ 28) {k d x : Nat} (hf : few ≤ 33) (hk : k < few) (hd : d < 2 ^ 28) (hx : x < 32) (rec : (Int32 × Int32 × Int32) → Option (Int32 ⊕ Unit)) : fb_X10_pick_15 204 (nI wanted) (nI few) m rec (nI d) (nI k) (nI x) = @ite _ (pT w few k d x) (by unfold pT; exact inferInstance) (if nI k = nI wanted then some (.inl (nI x)) else rec (nI d - nI (w x), nI (k + 1), nI (x + 1))) (rec (nI d, nI k, nI (x + 1))) := by
  have hh := rt_heaviest (o0 := 204) rt_len204.1 rt_len204.2 (Nat.le_refl _) hw hS (lo := x + 1) (hi := 32) (most := few - k - 1) (by omega) (by omega) (by omega)
  rw [show 32 - (x + 1) = 31 - x by omega] at hh
  have hb := hB (31 - x) (x + 1) (few - k - 1)
  have hwx := hw x hx
  unfold fb_X10_pick_15
  rw [rt_len204.1, if_neg (nI_ge hx (by decide)), if_neg (nI_ge hk (by omega)), if_pos (rt_in hx (by decide)), nI_1, pk_sub (by omega), show nI (few - k) - 1 = nI (few - k - 1) from pk_sub (b := 1) (by omega), hh, Option.bind_some, show m (204 + 1) = m 205 from rfl, nI_clamp (show x < 2 ^ 31 by omega), hwx.1, nI_add, nI_1]
  by_cases c : pT w few k d x
  · have c' := c
    unfold pT at c'
    rw [if_pos c, if_neg (nI_nlt c' (by omega)), ro_lt]
  · have c' := c
    unfold pT at c'
    rw [if_neg c, if_pos (nI_lt (by omega) (by omega))]
theorem rt_picks (hN : N ≤ 32) (hw : ∀ i, i < 32 → m 205 i = nI (w i) ∧ w i < 2 ^ 20) (hS : So w ord 32 (m 206)) (hB : ∀ n lo c, tp_ w n lo c < 2 ^ 28) (h18 : M 207 18 = nI N) (hwM : ∀ i, i < N → M 251 i = nI (w i) ∧ w i < 2 ^ 20) (hz : ∀ i, N ≤ i → w i = 0) (hf : few ≤ 32) (hwf : wanted < few) : ∀ e k i d, k + e = wanted → i ≤ 32 → d < 2 ^ 28 → d ≤ tp_ w (32 - i) i (few - k) → tp_ w (32 - i) i (few - k - 1) < d → ∃ x, x < 32 ∧ LD (fun rec (s : Int32 × Int32 × Int32) => fb_X10_pick_15 204 (nI wanted) (nI few) m rec s.1 s.2.1 s.2.2) (nI d, nI k, nI i) (.inl (nI x)) (33 - i) ∧ LD (fun rec (s : Int32 × Int32 × Int32) => fb_X12_leftOut_183 (nI wanted) (nI few) M rec s.1 s.2.1 s.2.2) (nI i, nI d, nI k) (nI (x + 1)) (e + 1) := by
  intro e
  induction e with
  | zero =>
    intro k i d hk hi hd hA hB2
    have hkw : k = wanted := by omega
    subst hkw
    obtain ⟨x, x1, x2, x3, x4, x5, -⟩ := pk_next hwf (32 - i) i (by omega) hA hB2
    have hxN : x < N := by
      rcases Nat.lt_or_ge x N with h | h
      · exact h
      · have := hz x h; omega
    refine ⟨x, x2, ?_, ?_⟩
    · have skip : ∀ j y, y + j = x → i ≤ y → LD (fun rec (s : Int32 × Int32 × Int32) => fb_X10_pick_15 204 (nI k) (nI few) m rec s.1 s.2.1 s.2.2) (nI d, nI k, nI y) (.inl (nI x)) j := by
        intro j
        induction j with
        | zero =>
          intro y hy _
          have : y = x := by omega
          subst this
          refine LD.done (fun rec => ?_)
          show fb_X10_pick_15 204 (nI k) (nI few) m rec (nI d) (nI k) (nI y) = _
          rw [rt_pickC hw hS hB (by omega) hwf hd x2, if_pos x3, if_pos rfl]
        | succ j ih =>
          intro y hy hiy
          refine LD.step (fun rec => ?_) (ih (y + 1) (by omega) (by omega))
          show fb_X10_pick_15 204 (nI k) (nI few) m rec (nI d) (nI k) (nI y) = _
          rw [rt_pickC hw hS hB (by omega) hwf hd (by omega), if_neg (x4 y hiy (by omega))]
      exact (skip (x - i) i (by omega) (Nat.le_refl _)).up (by omega)
    · have inner : fl_X12_leftOut_189 (nI k) (nI few) (nI d) (nI k) M (nI i) = some (nI x) := by
        have skip : ∀ j y, y + j = x → i ≤ y → LD (fun rec (s : Int32) => fb_X12_leftOut_189 (nI k) (nI few) (nI d) (nI k) M rec s) (nI y) (nI x) j := by
          intro j
          induction j with
          | zero =>
            intro y hy _
            have : y = x := by omega
            subst this
            refine LD.done (fun rec => ?_)
            show fb_X12_leftOut_189 (nI k) (nI few) (nI d) (nI k) M rec (nI y) = _
            have hb := hB (31 - y) (y + 1) (few - k - 1)
            have hm := rt_mostBy (lo := y + 1) (n := few - k - 1) hN (by omega) (by omega) h18 hwM hz
            rw [show 32 - (y + 1) = 31 - y by omega] at hm
            have c' := x3
            unfold pT at c'
            have hwy := hwM y hxN
            unfold fb_X12_leftOut_189
            rw [if_pos (rt_in x2 (by decide)), nI_clamp (show y < 2 ^ 31 by omega), hwy.1, if_neg (nI_ne0 x5 (by omega)), nI_1, pk_sub (by omega), show nI (few - k) - 1 = nI (few - k - 1) from pk_sub (b := 1) (by omega), hm, Option.bind_some, nI_add, if_pos (nI_le c' (by omega))]
          | succ j ih =>
            intro y hy hiy
            refine LD.step (fun rec => ?_) (ih (y + 1) (by omega) (by omega))
            show fb_X12_leftOut_189 (nI k) (nI few) (nI d) (nI k) M rec (nI y) = _
            have hb := hB (31 - y) (y + 1) (few - k - 1)
            have hm := rt_mostBy (lo := y + 1) (n := few - k - 1) hN (by omega) (by omega) h18 hwM hz
            rw [show 32 - (y + 1) = 31 - y by omega] at hm
            have c' := x4 y hiy (by omega)
            unfold pT at c'
            have hwy := hwM y (by omega)
            unfold fb_X12_leftOut_189
            rw [if_pos (rt_in (show y < 32 by omega) (by decide)), nI_clamp (show y < 2 ^ 31 by omega), hwy.1, nI_1, ro_lt]
            by_cases c0 : w y = 0
            · rw [if_pos (show nI (w y) = 0 by rw [c0]; rfl)]
            · rw [if_neg (nI_ne0 (by omega) (by omega)), pk_sub (by omega), show nI (few - k) - 1 = nI (few - k - 1) from pk_sub (b := 1) (by omega), hm, Option.bind_some, nI_add, if_neg (nI_ge (by omega) (by omega))]
        exact skip (x - i) i (by omega) (Nat.le_refl _) ro_FU (Nat.lt_of_le_of_lt (show x - i ≤ 32 by omega) (by decide))
      refine LD.step (s' := (nI (x + 1), nI d - M 251 x, nI (k + 1))) (fun rec => ?_) (LD.done (fun rec => ?_))
      · show fb_X12_leftOut_183 (nI k) (nI few) M rec (nI i) (nI d) (nI k) = _
        unfold fb_X12_leftOut_183
        rw [if_neg (nI_nlt (Nat.le_refl _) (by omega)), inner, Option.bind_some, if_pos (rt_in x2 (by decide)), nI_clamp (show x < 2 ^ 31 by omega), ro_lt, ro_lt, nI_1, nI_1]
      · show fb_X12_leftOut_183 (nI k) (nI few) M rec (nI (x + 1)) _ (nI (k + 1)) = _
        unfold fb_X12_leftOut_183
        rw [if_pos (nI_lt (by omega) (by omega))]
  | succ e ihe =>
    intro k i d hk hi hd hA hB2
    have hkf : k < few := by omega
    obtain ⟨x, x1, x2, x3, x4, x5, x6⟩ := pk_next hkf (32 - i) i (by omega) hA hB2
    obtain ⟨y1, y2, y3⟩ := x6 (by omega)
    have hxN : x < N := by
      rcases Nat.lt_or_ge x N with h | h
      · exact h
      · have := hz x h; omega
    obtain ⟨z, z1, z2, z3⟩ := ihe (k + 1) (x + 1) (d - w x) (by omega) (by omega) (by omega) (by rw [show 32 - (x + 1) = 31 - x by omega]; exact y2) (by rw [show 32 - (x + 1) = 31 - x by omega]; exact y3)
    have hkw : ¬ nI k = nI wanted := fun q => by
      have := (nI_eq (by omega) (by omega)).mp q
      omega
    refine ⟨z, z1, ?_, ?_⟩
    · have skip : ∀ j y, y + j = x → i ≤ y → LD (fun rec (s : Int32 × Int32 × Int32) => fb_X10_pick_15 204 (nI wanted) (nI few) m rec s.1 s.2.1 s.2.2) (nI d, nI k, nI y) (.inl (nI z)) (j + (33 - (x + 1)) + 1) := by
        intro j
        induction j with
        | zero =>
          intro y hy _
          have : y = x := by omega
          subst this
          rw [Nat.zero_add]
          refine LD.step (fun rec => ?_) z2
          show fb_X10_pick_15 204 (nI wanted) (nI few) m rec (nI d) (nI k) (nI y) = _
          rw [rt_pickC hw hS hB (by omega) hkf hd x2, if_pos x3, if_neg hkw, pk_sub (by omega)]
        | succ j ih =>
          intro y hy hiy
          have h1 := ih (y + 1) (by omega) (by omega)
          rw [show j + 1 + (33 - (x + 1)) + 1 = j + (33 - (x + 1)) + 1 + 1 by omega]
          refine LD.step (fun rec => ?_) h1
          show fb_X10_pick_15 204 (nI wanted) (nI few) m rec (nI d) (nI k) (nI y) = _
          rw [rt_pickC hw hS hB (by omega) hkf hd (by omega), if_neg (x4 y hiy (by omega))]
      exact (skip (x - i) i (by omega) (Nat.le_refl _)).up (by omega)
    · have inner : fl_X12_leftOut_189 (nI wanted) (nI few) (nI d) (nI k) M (nI i) = some (nI x) := by
        have skip : ∀ j y, y + j = x → i ≤ y → LD (fun rec (s : Int32) => fb_X12_leftOut_189 (nI wanted) (nI few) (nI d) (nI k) M rec s) (nI y) (nI x) j := by
          intro j
          induction j with
          | zero =>
            intro y hy _
            have : y = x := by omega
            subst this
            refine LD.done (fun rec => ?_)
            show fb_X12_leftOut_189 (nI wanted) (nI few) (nI d) (nI k) M rec (nI y) = _
            have hb := hB (31 - y) (y + 1) (few - k - 1)
            have hm := rt_mostBy (lo := y + 1) (n := few - k - 1) hN (by omega) (by omega) h18 hwM hz
            rw [show 32 - (y + 1) = 31 - y by omega] at hm
            have c' := x3
            unfold pT at c'
            have hwy := hwM y hxN
            unfold fb_X12_leftOut_189
            rw [if_pos (rt_in x2 (by decide)), nI_clamp (show y < 2 ^ 31 by omega), hwy.1, if_neg (nI_ne0 x5 (by omega)), nI_1, pk_sub (by omega), show nI (few - k) - 1 = nI (few - k - 1) from pk_sub (b := 1) (by omega), hm, Option.bind_some, nI_add, if_pos (nI_le c' (by omega))]
          | succ j ih =>
            intro y hy hiy
            refine LD.step (fun rec => ?_) (ih (y + 1) (by omega) (by omega))
            show fb_X12_leftOut_189 (nI wanted) (nI few) (nI d) (nI k) M rec (nI y) = _
            have hb := hB (31 - y) (y + 1) (few - k - 1)
            have hm := rt_mostBy (lo := y + 1) (n := few - k - 1) hN (by omega) (by omega) h18 hwM hz
            rw [show 32 - (y + 1) = 31 - y by omega] at hm
            have c' := x4 y hiy (by omega)
            unfold pT at c'
            have hwy := hwM y (by omega)
            unfold fb_X12_leftOut_189
            rw [if_pos (rt_in (show y < 32 by omega) (by decide)), nI_clamp (show y < 2 ^ 31 by omega), hwy.1, nI_1, ro_lt]
            by_cases c0 : w y = 0
            · rw [if_pos (show nI (w y) = 0 by rw [c0]; rfl)]
            · rw [if_neg (nI_ne0 (by omega) (by omega)), pk_sub (by omega), show nI (few - k) - 1 = nI (few - k - 1) from pk_sub (b := 1) (by omega), hm, Option.bind_some, nI_add, if_neg (nI_ge (by omega) (by omega))]
        exact skip (x - i) i (by omega) (Nat.le_refl _) ro_FU (Nat.lt_of_le_of_lt (show x - i ≤ 32 by omega) (by decide))
      refine LD.step (fun rec => ?_) z3
      show fb_X12_leftOut_183 (nI wanted) (nI few) M rec (nI i) (nI d) (nI k) = _
      unfold fb_X12_leftOut_183
      rw [if_neg (nI_nlt (by omega) (by omega)), inner, Option.bind_some, if_pos (rt_in x2 (by decide)), nI_clamp (show x < 2 ^ 31 by omega), (hwM x hxN).1, ro_lt, ro_lt, nI_1, nI_1, pk_sub (by omega)]
end
theorem tp_le {w : Nat → Nat} {B : Nat} (h : ∀ i, w i ≤ B) (n lo c : Nat) : tp_ w n lo c ≤ n * B := by
  have h1 := tp_ub (w := w) 0 n lo c
  rw [Nat.zero_mul, Nat.add_zero] at h1
  refine Nat.le_trans h1 (sp_sum_bd (fun i _ => ?_))
  have := h (lo + i)
  omega
theorem tp_z {w : Nat → Nat} {lo : Nat} : ∀ n c, tp_ w n lo c ≤ tp_ w n lo n := by
  intro n
  induction n generalizing lo with
  | zero => intro c; exact Nat.le_refl _
  | succ n ih =>
    intro c
    rw [tp_s, tp_s]
    have h1 := ih (lo := lo + 1) c
    have h2 := ih (lo := lo + 1) (c - 1)
    have h3 := tp_mono (w := w) n (lo + 1) n (n + 1) (by omega)
    refine Nat.max_le.mpr ⟨Nat.le_trans h1 (Nat.le_trans h3 (Nat.le_max_left _ _)), ?_⟩
    by_cases c0 : c = 0
    · rw [if_pos c0]; exact Nat.zero_le _
    · rw [if_neg c0, if_neg (by omega), Nat.add_sub_cancel]
      exact Nat.le_trans (Nat.add_le_add_left h2 _) (Nat.le_max_right _ _)
