-- ===== the told guests, by number =====
def cb_ (G g : Nat) : Nat := sp_sum (fun i => G / 2 ^ i % 2) g
def gE (G h : Nat) : Nat := match sp_first (fun g => decide (G / 2 ^ g % 2 = 1) && decide (cb_ G g = h)) 10 0 with
  | none => 0
  | some g => g
theorem cb_s (G g : Nat) : cb_ G (g + 1) = cb_ G g + G / 2 ^ g % 2 := rfl
theorem cb_10 {G : Nat} (h : G < 1024) : cb_ G 10 = cn_ G := by
  unfold cn_ cb_
  show _ = sp_sum _ (10 + 6)
  rw [sp_sum_app, sp_sum_zero (f := fun i => G / 2 ^ (10 + i) % 2) (fun i _ => bit_hi (n := 10) h (by omega))]
  rfl
theorem cb_mono {G x y : Nat} (h : x ≤ y) : cb_ G x ≤ cb_ G y := sp_sum_mono h
theorem cb_lt {G x y : Nat} (h : x < y) (hb : G / 2 ^ x % 2 = 1) : cb_ G x < cb_ G y := by
  have h1 := cb_s G x
  have h2 := cb_mono (G := G) (show x + 1 ≤ y by omega)
  omega
theorem cb_inj {G x y : Nat} (hx : G / 2 ^ x % 2 = 1) (hy : G / 2 ^ y % 2 = 1) (h : cb_ G x = cb_ G y) : x = y := by
  rcases Nat.lt_trichotomy x y with q | q | q
  · have := cb_lt q hx; omega
  · exact q
  · have := cb_lt q hy; omega
theorem gE_cb {G g : Nat} (hg : g < 10) (hb : G / 2 ^ g % 2 = 1) : gE G (cb_ G g) = g := by
  unfold gE
  cases e : sp_first (fun x => decide (G / 2 ^ x % 2 = 1) && decide (cb_ G x = cb_ G g)) 10 0 with
  | none =>
    have := sp_first_none e g (by omega) (by omega)
    rw [decide_eq_true hb, decide_eq_true rfl] at this
    cases this
  | some x =>
    obtain ⟨-, x2, x3, -⟩ := sp_first_some e
    obtain ⟨y1, y2⟩ := Bool.and_eq_true_iff.mp x3
    exact cb_inj (of_decide_eq_true y1) hb (of_decide_eq_true y2)
theorem gE_ok {G h : Nat} (hh : h < cb_ G 10) : gE G h < 10 ∧ G / 2 ^ (gE G h) % 2 = 1 ∧ cb_ G (gE G h) = h := by
  have key : ∀ k, h < cb_ G k → ∃ g, g < k ∧ G / 2 ^ g % 2 = 1 ∧ cb_ G g = h := by
    intro k
    induction k with
    | zero => intro hk; exact absurd hk (Nat.not_lt_zero _)
    | succ k ih =>
      intro hk
      rcases Nat.lt_or_ge h (cb_ G k) with q | q
      · obtain ⟨g, g1, g2⟩ := ih q
        exact ⟨g, by omega, g2⟩
      · rw [cb_s] at hk
        exact ⟨k, by omega, by omega, by omega⟩
  obtain ⟨g, g1, g2, g3⟩ := key 10 hh
  have e := gE_cb g1 g2
  rw [g3] at e
  rw [e]
  exact ⟨g1, g2, g3⟩
theorem gE_inj {G i j : Nat} (hi : i < cb_ G 10) (hj : j < cb_ G 10) (h : gE G i = gE G j) : i = j := by
  have h1 := (gE_ok hi).2.2
  have h2 := (gE_ok hj).2.2
  rw [h] at h1
  omega
/-- the class's row of guests -/
theorem rt_guestsC {m : ro_Mem} {N a G n : Nat} {sq : Nat → Nat} (hw : Wd m N) (hE : EVC m N m) (ha : a < 4) (hG : G < 1024) (hn : cb_ G 10 = n) (hn8 : n ≤ 8) (hGt : ∀ g, g < 10 → G / 2 ^ g % 2 = 1 → bt (m 2 11) g = true) (h69 : m 69 1 = nI n) (h70 : ∀ j, j < n → m 70 j = nI (sq j) ∧ sq j < 96) : ∃ M, fl_X6_solve_6 2 (nI G) (nI a) (0, 0, m) = some M ∧ (∀ o, ¬ o = 72 → ¬ o = 74 → ¬ o = 75 → M o = m o) ∧ ∀ h, h < n → M 72 h = nI (gE G h) ∧ M 74 h = nI (rk_ m (gE G h)) ∧ M 75 h = nI (ev_W m N a (sq h)) := by
  have key : ∀ d g fuel (M : ro_Mem), g + d = 10 → d < fuel → (∀ o, ¬ o = 72 → ¬ o = 74 → ¬ o = 75 → M o = m o) → (∀ h, h < cb_ G g → M 72 h = nI (gE G h) ∧ M 74 h = nI (rk_ m (gE G h)) ∧ M 75 h = nI (ev_W m N a (sq h))) → ∃ M', ro_loop (fun rec (s : Int32 × Int32 × ro_Mem) => fb_X6_solve_6 2 (nI G) (nI a) rec s.1 s.2.1 s.2.2) fuel (nI (cb_ G g), nI g, M) = some M' ∧ (∀ o, ¬ o = 72 → ¬ o = 74 → ¬ o = 75 → M' o = m o) ∧ ∀ h, h < n → M' 72 h = nI (gE G h) ∧ M' 74 h = nI (rk_ m (gE G h)) ∧ M' 75 h = nI (ev_W m N a (sq h)) := by
    intro d
    induction d with
    | zero =>
      intro g fuel M hg hf hM hP
      cases fuel with
      | zero => omega
      | succ f =>
        have hg : g = 10 := by omega
        rw [hg] at hP ⊢
        refine ⟨M, ?_, hM, fun h hh => hP h (by omega)⟩
        show fb_X6_solve_6 2 (nI G) (nI a) _ (nI (cb_ G 10)) (nI 10) M = _
        unfold fb_X6_solve_6
        rw [if_pos (show (10 : Int32) ≤ nI 10 from Int32.le_refl _)]
    | succ d ih =>
      intro g fuel M hg hf hM hP
      cases fuel with
      | zero => omega
      | succ f =>
        have hg10 : g < 10 := by omega
        have hcn : cb_ G g ≤ n := by rw [← hn]; exact cb_mono (by omega)
        have hcs : cb_ G (g + 1) ≤ n := by rw [← hn]; exact cb_mono (by omega)
        have hs := cb_s G g
        have hih := ih (g + 1) f
        show ∃ M', fb_X6_solve_6 2 (nI G) (nI a) (ro_loop (fun rec (s : Int32 × Int32 × ro_Mem) => fb_X6_solve_6 2 (nI G) (nI a) rec s.1 s.2.1 s.2.2) f) (nI (cb_ G g)) (nI g) M = _ ∧ _
        generalize ro_loop (fun rec (s : Int32 × Int32 × ro_Mem) => fb_X6_solve_6 2 (nI G) (nI a) rec s.1 s.2.1 s.2.2) f = R at hih ⊢
        have h69' : M 69 1 = nI n := by rw [hM 69 (by decide) (by decide) (by decide)]; exact h69
        by_cases c : cb_ G g = n
        · refine ⟨M, ?_, hM, fun h hh => hP h (by omega)⟩
          unfold fb_X6_solve_6
          rw [if_neg (show ¬ (10 : Int32) ≤ nI g from nI_ge hg10 (by decide)), h69', c, if_pos (Int32.le_refl _)]
        · have hc : cb_ G g < n := by omega
          generalize hcg : cb_ G g = x at *
          by_cases cb : G / 2 ^ g % 2 = 1
          · have hgx : gE G x = g := by rw [← hcg]; exact gE_cb hg10 cb
            obtain ⟨r1, -, r3, -⟩ := hw.rk hg10 (hGt g hg10 cb)
            obtain ⟨z1, z2⟩ := h70 x hc
            obtain ⟨M1, e1⟩ : ∃ M1, M1 = ro_set M 72 x (nI g) := ⟨_, rfl⟩
            have n1 : ∀ o, ¬ o = 72 → M1 o = M o := fun o h => by rw [e1, ro_set_ne _ _ _ h]
            have x10 : M1 (2 + 8) g = nI (rk_ m g) := by
              show M1 10 g = _
              rw [n1 10 (by decide), hM 10 (by decide) (by decide) (by decide)]
              exact r1
            obtain ⟨M2, e2⟩ : ∃ M2, M2 = ro_set M1 74 x (nI (rk_ m g)) := ⟨_, rfl⟩
            have n2 : ∀ o, ¬ o = 74 → M2 o = M1 o := fun o h => by rw [e2, ro_set_ne _ _ _ h]
            have x70 : M2 70 x = nI (sq x) := by
              rw [n2 70 (by decide), n1 70 (by decide), hM 70 (by decide) (by decide) (by decide)]
              exact z1
            have x65 : M2 65 (96 * a + sq x) = nI (ev_W m N a (sq x)) := by
              rw [n2 65 (by decide), n1 65 (by decide), hM 65 (by decide) (by decide) (by decide)]
              exact hE.2.2.2.2.1 a (sq x) ha z2
            obtain ⟨M3, e3⟩ : ∃ M3, M3 = ro_set M2 75 x (nI (ev_W m N a (sq x))) := ⟨_, rfl⟩
            have n3 : ∀ o, ¬ o = 75 → M3 o = M2 o := fun o h => by rw [e3, ro_set_ne _ _ _ h]
            rw [cb] at hs
            obtain ⟨M', m1, m2, m3⟩ := hih M3 (by omega) (by omega) (fun o h1 h2 h3 => by rw [n3 o h3, n2 o h2, n1 o h1]; exact hM o h1 h2 h3) (fun h hh => by
              have q72 : M3 72 = ro_set M 72 x (nI g) 72 := by rw [n3 72 (by decide), n2 72 (by decide), e1]
              have q74 : M3 74 = ro_set M1 74 x (nI (rk_ m g)) 74 := by rw [n3 74 (by decide), e2]
              have q75 : M3 75 = ro_set M2 75 x (nI (ev_W m N a (sq x))) 75 := by rw [e3]
              rw [q72, q74, q75, ro_set_same, ro_set_same, ro_set_same, n1 74 (by decide), n2 75 (by decide), n1 75 (by decide)]
              by_cases eh : h = x
              · rw [eh, pk_us, pk_us, pk_us, hgx]
                exact ⟨rfl, rfl, rfl⟩
              · rw [pk_un eh, pk_un eh, pk_un eh]
                exact hP h (by omega))
            refine ⟨M', ?_, m2, m3⟩
            rw [hs] at m1
            rw [← m1]
            unfold fb_X6_solve_6
            rw [if_neg (show ¬ (10 : Int32) ≤ nI g from nI_ge hg10 (by decide)), h69', if_neg (nI_ge hc (by omega)), rt_shr1 (by omega) (by omega), cb, if_pos (show nI 1 = 1 from rfl), if_pos (rt_in (n := 8) (by omega) (by decide)), nI_clamp (show x < 2 ^ 31 by omega), ro_lt, ← e1, if_pos (rt_in hg10 (by decide)), nI_clamp (show g < 2 ^ 31 by omega), x10, ro_lt, ← e2, x70, rt_e96, if_pos (rt_in (n := 384) (by omega) (by decide)), nI_clamp (show 96 * a + sq x < 2 ^ 31 by omega), x65, ro_lt, ← e3, nI_1, nI_1]
          · have h0 : G / 2 ^ g % 2 = 0 := by omega
            rw [h0] at hs
            obtain ⟨M', m1, m2, m3⟩ := hih M (by omega) (by omega) hM (fun h hh => hP h (by omega))
            refine ⟨M', ?_, m2, m3⟩
            rw [hs] at m1
            rw [← m1]
            unfold fb_X6_solve_6
            rw [if_neg (show ¬ (10 : Int32) ≤ nI g from nI_ge hg10 (by decide)), h69', if_neg (nI_ge hc (by omega)), rt_shr1 (by omega) (by omega), h0, if_neg (show ¬ nI 0 = 1 by decide), nI_1]
            rfl
  have := key 10 0 ro_FU m rfl (by decide) (fun _ _ _ _ => rfl) (fun h hh => absurd hh (Nat.not_lt_zero _))
  exact this
theorem rt_anyTaken {m M : ro_Mem} {a G n : Nat} {sq : Nat → Nat} (h11 : M 11 = m 11) (ha : a < 4) (hG : G < 1024) (hn8 : n ≤ 8) (h69 : M 69 1 = nI n) (h70 : ∀ j, j < n → M 70 j = nI (sq j) ∧ sq j < 96) : ((∃ j, j < n ∧ tk_ m a G (sq j) = true) ∧ fn_X11_isAnyTaken (nI a) (nI G) M = some 1) ∨ ((∀ j, j < n → tk_ m a G (sq j) = false) ∧ fn_X11_isAnyTaken (nI a) (nI G) M = some 0) := by
  have hl := rt_find (b := fun rec s => fb_X11_isAnyTaken_2 (nI a) (nI G) M rec s) (fun j => tk_ m a G (sq j)) n (fun _ => (Sum.inl () : Unit ⊕ Unit)) (Sum.inr ()) (fun j hj rec => by
    show fb_X11_isAnyTaken_2 (nI a) (nI G) M rec (nI j) = _
    obtain ⟨z1, z2⟩ := h70 j hj
    unfold fb_X11_isAnyTaken_2
    rw [h69, if_neg (nI_ge hj (by omega)), if_pos (rt_in (n := 8) (by omega) (by decide)), nI_clamp (show j < 2 ^ 31 by omega), z1, rt_guestOn ha z2, Option.bind_some, h11, nI_1]
    unfold tk_ who_
    cases e : sp_who (m 11) a (sq j) with
    | none => exact (if_pos rfl).trans (if_neg (show ¬ (false = true) by decide)).symm
    | some g =>
      have hg : g < 10 := by
        have := (sp_first_some (show sp_first _ 10 0 = some g from e)).2.1
        omega
      show (if nI g = -1 then rec (nI (j + 1)) else if nI G >>> (nI g &&& 31) &&& 1 = 0 then some (Sum.inl ()) else rec (nI (j + 1))) = if decide (G / 2 ^ g % 2 = 0) = true then some (Sum.inl ()) else rec (nI (j + 1))
      rw [if_neg (rt_m1 (by omega)), rt_shr1 (by omega) (by omega)]
      by_cases c : G / 2 ^ g % 2 = 0
      · rw [c, if_pos (show nI 0 = 0 from rfl), if_pos (by decide)]
      · rw [if_neg (nI_ne0 (by omega) (by omega)), if_neg (by rw [decide_eq_false c]; decide)]) (fun rec => by
    show fb_X11_isAnyTaken_2 (nI a) (nI G) M rec (nI n) = _
    unfold fb_X11_isAnyTaken_2
    rw [h69, if_pos (Int32.le_refl _)]) ro_FU (Nat.lt_of_le_of_lt hn8 (by decide))
  unfold fn_X11_isAnyTaken
  cases e : sp_first (fun j => tk_ m a G (sq j)) n 0 with
  | none =>
    rw [e] at hl
    have hl : fl_X11_isAnyTaken_2 (nI a) (nI G) M 0 = some (Sum.inr ()) := hl
    rw [hl]
    exact Or.inr ⟨fun j hj => sp_first_none e j (by omega) (by omega), rfl⟩
  | some j =>
    rw [e] at hl
    have hl : fl_X11_isAnyTaken_2 (nI a) (nI G) M 0 = some (Sum.inl ()) := hl
    rw [hl]
    obtain ⟨-, x2, x3, -⟩ := sp_first_some e
    exact Or.inl ⟨⟨j, by omega, x3⟩, rfl⟩
theorem rt_seatOf {M : ro_Mem} {n w h0 : Nat} {ge s : Nat → Nat} (h69 : M 69 1 = nI n) (hn : n ≤ 8) (h72 : ∀ h, h < n → M 72 h = nI (ge h) ∧ ge h < 10) (h73 : M 73 h0 = nI (s h0)) (hh : h0 < n) (hw : ge h0 = w) (hu : ∀ h, h < h0 → ¬ ge h = w) : fn_X6_seatOf (nI w) M = some (nI (s h0)) := by
  have hw10 : w < 10 := by rw [← hw]; exact (h72 h0 hh).2
  have hl := rt_loop (b := fun rec s => fb_X6_seatOf_2 (nI w) M rec s) (fun i => nI i) h0 (e := some (Sum.inl (nI h0))) (fun i hi rec => by
    show fb_X6_seatOf_2 (nI w) M rec (nI i) = _
    obtain ⟨z1, z2⟩ := h72 i (by omega)
    unfold fb_X6_seatOf_2
    rw [h69, if_neg (nI_ge (show i < n by omega) (by omega)), if_pos (rt_in (n := 8) (by omega) (by decide)), nI_clamp (show i < 2 ^ 31 by omega), z1, if_neg (fun q => hu i hi ((nI_eq (by omega) (by omega)).mp q)), nI_1]) (fun rec => by
    show fb_X6_seatOf_2 (nI w) M rec (nI h0) = _
    obtain ⟨z1, z2⟩ := h72 h0 hh
    unfold fb_X6_seatOf_2
    rw [h69, if_neg (nI_ge hh (by omega)), if_pos (rt_in (n := 8) (by omega) (by decide)), nI_clamp (show h0 < 2 ^ 31 by omega), z1, hw, if_pos rfl]) ro_FU (Nat.lt_of_lt_of_le hh (Nat.le_trans hn (by decide)))
  have hl : fl_X6_seatOf_2 (nI w) M 0 = some (Sum.inl (nI h0)) := hl
  unfold fn_X6_seatOf
  rw [hl, Option.bind_some]
  show (if ro_in (nI h0) 8 then some (M 73 (nI h0).toNatClampNeg) else none) = _
  rw [if_pos (rt_in (n := 8) (by omega) (by decide)), nI_clamp (show h0 < 2 ^ 31 by omega), h73]
/-- seats, as they are taken one after another -/
def pt_ (a : Nat) (ge s : Nat → Nat) (st : Nat → Int32) : Nat → (Nat → Int32)
  | 0 => st
  | h + 1 => upd (pt_ a ge s st h) (10 * a + ge h) (nI (s h))
theorem pt_no {a : Nat} {ge s : Nat → Nat} {st : Nat → Int32} {j : Nat} : ∀ n, (∀ h, h < n → ¬ j = 10 * a + ge h) → pt_ a ge s st n j = st j := by
  intro n
  induction n with
  | zero => intro _; rfl
  | succ n ih =>
    intro h
    unfold pt_
    rw [pk_un (h n (by omega))]
    exact ih (fun x hx => h x (by omega))
theorem pt_yes {a : Nat} {ge s : Nat → Nat} {st : Nat → Int32} : ∀ n h, h < n → (∀ i, h < i → i < n → ¬ ge i = ge h) → pt_ a ge s st n (10 * a + ge h) = nI (s h) := by
  intro n
  induction n with
  | zero => intro h hh; omega
  | succ n ih =>
    intro h hh hu
    unfold pt_
    by_cases e : h = n
    · rw [e, pk_us]
    · rw [pk_un (fun q => hu n (by omega) (by omega) (by omega))]
      exact ih h (by omega) (fun i h1 h2 => hu i h1 (by omega))
theorem rt_putInto {M : ro_Mem} {a n : Nat} {ge s : Nat → Nat} (ha : a < 4) (h69 : M 69 1 = nI n) (hn : n ≤ 8) (h72 : ∀ h, h < n → M 72 h = nI (ge h) ∧ ge h < 10) (h73 : ∀ h, h < n → M 73 h = nI (s h)) : ∃ M', fn_X6_putInto 2 (nI a) M = some M' ∧ (∀ o, ¬ o = 11 → M' o = M o) ∧ M' 11 = pt_ a ge s (M 11) n := by
  have hl := rt_cnt (b := fun rec (s : Int32 × ro_Mem) => fb_X6_putInto_2 2 (nI a) rec s.1 s.2) (fun k (M : ro_Mem) => (nI k, M)) (fun M => M) n (fun k M' => (∀ o, ¬ o = 11 → M' o = M o) ∧ M' 11 = pt_ a ge s (M 11) k) (fun k hk rec M' hP => by
    obtain ⟨p1, p2⟩ := hP
    obtain ⟨z1, z2⟩ := h72 k hk
    refine ⟨ro_set M' 11 (10 * a + ge k) (nI (s k)), ⟨fun o ho => by rw [ro_set_ne _ _ _ ho]; exact p1 o ho, by rw [ro_set_same, p2]; rfl⟩, ?_⟩
    show fb_X6_putInto_2 2 (nI a) rec (nI k) M' = _
    unfold fb_X6_putInto_2
    rw [p1 69 (by decide), h69, if_neg (nI_ge hk (by omega)), if_pos (rt_in (n := 8) (by omega) (by decide)), nI_clamp (show k < 2 ^ 31 by omega), p1 72 (by decide), z1, rt_e10, if_pos (rt_in (n := 40) (by omega) (by decide)), nI_clamp (show 10 * a + ge k < 2 ^ 31 by omega), p1 73 (by decide), h73 k hk, ro_lt, nI_1]) (fun rec M' hP => by
    show fb_X6_putInto_2 2 (nI a) rec (nI n) M' = _
    unfold fb_X6_putInto_2
    rw [hP.1 69 (by decide), h69, if_pos (Int32.le_refl _)]) ro_FU (Nat.lt_of_le_of_lt hn (by decide)) M ⟨fun _ _ => rfl, rfl⟩
  obtain ⟨M', ⟨m1, m2⟩, m3⟩ := hl
  have m3 : fl_X6_putInto_2 2 (nI a) (0, M) = some M' := m3
  refine ⟨M', ?_, m1, m2⟩
  unfold fn_X6_putInto
  rw [m3, Option.bind_some]
