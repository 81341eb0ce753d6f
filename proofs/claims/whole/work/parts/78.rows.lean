-- ===== told guests, as bits =====
theorem rt_guestBits {told v : Int32} (h : ∀ g, 10 ≤ g → bt told g = false) (hm : (v &&& (told ^^^ (-1))) = 0) : ∃ G, G < 1024 ∧ v = nI G ∧ ∀ g, g < 10 → G / 2 ^ g % 2 = 1 → bt told g = true := by
  have hb : ∀ i, i < 32 → bt v i = true → bt told i = true := fun i hi hv => by
    have := congrArg (fun x => bt x i) hm
    have : bt (v &&& (told ^^^ (-1))) i = bt 0 i := this
    rw [b_and, b_xor, b_m1 i hi, b_0, hv] at this
    simpa using this
  have e : v &&& 1023 = v := by
    apply b_ext
    intro i hi
    rw [b_and, (by decide +kernel : ∀ i, i < 32 → bt 1023 i = decide (i < 10)) i hi]
    by_cases c : i < 10
    · simp [c]
    · cases hv : bt v i
      · rfl
      · have := hb i hi hv
        rw [h i (by omega)] at this
        cases this
  have e2 := pk_and v (m := 1023) 10 (by decide)
  rw [e] at e2
  refine ⟨v.toBitVec.toNat % 2 ^ 10, Nat.mod_lt _ (by decide), e2, fun g hg hq => ?_⟩
  refine hb g (by omega) ?_
  rw [e2]
  exact (bt_nI (Nat.lt_trans (Nat.mod_lt _ (by decide)) (by decide)) (by omega)).mpr hq
-- ===== what falls through a slate (class) =====
theorem rt_fromSlate {m M : ro_Mem} {N : Nat} (hw : Wd m N) (hE : EVC m N m) (hM : ∀ o, o < 76 → M o = m o) {k a s : Nat} (hk : k < 16) (ha : a < 4) (hs : s < 2 ^ 20) : fn_X0_fromSlate (nI k) (nI a) (nI s) M = some (nI (ev_fs m 0 N a s k)) := by
  have hN : N ≤ 32 := hw.2.2.2.2.2
  obtain ⟨hsc, hL⟩ := cg_rf hw.2.1
  have r1 : ro_rf M 1 1 = ro_rf m 1 1 := by unfold ro_rf; rw [hM 1 (by decide)]
  have hn : M (ro_rf m 1 1) 5 = nI N := by rw [hM _ (by omega)]; exact hw.2.2.2.2.1
  have key := rt_sumL (b := fun rec x => fb_X0_fromSlate_6 (nI k) (nI a) (nI s) M rec x.1 x.2) (fun i => ev_fl m 0 a s i k) 0 N 0 (by omega) (fun i hi rec x => by
    rw [Nat.zero_add]
    show fb_X0_fromSlate_6 (nI k) (nI a) (nI s) M rec (nI x) (nI i) = _
    unfold fb_X0_fromSlate_6
    rw [r1, if_pos (rt_score_id hsc), hn, if_neg (nI_ge hi (by omega)), rt_fromBoth hw hE (hM 63 (by decide)) (hM 64 (by decide)) (hM 6 (by decide)) (hM 3 (by decide)) hi hk ha hs, Option.bind_some, ro_lt, nI_add, nI_1]) (fun rec x => by
    rw [Nat.zero_add]
    show fb_X0_fromSlate_6 (nI k) (nI a) (nI s) M rec (nI x) (nI N) = _
    unfold fb_X0_fromSlate_6
    rw [r1, if_pos (rt_score_id hsc), hn, if_pos (Int32.le_refl _)])
  rw [Nat.zero_add] at key
  have key : fl_X0_fromSlate_6 (nI k) (nI a) (nI s) M (0, 0) = some (nI (ev_fs m 0 N a s k)) := key
  unfold fn_X0_fromSlate
  rw [key, Option.bind_some]
def ex_ {α : Type} (f : Nat → α) (n : Nat) (x : α) : Nat → α := fun r => if r = n then x else f r
theorem ex_n {α : Type} {f : Nat → α} {n : Nat} {x : α} : ex_ f n x n = x := if_pos rfl
theorem ex_ne {α : Type} {f : Nat → α} {n r : Nat} {x : α} (h : ¬ r = n) : ex_ f n x r = f r := if_neg h
theorem rt_addRow {m M : ro_Mem} {N : Nat} (hw : Wd m N) (hE : EVC m N m) (hM : ∀ o, o < 76 → M o = m o) {n : Nat} {A : Nat → Nat} {w : Nat → Nat → Nat} (hN : NW n A w (fun _ => 0) M) (hn : n < 40) {x a s : Nat} (hx : x < 2 ^ 20) (ha : a < 4) (hs : s < 2 ^ 20) : ∃ M', fn_X4_add (nI x) (nI a) (nI s) M = some M' ∧ (∀ o, ¬ (76 ≤ o ∧ o ≤ 198) → M' o = M o) ∧ NW (n + 1) (ex_ A n x) (ex_ w n (ev_fs m 0 N a s)) (fun _ => 0) M' := by
  have hN32 : N ≤ 32 := hw.2.2.2.2.2
  obtain ⟨a1, a2, a3⟩ := hN
  obtain ⟨l1, l2⟩ := rt_lenW n hn
  unfold fn_X4_add
  rw [a1, if_pos (nI_lt hn (by decide)), if_pos (rt_in hn (by decide)), nI_clamp (show n < 2 ^ 31 by omega), ro_lt]
  obtain ⟨m3, e3⟩ : ∃ m3, m3 = ro_set M 78 n (nI x) := ⟨_, rfl⟩
  rw [← e3]
  have n3 : ∀ o, ¬ o = 78 → m3 o = M o := fun o h => by rw [e3, ro_set_ne _ _ _ h]
  have l26 : fl_X4_add_26 (nI a) (nI s) (0, m3) = some (ro_arr m3 (77 + 2 + 3 * n + 1) (rt_mix (fun k => nI (ev_fs m 0 N a s k)) (m3 (77 + 2 + 3 * n + 1)) 16)) := by
    unfold fl_X4_add_26
    refine rt_fillS (fun k => nI (ev_fs m 0 N a s k)) (by decide) (fun k hk rec f _ => ?_) (fun rec f => rfl)
    show fb_X4_add_26 (nI a) (nI s) rec (nI k) (ro_arr m3 (77 + 2 + 3 * n + 1) f) = _
    have e76 : ro_arr m3 (77 + 2 + 3 * n + 1) f 76 2 = nI n := by rw [ro_arr_ne _ _ (show 76 ≠ 77 + 2 + 3 * n + 1 by omega), n3 76 (by decide), a1]
    unfold fb_X4_add_26
    rw [if_neg (show ¬ (16 : Int32) ≤ nI k from nI_ge (b := 16) hk (by decide)), e76, if_pos (rt_in hn (by decide)), rt_fromSlate hw hE (fun o ho => by rw [ro_arr_ne _ _ (by omega), n3 o (by omega), hM o ho]) hk ha hs, Option.bind_some, nI_clamp (show n < 2 ^ 31 by omega), l1, if_pos (rt_in hk (by decide)), nI_clamp (show k < 2 ^ 31 by omega), ro_arr_set, ro_lt, nI_1]
  rw [l26, Option.bind_some]
  obtain ⟨m4, e4⟩ : ∃ m4, m4 = ro_arr m3 (77 + 2 + 3 * n + 1) (rt_mix (fun k => nI (ev_fs m 0 N a s k)) (m3 (77 + 2 + 3 * n + 1)) 16) := ⟨_, rfl⟩
  rw [← e4]
  have n4 : ∀ o, ¬ o = 77 + 2 + 3 * n + 1 → m4 o = m3 o := fun o h => by rw [e4, ro_arr_ne _ _ h]
  have e476 : m4 76 2 = nI n := by rw [n4 76 (by omega), n3 76 (by decide), a1]
  have w4 : ∀ k, k < 16 → m4 (77 + 2 + 3 * n + 1) k = nI (ev_fs m 0 N a s k) ∧ ev_fs m 0 N a s k < 2 ^ 16 := fun k hk => by
    refine ⟨by rw [e4, ro_arr_same, rt_mix_lt hk], ?_⟩
    have h1 := ev_fs_le m 0 (N := N) a s k
    have h2 : N * 99 ≤ 32 * 99 := Nat.mul_le_mul_right _ hN32
    omega
  obtain ⟨m5, e5, o5, ord, hS⟩ := rt_sort (o0 := 77 + 2 + 3 * n) (n := 16) (μ := m4) (w := ev_fs m 0 N a s) l1 l2 (by decide) (fun k hk => ⟨(w4 k hk).1, by have := (w4 k hk).2; omega⟩)
  rw [e476, if_pos (rt_in hn (by decide)), nI_clamp (show n < 2 ^ 31 by omega), e5, Option.bind_some, ro_lt]
  have e576 : m5 76 2 = nI n := by rw [o5 76 (by omega), e476]
  rw [e576, nI_1]
  refine ⟨ro_set m5 76 2 (nI (n + 1)), rfl, fun o ho => ?_, by rw [ro_set_same, pk_us], by omega, fun r hr => ?_⟩
  · rw [ro_set_ne _ _ _ (by omega), o5 o (by omega), n4 o (by omega), n3 o (by omega)]
  · by_cases c : r = n
    · subst c
      rw [ex_n, ex_n]
      refine ⟨?_, hx, fun k hk => ?_, ord, ?_⟩
      · rw [ro_set_ne _ _ _ (by decide), o5 78 (by omega), n4 78 (by omega), e3, ro_set_same, pk_us]
        exact (Int32.sub_zero _).symm
      · rw [ro_set_ne _ _ _ (by omega), o5 _ (by omega)]; exact w4 k hk
      · rw [ro_set_ne _ _ _ (by omega)]; exact hS
    · obtain ⟨b1, b2, b3, b4⟩ := a3 r (by omega)
      rw [ex_ne c, ex_ne c]
      refine ⟨?_, b2, fun k hk => ?_, ?_⟩
      · rw [ro_set_ne _ _ _ (by decide), o5 78 (by omega), n4 78 (by omega), e3, ro_set_same, pk_un c]; exact b1
      · rw [ro_set_ne _ _ _ (by omega), o5 _ (by omega), n4 _ (by omega), n3 _ (by omega)]; exact b3 k hk
      · rw [ro_set_ne _ _ _ (by omega), o5 _ (by omega), n4 _ (by omega), n3 _ (by omega)]; exact b4
-- ===== the rows are those of the guests that are wet =====
def fs_ (m : ro_Mem) (N a g : Nat) : Nat → Nat := ev_fs m 0 N a (st_ m a g)
def CV (m : ro_Mem) (N G t n : Nat) (A : Nat → Nat) (w : Nat → Nat → Nat) : Prop :=
  n ≤ t ∧ (∀ r, r < n → ∃ a g, a < 4 ∧ g < 10 ∧ G / 2 ^ g % 2 = 1 ∧ 0 < gw_ m 0 N a g ∧ A r = gw_ m 0 N a g ∧ w r = fs_ m N a g) ∧
  (∀ a g, a < 4 → g < 10 → 4 * g + a < t → G / 2 ^ g % 2 = 1 → 0 < gw_ m 0 N a g → ∃ r, r < n ∧ A r = gw_ m 0 N a g ∧ w r = fs_ m N a g)
theorem CV.skip {m : ro_Mem} {N G a g n : Nat} {A : Nat → Nat} {w : Nat → Nat → Nat} (h : CV m N G (4 * g + a) n A w) (ha : a < 4) (hz : ¬ (G / 2 ^ g % 2 = 1 ∧ 0 < gw_ m 0 N a g)) : CV m N G (4 * g + (a + 1)) n A w := by
  obtain ⟨h1, h2, h3⟩ := h
  refine ⟨by omega, h2, fun a' g' ha' hg' ht hG hp => ?_⟩
  by_cases c : 4 * g' + a' < 4 * g + a
  · exact h3 a' g' ha' hg' c hG hp
  · have : a' = a ∧ g' = g := by omega
    rw [this.1, this.2] at hp
    rw [this.2] at hG
    exact absurd ⟨hG, hp⟩ hz
theorem CV.put {m : ro_Mem} {N G a g n : Nat} {A : Nat → Nat} {w : Nat → Nat → Nat} (h : CV m N G (4 * g + a) n A w) (ha : a < 4) (hg : g < 10) (hG : G / 2 ^ g % 2 = 1) (hp : 0 < gw_ m 0 N a g) : CV m N G (4 * g + (a + 1)) (n + 1) (ex_ A n (gw_ m 0 N a g)) (ex_ w n (fs_ m N a g)) := by
  obtain ⟨h1, h2, h3⟩ := h
  refine ⟨by omega, fun r hr => ?_, fun a' g' ha' hg' ht hG' hp' => ?_⟩
  · by_cases c : r = n
    · rw [c, ex_n, ex_n]
      exact ⟨a, g, ha, hg, hG, hp, rfl, rfl⟩
    · rw [ex_ne c, ex_ne c]
      exact h2 r (by omega)
  · by_cases c : 4 * g' + a' < 4 * g + a
    · obtain ⟨r, r1, r2, r3⟩ := h3 a' g' ha' hg' c hG' hp'
      refine ⟨r, by omega, ?_, ?_⟩
      · rw [ex_ne (by omega)]; exact r2
      · rw [ex_ne (by omega)]; exact r3
    · have : a' = a ∧ g' = g := by omega
      rw [this.1, this.2]
      exact ⟨n, by omega, ex_n, ex_n⟩
/-- the class's rows, up to t -/
def RB (m : ro_Mem) (N G t : Nat) (M : ro_Mem) : Prop := (∀ o, ¬ (76 ≤ o ∧ o ≤ 198) → M o = m o) ∧ ∃ n A w, NW n A w (fun _ => 0) M ∧ CV m N G t n A w
theorem rt_rows {m : ro_Mem} {N : Nat} (hw : Wd m N) (hE : EVC m N m) {G : Nat} (hG : G < 1024) {v2 : Int32} : ∃ M, fl_X11_nails_32 (nI G) v2 (0, ro_set m 76 2 0) = some M ∧ RB m N G 40 M := by
  have hN32 : N ≤ 32 := hw.2.2.2.2.2
  have h0 : RB m N G (4 * 0) (ro_set m 76 2 0) := ⟨fun o ho => ro_set_ne _ _ _ (by omega), 0, fun _ => 0, fun _ _ => 0, ⟨by rw [ro_set_same, pk_us]; rfl, by omega, fun r hr => absurd hr (by omega)⟩, by omega, fun r hr => absurd hr (by omega), fun a g _ _ h => absurd h (by omega)⟩
  have key : ∃ M, RB m N G (4 * 10) M ∧ fl_X11_nails_32 (nI G) v2 (0, ro_set m 76 2 0) = some M := by
    unfold fl_X11_nails_32
    refine rt_cnt (fun g (M : ro_Mem) => (nI g, M)) (fun M => M) 10 (fun g M => RB m N G (4 * g) M) ?_ ?_ ro_FU (by decide) _ h0
    · intro g hg rec M hP
      show ∃ s', _ ∧ fb_X11_nails_32 (nI G) v2 rec (nI g) M = rec (nI (g + 1), s')
      unfold fb_X11_nails_32
      have hin : ∃ M', RB m N G (4 * g + 4) M' ∧ fl_X11_nails_41 (nI G) v2 (nI g) (0, M) = some M' := by
        unfold fl_X11_nails_41
        refine rt_cnt (fun a (M : ro_Mem) => (nI a, M)) (fun M => M) 4 (fun a M => RB m N G (4 * g + a) M) ?_ ?_ ro_FU (by decide) M hP
        · intro a ha rec M hP
          obtain ⟨hM, n, A, w, hNW, hCV⟩ := hP
          show ∃ s', _ ∧ fb_X11_nails_41 (nI G) v2 (nI g) rec (nI a) M = rec (nI (a + 1), s')
          have hgw := gw_le (m := m) hN32 0 a g
          unfold fb_X11_nails_41 fj_X11_nails_67
          rw [if_neg (show ¬ (4 : Int32) ≤ nI a from nI_ge (b := 4) ha (by decide)), rt_shr1 (by omega) (by omega), nI_1]
          by_cases cG : G / 2 ^ g % 2 = 1
          · rw [if_pos (show nI (G / 2 ^ g % 2) = 1 by rw [cG]; rfl), rt_wogG (S := st_ m) (f := ev_W m N) (fun a g ha hg => by rw [hM 11 (by omega)]; exact ⟨(hw.st ha hg).1, (hw.st ha hg).2.1⟩) (fun a s ha hs => by rw [hM 65 (by omega)]; exact hE.2.2.2.2.1 a s ha hs) hg ha, Option.bind_some]
            show ∃ s', _ ∧ (if nI (gw_ m 0 N a g) ≤ 0 then _ else _) = _
            by_cases c0 : gw_ m 0 N a g = 0
            · rw [if_pos (show nI (gw_ m 0 N a g) ≤ 0 by rw [c0]; exact Int32.le_refl _)]
              exact ⟨M, ⟨hM, n, A, w, hNW, hCV.skip ha (fun h => by omega)⟩, rfl⟩
            · obtain ⟨s1, s2, -, -⟩ := hw.st ha hg
              have hn40 : n < 40 := by have := hCV.1; omega
              obtain ⟨M', e, o, hN'⟩ := rt_addRow (x := gw_ m 0 N a g) (a := a) (s := st_ m a g) hw hE (fun o ho => hM o (by omega)) hNW hn40 (by omega) ha (by omega)
              rw [if_neg (nI_nle (by omega) (by omega)), rt_e10, if_pos (rt_in (n := 40) (by omega) (by decide)), nI_clamp (show 10 * a + g < 2 ^ 31 by omega), hM 11 (by omega), s1]
              show ∃ s', _ ∧ ((fn_X4_add (nI (gw_ m 0 N a g)) (nI a) (nI (st_ m a g)) M).bind _) = _
              rw [e, Option.bind_some]
              exact ⟨M', ⟨fun o' ho => by rw [o o' ho, hM o' ho], n + 1, _, _, hN', hCV.put ha hg cG (by omega)⟩, rfl⟩
          · rw [if_neg (show ¬ nI (G / 2 ^ g % 2) = 1 from fun q => cG ((nI_eq (b := 1) (by omega) (by decide)).mp q)), if_pos (Int32.le_refl _)]
            exact ⟨M, ⟨hM, n, A, w, hNW, hCV.skip ha (fun h => cG h.1)⟩, rfl⟩
        · intro rec M _
          rfl
      obtain ⟨M', hP', e'⟩ := hin
      rw [if_neg (show ¬ (10 : Int32) ≤ nI g from nI_ge (b := 10) hg (by decide)), e', Option.bind_some, nI_1]
      exact ⟨M', by rw [show 4 * (g + 1) = 4 * g + 4 by omega]; exact hP', rfl⟩
    · intro rec M _
      rfl
  obtain ⟨M, h1, h2⟩ := key
  exact ⟨M, h2, h1⟩
/-- a set of slates, nailed, keeps all told guests dry -/
def OkG (m : ro_Mem) (N G S : Nat) : Prop := S < 65536 ∧ ∀ a g, a < 4 → g < 10 → G / 2 ^ g % 2 = 1 → gw_ m 0 N a g ≤ gq_ (fs_ m N a g) S
theorem rt_nailsC {m : ro_Mem} {N : Nat} (hw : Wd m N) (hE : EVC m N m) {G : Nat} (hG : G < 1024) {v2 : Int32} : ∃ M S M', fl_X11_nails_32 (nI G) v2 (0, ro_set m 76 2 0) = some M ∧ fn_X4_solve M = some (nI S, M') ∧ LexMin (OkG m N G) S ∧ (∀ o, ¬ (76 ≤ o ∧ o ≤ 198) → M' o = m o) := by
  obtain ⟨M, e, hM, n, A, w, hN, hC1, hC2, hC3⟩ := rt_rows hw hE hG (v2 := v2)
  have hA : ∀ r, r < n → A r ≤ sp_sum (w r) 16 := fun r hr => by
    obtain ⟨a, g, ha, hg, -, hp, e1, e2⟩ := hC2 r hr
    rw [e1, e2]
    unfold gw_ fs_
    by_cases c : st_ m a g < 96
    · rw [if_pos c, ← ev_al_s]
      unfold ev_wt
      omega
    · rw [if_neg c]; omega
  obtain ⟨S, M', e2, hL, o⟩ := rt_solve hN hA
  have iff : ∀ S, OkS n A w S ↔ OkG m N G S := fun S => by
    constructor
    · rintro ⟨x1, x2⟩
      refine ⟨x1, fun a g ha hg hGg => ?_⟩
      by_cases c : 0 < gw_ m 0 N a g
      · obtain ⟨r, r1, r2, r3⟩ := hC3 a g ha hg (by omega) hGg c
        have := x2 r r1
        rw [r2, r3] at this
        exact this
      · omega
    · rintro ⟨x1, x2⟩
      refine ⟨x1, fun r hr => ?_⟩
      obtain ⟨a, g, ha, hg, hGg, -, r2, r3⟩ := hC2 r hr
      rw [r2, r3]
      exact x2 a g ha hg hGg
  refine ⟨M, S, M', e, e2, ⟨(iff S).mp hL.1, fun S' hS' => hL.2 S' ((iff S').mpr hS')⟩, fun o' ho => by rw [o o' (by omega) (by omega), hM o' ho]⟩
