-- ===== seated =====
theorem rt_guestsM {V m : ro_Mem} {N a G n : Nat} {sq : Nat → Nat} {v3 v4 : Int32} (hw : Wd V N) (hL : LM V 0 N m) (ha : a < 4) (hG : G < 1024) (hn : cb_ G 10 = n) (hn8 : n ≤ 8) (h247 : ∀ j, j < n → m 247 j = nI (sq j) ∧ sq j < 96) : ∃ M, fl_X12_seated_130 (nI a) (nI G) v3 v4 (0, 0, m) = some M ∧ (∀ o, ¬ o = 248 → ¬ o = 249 → M o = m o) ∧ ∀ h, h < n → M 248 h = nI (gE G h) ∧ M 249 h = nI (ev_wt V 0 N a (sq h)) := by
  have hl := rt_cnt (b := fun rec (s : Int32 × Int32 × ro_Mem) => fb_X12_seated_130 (nI a) (nI G) v3 v4 rec s.1 s.2.1 s.2.2) (fun g (M : ro_Mem) => (nI (cb_ G g), nI g, M)) (fun M => M) 10 (fun g M => (∀ o, ¬ o = 248 → ¬ o = 249 → M o = m o) ∧ ∀ h, h < cb_ G g → M 248 h = nI (gE G h) ∧ M 249 h = nI (ev_wt V 0 N a (sq h))) (fun g hg rec M hP => by
    obtain ⟨p1, p2⟩ := hP
    show ∃ s', _ ∧ fb_X12_seated_130 (nI a) (nI G) v3 v4 rec (nI (cb_ G g)) (nI g) M = rec (nI (cb_ G (g + 1)), nI (g + 1), s')
    have hcs : cb_ G (g + 1) ≤ n := by rw [← hn]; exact cb_mono (by omega)
    have hs := cb_s G g
    by_cases cb : G / 2 ^ g % 2 = 1
    · have hgx := gE_cb hg cb
      rw [cb] at hs
      rw [hs] at hcs ⊢
      generalize cb_ G g = x at *
      obtain ⟨z1, z2⟩ := h247 x (by omega)
      obtain ⟨M1, e1⟩ : ∃ M1, M1 = ro_set M 248 x (nI g) := ⟨_, rfl⟩
      have n1 : ∀ o, ¬ o = 248 → M1 o = M o := fun o h => by rw [e1, ro_set_ne _ _ _ h]
      have hL1 : LM V 0 N M1 := hL.put (fun o ho => by rw [n1 o (by omega), p1 o (by omega) (by omega)]) (by rw [n1 207 (by decide), p1 207 (by decide) (by decide)])
      have x247 : M1 247 x = nI (sq x) := by rw [n1 247 (by decide), p1 247 (by decide) (by decide)]; exact z1
      refine ⟨ro_set M1 249 x (nI (ev_wt V 0 N a (sq x))), ⟨fun o h1 h2 => by rw [ro_set_ne _ _ _ h2, n1 o h1]; exact p1 o h1 h2, fun h hh => ?_⟩, ?_⟩
      · rw [ro_set_ne _ _ _ (by decide), e1, ro_set_same, ro_set_same, ro_set_ne _ _ _ (by decide)]
        by_cases eh : h = x
        · rw [eh, pk_us, pk_us, hgx]
          exact ⟨rfl, rfl⟩
        · rw [pk_un eh, pk_un eh]
          exact p2 h (by omega)
      · unfold fb_X12_seated_130
        rw [if_neg (show ¬ (10 : Int32) ≤ nI g from nI_ge hg (by decide)), rt_has (by omega) (by omega), Option.bind_some, cb, if_neg (show ¬ nI 1 = 0 by decide), if_pos (rt_in (n := 8) (by omega) (by decide)), nI_clamp (show x < 2 ^ 31 by omega), ro_lt, ← e1, x247, rt_wetOn hw hL1 ha z2, Option.bind_some, ro_lt, nI_1, ro_lt, nI_1]
    · have h0 : G / 2 ^ g % 2 = 0 := by omega
      rw [h0] at hs
      have hs : cb_ G (g + 1) = cb_ G g := by omega
      rw [hs]
      refine ⟨M, ⟨p1, p2⟩, ?_⟩
      unfold fb_X12_seated_130
      rw [if_neg (show ¬ (10 : Int32) ≤ nI g from nI_ge hg (by decide)), rt_has (by omega) (by omega), Option.bind_some, h0, if_pos (show nI 0 = 0 from rfl), nI_1]) (fun rec M _ => by
    show fb_X12_seated_130 (nI a) (nI G) v3 v4 rec (nI (cb_ G 10)) (nI 10) M = _
    unfold fb_X12_seated_130
    rw [if_pos (show (10 : Int32) ≤ nI 10 from Int32.le_refl _)]) ro_FU (by decide) m ⟨fun _ _ _ => rfl, fun h hh => absurd hh (Nat.not_lt_zero _)⟩
  obtain ⟨M, ⟨m1, m2⟩, m3⟩ := hl
  exact ⟨M, m3, m1, fun h hh => m2 h (by omega)⟩
theorem iv_G.take {rk st mrk mst : Nat → Int32} {told mtold : Int32} (h : iv_G rk st mrk mst told mtold) {a G n : Nat} {s : Nat → Nat} (ha : a < 4) (hn : cb_ G 10 = n) (hGt : ∀ g, g < 10 → G / 2 ^ g % 2 = 1 → bt told g = true) (hs : ∀ h, h < n → s h < 96) (hd : ∀ i j, i < n → j < n → s i = s j → i = j) (hf : ∀ x h, x < 10 → h < n → ¬ G / 2 ^ x % 2 = 1 → ¬ st (10 * a + x) = nI (s h)) : iv_G rk (pt_ a (gE G) s st n) mrk (pt_ a (gE G) s mst n) told mtold := by
  have hcl : ∀ x, x < 10 → G / 2 ^ x % 2 = 1 → cb_ G x < n := fun x hx hb => by rw [← hn]; exact cb_lt hx hb
  have v1 : ∀ (st : Nat → Int32) b x, x < 10 → (b = a ∧ G / 2 ^ x % 2 = 1) → pt_ a (gE G) s st n (10 * b + x) = nI (s (cb_ G x)) := fun st b x hx hb => by
    have := pt_yes (a := a) (ge := gE G) (s := s) (st := st) n (cb_ G x) (hcl x hx hb.2) (fun i h1 h2 q => by
      have := gE_inj (by omega) (by have := hcl x hx hb.2; omega) q
      omega)
    rw [gE_cb hx hb.2] at this
    rw [hb.1]
    exact this
  have v0 : ∀ (st : Nat → Int32) b x, x < 10 → ¬ (b = a ∧ G / 2 ^ x % 2 = 1) → pt_ a (gE G) s st n (10 * b + x) = st (10 * b + x) := fun st b x hx hb => pt_no n (fun h hh q => by
    obtain ⟨g1, g2, -⟩ := gE_ok (G := G) (h := h) (by omega)
    have : x = gE G h := by omega
    exact hb ⟨by omega, by rw [this]; exact g2⟩)
  obtain ⟨h1, h2, h3, h4, h5, h6⟩ := h
  refine ⟨h1, h2, h3, fun b x hb hx ht => ?_, fun b x hb hx => ?_, fun b x y hb hx hy he hne => ?_⟩
  · by_cases c : b = a ∧ G / 2 ^ x % 2 = 1
    · rw [v1 _ b x hx c, v1 _ b x hx c]
    · rw [v0 _ b x hx c, v0 _ b x hx c]; exact h4 b x hb hx ht
  · by_cases c : b = a ∧ G / 2 ^ x % 2 = 1
    · rw [v1 _ b x hx c]
      exact Or.inr ⟨hGt x hx c.2, _, hs _ (hcl x hx c.2), rfl⟩
    · rw [v0 _ b x hx c]; exact h5 b x hb hx
  · by_cases c : b = a ∧ G / 2 ^ x % 2 = 1
    · rw [v1 _ b x hx c] at he
      have hsx := hs _ (hcl x hx c.2)
      by_cases c2 : b = a ∧ G / 2 ^ y % 2 = 1
      · rw [v1 _ b y hy c2] at he
        have hsy := hs _ (hcl y hy c2.2)
        have := hd _ _ (hcl x hx c.2) (hcl y hy c2.2) ((nI_eq (by omega) (by omega)).mp he)
        exact cb_inj c.2 c2.2 this
      · rw [v0 _ b y hy c2, c.1] at he
        exact absurd he.symm (hf y _ hy (hcl x hx c.2) (fun q => c2 ⟨c.1, q⟩))
    · rw [v0 _ b x hx c] at he hne
      by_cases c2 : b = a ∧ G / 2 ^ y % 2 = 1
      · rw [v1 _ b y hy c2, c2.1] at he
        exact absurd he (hf x _ hx (hcl y hy c2.2) (fun q => c ⟨c2.1, q⟩))
      · rw [v0 _ b y hy c2] at he
        exact h6 b x y hb hx hy he hne
section
variable {μ : ro_Mem} {N a G n : Nat} {S : Nat → Nat} {v4 : Int32}
def SGd (μ : ro_Mem) (a G n : Nat) (S : Nat → Nat) : Prop := ∀ t, t < n → (bd_ S t || tk_ μ a G (S t)) = false
def SBd (μ : ro_Mem) (a G n : Nat) (S : Nat → Nat) : Prop := ∃ t, t < n ∧ (bd_ S t || tk_ μ a G (S t)) = true
def rkF (μ : ro_Mem) (G : Nat) : Nat → Nat := fun h => rk_ μ (gE G h)
def wtF (μ : ro_Mem) (N a n : Nat) (S : Nat → Nat) : Nat → Nat := fun q => ev_wt μ 0 N a (sq_ S n q)
def sF (μ : ro_Mem) (N a G n : Nat) (S : Nat → Nat) : Nat → Nat := fun h => sq_ S n (qe_ n (rkF μ G) (wtF μ N a n S) h)
theorem rt_seatedM {M1 m0 : ro_Mem} {T : Nat} (hI : Inv μ) (hw : Wd μ N) (ha : a < 4) (hG : G < 1024) (hn : cb_ G 10 = n) (h1n : 1 ≤ n) (hn8 : n ≤ 8) (hT : n ≤ T) (hT2 : T ≤ 220) (hGm : (nI G &&& (μ 2 11 ^^^ (-1))) = 0) (hGt : ∀ g, g < 10 → G / 2 ^ g % 2 = 1 → bt (μ 2 11) g = true) (hS : ∀ t, t < n → (μ 217 t &&& 255) = nI (S t) ∧ S t < 256) (h0 : Ivt m0 N) (hf : Fr μ m0) (he : ∀ o, ¬ o = 11 → M1 o = m0 o) (h61 : m0 61 = μ 61) (h217 : m0 217 = μ 217) (h60 : m0 60 1 = 0) (h13 : m0 207 13 = nI T) : ∃ r M2, fj_X12_seated_39 (nI a) (nI G) (nI n) v4 1 M1 = some (r, M2) ∧ M2 11 = M1 11 ∧ M2 2 = μ 2 ∧ Inv (fun o => if o = 11 then μ 11 else if o = 216 then μ 216 else M2 o) ∧ ((SBd μ a G n S ∧ r = -2 ∧ M2 216 = μ 216) ∨ (SGd μ a G n S ∧ r = tl_ v4 (nI (cd_ n (rkF μ G) (wtF μ N a n S) n 0)) (gE G) (sF μ N a G n S) n ∧ M2 216 = if v4 = 11 then pt_ a (gE G) (sF μ N a G n S) (μ 216) n else μ 216)) := by
  obtain ⟨w1, w2⟩ := h0.eatM
  have hV := hf.trans w2
  obtain ⟨V1, eV1⟩ : ∃ V1, V1 = ro_set m0 207 13 0 := ⟨_, rfl⟩
  rw [← eV1] at w1 hV
  obtain ⟨m15, e15⟩ : ∃ m15, m15 = ro_set M1 207 13 0 := ⟨_, rfl⟩
  have hmV : ∀ o, ¬ o = 11 → m15 o = V1 o := fun o ho => by
    by_cases c : o = 207
    · rw [c, e15, eV1, ro_set_same, ro_set_same, he 207 (by decide)]
    · rw [e15, eV1, ro_set_ne _ _ _ c, ro_set_ne _ _ _ c, he o ho]
  have hm11 : m15 11 = M1 11 := by rw [e15, ro_set_ne _ _ _ (by decide)]
  have hB : ∀ M2 : ro_Mem, (∀ o, ¬ qy_s o → ¬ o = 11 → ¬ o = 216 → ¬ o = 207 → M2 o = V1 o) → (∀ k, ¬ k = 63 → M2 207 k = V1 207 k) → Inv (fun o => if o = 11 then μ 11 else if o = 216 then μ 216 else M2 o) := fun M2 h1 h2 => by
    have hb : ∀ o, ¬ qy_s o → ¬ o = 207 → (fun o => if o = 11 then μ 11 else if o = 216 then μ 216 else M2 o) o = V1 o := fun o ho h7 => by
      show (if o = 11 then μ 11 else if o = 216 then μ 216 else M2 o) = V1 o
      by_cases c1 : o = 11
      · rw [if_pos c1, c1]; exact (hV.1 11 (by unfold fr_id; omega)).symm
      · rw [if_neg c1]
        by_cases c2 : o = 216
        · rw [if_pos c2, c2]; exact (hV.1 216 (by unfold fr_id; omega)).symm
        · rw [if_neg c2]; exact h1 o ho c1 c2 h7
    have hb7 : (fun o => if o = 11 then μ 11 else if o = 216 then μ 216 else M2 o) 207 = M2 207 := rfl
    generalize (fun o => if o = 11 then μ 11 else if o = 216 then μ 216 else M2 o) = B at hb hb7
    obtain ⟨x1, x2⟩ := w1.put (M := B) (fun o ho h7 => hb o (fun q => ho (Or.inl q)) h7) (fun k hk => by rw [hb7]; exact h2 k (by unfold fr_k at hk; omega))
    refine hI.eaten x1 (hV.trans x2) ?_ ?_ ?_ ?_
    · rw [hb 61 (by unfold qy_s; omega) (by decide), eV1, ro_set_ne _ _ _ (by decide), h61]
    · rw [hb 217 (by unfold qy_s; omega) (by decide), eV1, ro_set_ne _ _ _ (by decide), h217]
    · rw [hb 60 (by unfold qy_s; omega) (by decide), eV1, ro_set_ne _ _ _ (by decide), h60]
    · rw [hb7, h2 13 (by decide), eV1, ro_set_same, pk_us]
  have hGne : ¬ G = 0 := fun q => by
    rw [q, cb_10 (by decide), (gq_0 (w := fun _ => 0)).2] at hn
    omega
  have h2072 : M1 207 2 = μ 2 11 := by rw [he 207 (by decide), hf.2.2 2 (by unfold fr_k; omega)]; exact hw.gst
  have hin : fn_X12_in (nI n) 1 8 = some 1 := by
    have := rt_inI (a := 1) (n := 8) (j := n - 1) (by decide) (by omega)
    rw [show 1 + (n - 1) = n by omega] at this
    exact this
  have tkV : ∀ v, tk_ V1 a G v = tk_ μ a G v := fun v => by unfold tk_ who_; rw [hV.1 11 (by unfold fr_id; omega)]
  have head : fj_X12_seated_39 (nI a) (nI G) (nI n) v4 1 M1 = ((fn_X12_takesSeats (nI a) (nI G) (nI n) m15).bind fun q17 => if q17.1 = 0 then (some ((-2), q17.2)) else ((fn_X12_laysDrops q17.2).bind fun q20 => ro_lt (ro_set q20 207 63 (nI n)) fun m22 => (fl_X12_seated_130 (nI a) (nI G) (nI n) v4 (0, 0, m22)).bind fun q37 => (fn_X12_laysSeated q37).bind fun q39 => ro_lt (q39 250 (0 : Int32).toNatClampNeg) fun z41 => (fl_X12_seated_211 (nI a) (nI n) v4 (0, z41, 0, q39)).bind fun q59 => some (q59.1, q59.2))) := by
    unfold fj_X12_seated_39
    rw [(rt_actY ha).2, Option.bind_some, if_neg rt_10, if_neg (show ¬ nI G < 1 from nI_nlt (b := 1) (by omega) (by omega)), h2072, if_pos hGm, rt_bitsM (by omega), Option.bind_some, ← cb_10 hG, hn, if_pos rfl, hin, Option.bind_some, if_neg rt_10, if_neg rt_10, he 207 (by decide), h13, if_pos (nI_le hT (by omega)), ro_lt, ← e15]
  obtain ⟨M17, f17, hts⟩ := rt_takesSeats (V := V1) (m := m15) (S := S) w1.1 ha hG (hmV 216 (by decide)) (by rw [hmV 207 (by decide)]) hn8 (fun t ht => by
    rw [hmV 217 (by decide), eV1, ro_set_ne _ _ _ (by decide), h217]
    exact hS t ht)
  have g17 : ∀ o, ¬ o = 11 → ¬ o = 247 → M17 o = V1 o := fun o h1 h2 => by rw [f17 o h2, hmV o h1]
  rcases hts with ⟨t, t1, t2, t3⟩ | ⟨t1, t3, t4⟩
  · rw [t3, Option.bind_some] at head
    rw [tkV] at t2
    exact ⟨-2, M17, head, by rw [f17 11 (by decide), hm11], by rw [g17 2 (by decide) (by decide)]; exact hV.1 2 (by unfold fr_id; omega), hB M17 (fun o h1 h2 h3 h4 => g17 o h2 (fun q => h1 (by unfold qy_s; omega))) (fun k _ => by rw [g17 207 (by decide) (by decide)]), Or.inl ⟨⟨t, t1, t2⟩, rfl, by rw [g17 216 (by decide) (by decide)]; exact hV.1 216 (by unfold fr_id; omega)⟩⟩
  · have hGd : SGd μ a G n S := fun t ht => by have := t1 t ht; rw [tkV] at this; exact this
    have hbd : ∀ t, t < n → bd_ S t = false := fun t ht => by
      have := hGd t ht
      cases hx : bd_ S t
      · rfl
      · rw [hx, Bool.true_or] at this; cases this
    have hSd : Sd S (sq_ S n) n := by
      obtain ⟨M, -, hc⟩ := rt_takeSeats (m := fun _ t => nI (S t)) (S := S) hn8 (fun t ht => ⟨rfl, (hS t ht).2⟩)
      rcases hc with ⟨t, x1, x2, -⟩ | ⟨-, -, -, -, x5⟩
      · rw [hbd t x1] at x2; cases x2
      · exact x5
    have hsq : ∀ j, j < n → sq_ S n j < 96 := fun j hj => by
      obtain ⟨t, x1, x2⟩ := hSd.2.1 j hj
      rw [x2]
      exact (bd_f (hbd t x1)).1
    rw [t3, Option.bind_some] at head
    obtain ⟨V2, eV2⟩ : ∃ V2 : ro_Mem, V2 = fun o => if o = 247 then M17 247 else V1 o := ⟨_, rfl⟩
    have nV2 : ∀ o, ¬ o = 247 → V2 o = V1 o := fun o ho => by rw [eV2]; exact if_neg ho
    obtain ⟨x1, x2⟩ := w1.put (M := V2) (fun o ho _ => nV2 o (fun q => ho (Or.inl (by unfold qy_s; omega)))) (fun k _ => by rw [nV2 207 (by decide)])
    have hV2 := hV.trans x2
    have hR0 : ∀ o, 207 ≤ o → M17 o = V2 o := fun o ho => by
      by_cases c : o = 247
      · rw [c, eV2]; rfl
      · rw [nV2 o c, g17 o (by omega) c]
    obtain ⟨q20, e20, p1, p2⟩ := rt_lays2 hR0 x1.1 x1.2.2
    obtain ⟨m22, e22⟩ : ∃ m22, m22 = ro_set q20 207 63 (nI n) := ⟨_, rfl⟩
    have n22 : ∀ o, ¬ o = 207 → m22 o = q20 o := fun o ho => by rw [e22, ro_set_ne _ _ _ ho]
    have b22 : ∀ o, ¬ (239 ≤ o ∧ o ≤ 242) → ¬ o = 207 → m22 o = M17 o := fun o h1 h2 => by rw [n22 o h2, p1 o (by omega) (by omega) (by omega) (by omega)]
    have k22 : ∀ k, ¬ k = 63 → m22 207 k = V1 207 k := fun k hk => by rw [e22, ro_set_same, pk_un hk, p1 207 (by decide) (by decide) (by decide) (by decide), g17 207 (by decide) (by decide)]
    have hLM : LM V2 0 N m22 := by
      refine ⟨fun i k hi hk => ?_, ?_, ?_, ?_, ?_, ?_⟩
      · have := p2 (16 * i + k) (by omega)
        rw [show (16 * i + k) / 16 = i by omega, show (16 * i + k) % 16 = k by omega] at this
        rw [n22 241 (by decide), n22 242 (by decide)]
        exact this
      · rw [b22 222 (by omega) (by decide)]; exact hR0 222 (by decide)
      · rw [b22 211 (by omega) (by decide)]; exact hR0 211 (by decide)
      · rw [b22 208 (by omega) (by decide)]; exact hR0 208 (by decide)
      · rw [b22 209 (by omega) (by decide)]; exact hR0 209 (by decide)
      · rw [k22 18 (by decide), nV2 207 (by decide)]
    obtain ⟨q37, e37, f37, g37⟩ := rt_guestsM (sq := sq_ S n) (v3 := nI n) (v4 := v4) x1.1 hLM ha hG hn hn8 (fun j hj => ⟨by rw [b22 247 (by omega) (by decide)]; exact t4 j hj, hsq j hj⟩)
    have hN : N ≤ 32 := hw.2.2.2.2.2
    have hR : RPl n (gE G) (rkF μ G) (wtF μ N a n S) q37 := by
      refine ⟨by rw [f37 207 (by decide) (by decide), e22, ro_set_same, pk_us], fun h hh => ?_, fun q hq => ⟨?_, ?_⟩⟩
      · obtain ⟨y1, y2, -⟩ := gE_ok (G := G) (h := h) (by omega)
        obtain ⟨-, y4, y5, -⟩ := hw.rk y1 (hGt _ y1 y2)
        refine ⟨(g37 h hh).1, y1, ?_, y5⟩
        rw [f37 215 (by decide) (by decide), b22 215 (by omega) (by decide), g17 215 (by decide) (by decide), hV.1 215 (by unfold fr_id; omega)]
        exact y4
      · rw [(g37 q hq).2, (hV2.wt hw.2.1 N).1]; rfl
      · exact ev_wt_le μ 0 hN a _
    obtain ⟨q39, e39, f39, g39⟩ := rt_laysSeated hR hn8 h1n
    have hR2 : RPl n (gE G) (rkF μ G) (wtF μ N a n S) q39 := hR.put (by rw [f39 207 (by decide)]) (f39 248 (by decide)) (f39 249 (by decide)) (f39 215 (by decide))
    have b39 : ∀ o, ¬ (239 ≤ o ∧ o ≤ 250) → ¬ o = 207 → q39 o = M17 o := fun o h1 h2 => by rw [f39 o (by omega), f37 o (by omega) (by omega), b22 o (by omega) h2]
    have k39 : ∀ k, ¬ k = 63 → q39 207 k = V1 207 k := fun k hk => by rw [f39 207 (by decide), f37 207 (by decide) (by decide), k22 k hk]
    have z41 : q39 250 (0 : Int32).toNatClampNeg = nI (cd_ n (rkF μ G) (wtF μ N a n S) n 0) := g39 0 0 (by omega) (Nat.two_pow_pos n)
    obtain ⟨M2, e2, f2, g2⟩ := rt_takeAll hR2 hn8 g39 (sq := sq_ S n) ha (fun q hq => by
      rw [f39 247 (by decide), f37 247 (by decide) (by decide), b22 247 (by omega) (by decide)]
      exact t4 q hq) v4 (nI (cd_ n (rkF μ G) (wtF μ N a n S) n 0))
    have h216 : q39 216 = μ 216 := by rw [b39 216 (by omega) (by decide), g17 216 (by decide) (by decide)]; exact hV.1 216 (by unfold fr_id; omega)
    rw [h216] at g2
    refine ⟨_, M2, ?_, by rw [f2 11 (by decide), b39 11 (by omega) (by decide), f17 11 (by decide), hm11], by rw [f2 2 (by decide), b39 2 (by omega) (by decide), g17 2 (by decide) (by decide)]; exact hV.1 2 (by unfold fr_id; omega), hB M2 (fun o h1 h2 h3 h4 => ?_) (fun k hk => by rw [f2 207 (by decide), k39 k hk]), Or.inr ⟨hGd, rfl, g2⟩⟩
    · have e20 : fn_X12_laysDrops ((1 : Int32), M17).2 = some q20 := e20
      rw [head, if_neg rt_10, e20, Option.bind_some, ro_lt, ← e22, e37, Option.bind_some, e39, Option.bind_some, z41, ro_lt, e2, Option.bind_some]
      rfl
    · have : ¬ (239 ≤ o ∧ o ≤ 250) := fun q => h1 (by unfold qy_s; omega)
      rw [f2 o h3, b39 o this h4, g17 o h2 (by omega)]
theorem rt_seatedC {t0 : Int32} (hI : Inv μ) (hw : Wd μ N) (ha : a < 4) (hG : G < 1024) (hn : cb_ G 10 = n) (h1n : 1 ≤ n) (hn8 : n ≤ 8) (hGt : ∀ g, g < 10 → G / 2 ^ g % 2 = 1 → bt (μ 2 11) g = true) (hS : ∀ t, t < n → μ 61 t = nI (S t) ∧ S t < 256) (h4 : (t0 = 0 ∧ (v4 = 10 ∨ v4 = 11)) ∨ (t0 = 1 ∧ ∃ w, w < 10 ∧ v4 = nI w ∧ G / 2 ^ w % 2 = 1)) : ∃ r M1 m0, fj_X11_seated_92 (nI a) (nI G) (nI n) v4 t0 μ = some (r, M1) ∧ (∀ o, ¬ o = 11 → M1 o = m0 o) ∧ Ivt m0 N ∧ Fr μ m0 ∧ m0 61 = μ 61 ∧ m0 217 = μ 217 ∧ m0 60 1 = 0 ∧ m0 207 13 = μ 207 13 ∧ ((SBd μ a G n S ∧ r = -2 ∧ M1 11 = μ 11) ∨ (SGd μ a G n S ∧ Sd S (sq_ S n) n ∧ r = tl_ v4 (nI (cd_ n (rkF μ G) (wtF μ N a n S) n 0)) (gE G) (sF μ N a G n S) n ∧ M1 11 = if v4 = 11 then pt_ a (gE G) (sF μ N a G n S) (μ 11) n else μ 11)) := by
  obtain ⟨q1, q2⟩ := (hI.ivt hw).eat
  obtain ⟨M16, f16, hts⟩ := rt_takeSeats (m := ro_set μ 60 1 0) (S := S) hn8 (fun t ht => by rw [ro_set_ne _ _ _ (by decide)]; exact hS t ht)
  have b16 : ∀ o, ¬ (69 ≤ o ∧ o ≤ 70) → ¬ o = 60 → M16 o = μ o := fun o h1 h2 => by rw [f16 o h1, ro_set_ne _ _ _ h2]
  have c16 : M16 60 1 = 0 := by rw [f16 60 (by omega), ro_set_same, pk_us]
  obtain ⟨i1, i2⟩ := q1.put (M := M16) (fun o ho _ => f16 o (fun q => ho (Or.inl (by unfold qy_s; omega)))) (fun k _ => by rw [f16 207 (by omega)])
  have hf16 := q2.trans i2
  have head : fj_X11_seated_92 (nI a) (nI G) (nI n) v4 t0 μ = ((fn_X6_takeSeats (nI n) (ro_set μ 60 1 0)).bind fun q16 => if q16.1 = 0 then (some ((-2), q16.2)) else ((fn_X11_isAnyTaken (nI a) (nI G) q16.2).bind fun q19 => if q19 = 0 then ((fn_X11_refresh q16.2).bind fun q22 => (fn_X6_solve 2 (nI G) (nI a) q22).bind fun q24 => if v4 = 11 then ((fn_X6_putInto 2 (nI a) q24).bind fun q30 => fj_X11_seated_173 v4 t0 q30) else (fj_X11_seated_173 v4 t0 q24)) else (some ((-2), q16.2)))) := rfl
  rcases hts with ⟨t, t1, t2, t3⟩ | ⟨t1, t3, t4, t5, hSd⟩
  · rw [t3, Option.bind_some] at head
    exact ⟨-2, M16, M16, head, fun _ _ => rfl, i1, hf16, b16 61 (by omega) (by decide), b16 217 (by omega) (by decide), c16, by rw [b16 207 (by omega) (by decide)], Or.inl ⟨⟨t, t1, by rw [t2]; rfl⟩, rfl, b16 11 (by omega) (by decide)⟩⟩
  · have hsq : ∀ j, j < n → sq_ S n j < 96 := fun j hj => by
      obtain ⟨t, x1, x2⟩ := hSd.2.1 j hj
      rw [x2]
      exact (bd_f (t1 t x1)).1
    rw [t3, Option.bind_some] at head
    have head : fj_X11_seated_92 (nI a) (nI G) (nI n) v4 t0 μ = ((fn_X11_isAnyTaken (nI a) (nI G) M16).bind fun q19 => if q19 = 0 then ((fn_X11_refresh M16).bind fun q22 => (fn_X6_solve 2 (nI G) (nI a) q22).bind fun q24 => if v4 = 11 then ((fn_X6_putInto 2 (nI a) q24).bind fun q30 => fj_X11_seated_173 v4 t0 q30) else (fj_X11_seated_173 v4 t0 q24)) else (some ((-2), M16))) := head
    rcases rt_anyTaken (m := μ) (b16 11 (by omega) (by decide)) ha hG hn8 t4 (fun j hj => ⟨t5 j hj, hsq j hj⟩) with ⟨⟨j, j1, j2⟩, j3⟩ | ⟨j1, j3⟩
    · rw [j3, Option.bind_some, if_neg rt_10] at head
      obtain ⟨t, x1, x2⟩ := hSd.2.1 j j1
      exact ⟨-2, M16, M16, head, fun _ _ => rfl, i1, hf16, b16 61 (by omega) (by decide), b16 217 (by omega) (by decide), c16, by rw [b16 207 (by omega) (by decide)], Or.inl ⟨⟨t, x1, by rw [← x2, j2, Bool.or_true]⟩, rfl, b16 11 (by omega) (by decide)⟩⟩
    · have hGd : SGd μ a G n S := fun t ht => by
        obtain ⟨j, x1, x2⟩ := hSd.2.2 t ht
        rw [t1 t ht, ← x2, j1 j x1]
        rfl
      rw [j3, Option.bind_some, if_pos rfl] at head
      obtain ⟨m, em, v1, v2, hE, hof⟩ := rt_fresht i1
      have hfm := hf16.trans v2
      rw [em, Option.bind_some] at head
      have bm : ∀ o, ¬ o = 0 → ¬ (28 ≤ o ∧ o ≤ 29) → ¬ (58 ≤ o ∧ o ≤ 60) → ¬ (63 ≤ o ∧ o ≤ 70) → m o = μ o := fun o h1 h2 h3 h5 => by rw [hof o h1 h2 (by omega) (by omega), b16 o (by omega) (by omega)]
      have h211 : m 2 11 = μ 2 11 := by rw [bm 2 (by decide) (by omega) (by omega) (by omega)]
      have m69 : m 69 1 = nI n := by rw [hof 69 (by decide) (by omega) (by omega) (by omega)]; exact t4
      have m70 : ∀ j, j < n → m 70 j = nI (sq_ S n j) ∧ sq_ S n j < 96 := fun j hj => ⟨by rw [hof 70 (by decide) (by omega) (by omega) (by omega)]; exact t5 j hj, hsq j hj⟩
      obtain ⟨P, eP, fP, gP⟩ := rt_guestsC v1.1 hE ha hG hn hn8 (fun g hg hb => by rw [h211]; exact hGt g hg hb) m69 m70
      have hN : N ≤ 32 := hw.2.2.2.2.2
      have hrkm : ∀ g, rk_ m g = rk_ μ g := fun g => by unfold rk_; rw [hfm.1 10 (by unfold fr_id; omega)]
      have hC : CPl n (rkF μ G) (wtF μ N a n S) P := by
        refine ⟨by rw [fP 69 (by decide) (by decide) (by decide)]; exact m69, fun h hh => ?_, fun q hq => ⟨?_, ?_⟩⟩
        · obtain ⟨y1, y2, -⟩ := gE_ok (G := G) (h := h) (by omega)
          refine ⟨by rw [(gP h hh).2.1, hrkm]; rfl, (hw.rk y1 (hGt _ y1 y2)).2.2.1⟩
        · rw [(gP q hq).2.2, (hfm.wt hw.2.1 N).2.1]; rfl
        · exact ev_wt_le μ 0 hN a _
      obtain ⟨Q, eQ, fQ, gQ, kQ⟩ := rt_plan (sq := sq_ S n) hC hn8 h1n (fun q hq => by rw [fP 70 (by decide) (by decide) (by decide)]; exact (m70 q hq).1)
      have hsolve : fn_X6_solve 2 (nI G) (nI a) m = some Q := by
        unfold fn_X6_solve
        rw [eP, Option.bind_some, eQ]
      rw [hsolve, Option.bind_some] at head
      have bQ : ∀ o, ¬ (71 ≤ o ∧ o ≤ 75) → Q o = m o := fun o ho => by rw [fQ o (by omega) (by omega), fP o (by omega) (by omega) (by omega)]
      have Q69 : Q 69 1 = nI n := by rw [bQ 69 (by omega)]; exact m69
      have Q72 : ∀ h, h < n → Q 72 h = nI (gE G h) ∧ gE G h < 10 := fun h hh => ⟨by rw [fQ 72 (by decide) (by decide)]; exact (gP h hh).1, (gE_ok (by omega)).1⟩
      have Q73 : ∀ h, h < n → Q 73 h = nI (sF μ N a G n S h) := kQ
      obtain ⟨i3, i4⟩ := v1.put (M := Q) (fun o ho _ => bQ o (fun q => ho (Or.inl (by unfold qy_s; omega)))) (fun k _ => by rw [bQ 207 (by omega)])
      have Q11 : Q 11 = μ 11 := by rw [bQ 11 (by omega), bm 11 (by decide) (by omega) (by omega) (by omega)]
      have cm : Ivt Q N ∧ Fr μ Q ∧ Q 61 = μ 61 ∧ Q 217 = μ 217 ∧ Q 60 1 = 0 ∧ Q 207 13 = μ 207 13 := by
        refine ⟨i3, hfm.trans i4, ?_, ?_, ?_, ?_⟩
        · rw [bQ 61 (by omega), bm 61 (by decide) (by omega) (by omega) (by omega)]
        · rw [bQ 217 (by omega), bm 217 (by decide) (by omega) (by omega) (by omega)]
        · rw [bQ 60 (by omega), hof 60 (by decide) (by omega) (by omega) (by omega)]; exact c16
        · rw [bQ 207 (by omega), bm 207 (by decide) (by omega) (by omega) (by omega)]
      have hno : v4 = 10 ∨ v4 = 11 → ∀ h, h < n → ¬ nI (gE G h) = v4 := fun hv h hh q => by
        have hg := (Q72 h hh).2
        rcases hv with e | e
        · have := (nI_eq (a := gE G h) (b := 10) (by omega) (by decide)).mp (q.trans e); omega
        · have := (nI_eq (a := gE G h) (b := 11) (by omega) (by decide)).mp (q.trans e); omega
      rcases h4 with ⟨rfl, hv⟩ | ⟨rfl, w, w1, rfl, w2⟩
      · have e173 : ∀ X : ro_Mem, X 71 = Q 71 → fj_X11_seated_173 v4 0 X = some (tl_ v4 (nI (cd_ n (rkF μ G) (wtF μ N a n S) n 0)) (gE G) (sF μ N a G n S) n, X) := fun X hX => by
          rw [tl_no n (hno hv)]
          unfold fj_X11_seated_173
          rw [if_pos rfl, hX]
          show some (Q 71 0, X) = _
          rw [gQ]
        by_cases c : v4 = 11
        · obtain ⟨X, eX, fX, gX⟩ := rt_putInto ha Q69 hn8 Q72 Q73
          rw [if_pos c, eX, Option.bind_some, e173 X (fX 71 (by decide))] at head
          rw [Q11] at gX
          exact ⟨_, X, Q, head, fX, cm.1, cm.2.1, cm.2.2.1, cm.2.2.2.1, cm.2.2.2.2.1, cm.2.2.2.2.2, Or.inr ⟨hGd, hSd, rfl, by rw [if_pos c]; exact gX⟩⟩
        · rw [if_neg c, e173 Q rfl] at head
          exact ⟨_, Q, Q, head, fun _ _ => rfl, cm.1, cm.2.1, cm.2.2.1, cm.2.2.2.1, cm.2.2.2.2.1, cm.2.2.2.2.2, Or.inr ⟨hGd, hSd, rfl, by rw [if_neg c]; exact Q11⟩⟩
      · have hc : cb_ G w < n := by rw [← hn]; exact cb_lt w1 w2
        have c : ¬ nI w = 11 := fun q => by have := (nI_eq (a := w) (b := 11) (by omega) (by decide)).mp q; omega
        have hso := rt_seatOf (M := Q) (n := n) (w := w) (h0 := cb_ G w) (ge := gE G) (s := sF μ N a G n S) Q69 hn8 Q72 (Q73 _ hc) hc (gE_cb w1 w2) (fun h hh q => by
          have := gE_inj (G := G) (i := h) (j := cb_ G w) (by omega) (by omega) (by rw [q, gE_cb w1 w2])
          omega)
        have htl : tl_ (nI w) (nI (cd_ n (rkF μ G) (wtF μ N a n S) n 0)) (gE G) (sF μ N a G n S) n = nI (sF μ N a G n S (cb_ G w)) := tl_yes n _ hc (by rw [gE_cb w1 w2]) (fun i h1 h2 q => by
          have hg := (Q72 i h2).2
          have q := (nI_eq (by omega) (by omega)).mp q
          have := gE_inj (G := G) (i := i) (j := cb_ G w) (by omega) (by omega) (by rw [q, gE_cb w1 w2])
          omega)
        rw [if_neg c] at head
        unfold fj_X11_seated_173 at head
        rw [if_neg rt_10, hso, Option.bind_some] at head
        exact ⟨_, Q, Q, head, fun _ _ => rfl, cm.1, cm.2.1, cm.2.2.1, cm.2.2.2.1, cm.2.2.2.2.1, cm.2.2.2.2.2, Or.inr ⟨hGd, hSd, htl.symm, by rw [if_neg c]; exact Q11⟩⟩
end
