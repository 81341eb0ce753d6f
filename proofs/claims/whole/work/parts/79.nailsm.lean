-- ===== the reference's rows =====
theorem rt_through {m M : ro_Mem} {N : Nat} (hw : Wd m N) (hL : LM m 0 N M) {v1 v3 : Int32} {a s k : Nat} (ha : a < 4) (hs : s < 96) (hk : k < 16) : fl_X12_laysThrough_90 v1 (nI a) v3 (nI s) (nI k) M (0, 0) = some (nI (ev_fs m 0 N a s k)) := by
  have hN : N ≤ 32 := hw.2.2.2.2.2
  have hn : M 207 18 = nI N := by rw [hL.2.2.2.2.2]; exact hw.notes.1
  have key := rt_sumL (b := fun rec x => fb_X12_laysThrough_90 v1 (nI a) v3 (nI s) (nI k) M rec x.1 x.2) (fun i => ev_fl m 0 a s i k) 0 N 0 (by omega) (fun i hi rec x => by
    rw [Nat.zero_add]
    show fb_X12_laysThrough_90 v1 (nI a) v3 (nI s) (nI k) M rec (nI x) (nI i) = _
    obtain ⟨d1, -⟩ := hL.1 i k hi hk
    have hD9 := ev_D_le m 0 i k
    have hF4 := ev_F_le hw (sh := 0) (k := k) hi
    unfold fb_X12_laysThrough_90
    rw [hn, if_neg (nI_ge hi (by omega)), if_neg (rt_255 hs), rt_e16', if_pos (rt_in (n := 512) (by omega) (by decide)), nI_clamp (show 16 * i + k < 2 ^ 31 by omega), d1, nI_1]
    unfold ev_fl sp_fall
    by_cases c : ev_D m 0 i k = 0
    · rw [if_pos (show nI (ev_D m 0 i k) ≤ 0 by rw [c]; exact Int32.le_refl _), if_neg (show ¬ (0 < ev_D m 0 i k ∧ ev_F m 0 i k = a) from fun q => by omega)]
      rfl
    · rw [if_neg (show ¬ nI (ev_D m 0 i k) ≤ 0 from nI_nle (by omega) (by omega)), rt_fallsIn hw hL hi hk (by omega), Option.bind_some]
      by_cases cF : ev_F m 0 i k = a
      · obtain ⟨q1, q2, q3⟩ := hw.ss hk
        rw [if_pos (show (if ev_F m 0 i k < 4 then nI (ev_F m 0 i k) else -1) = nI a by rw [if_pos (by omega), cF]), if_pos (show 0 < ev_D m 0 i k ∧ ev_F m 0 i k = a from ⟨by omega, cF⟩), rt_landsM (um := m 3) hk (by rw [hL.2.2.1]; exact q3 (ev_D_told (sh := 0) (i := i) (by omega))) q2 (by rw [hL.2.2.2.1]; exact (hw.um q2).1) (by omega) (by omega), Option.bind_some, ro_lt, nI_add]
        rfl
      · rw [if_neg (show ¬ (if ev_F m 0 i k < 4 then nI (ev_F m 0 i k) else -1) = nI a from fun q => by
          by_cases c4 : ev_F m 0 i k < 4
          · rw [if_pos c4] at q; exact cF ((nI_eq (by omega) (by omega)).mp q)
          · rw [if_neg c4] at q; exact rt_m1 (by omega) q.symm), if_neg (show ¬ (0 < ev_D m 0 i k ∧ ev_F m 0 i k = a) from fun q => cF q.2)]
        rfl) (fun rec x => by
    rw [Nat.zero_add]
    show fb_X12_laysThrough_90 v1 (nI a) v3 (nI s) (nI k) M rec (nI x) (nI N) = _
    unfold fb_X12_laysThrough_90
    rw [hn, if_pos (Int32.le_refl _)])
  rw [Nat.zero_add] at key
  exact key
theorem rt_throughOut {M : ro_Mem} {v1 v2 v3 v5 : Int32} : fl_X12_laysThrough_90 v1 v2 v3 255 v5 M (0, 0) = some 0 := by
  unfold fl_X12_laysThrough_90
  show fb_X12_laysThrough_90 v1 v2 v3 255 v5 M _ 0 0 = _
  unfold fb_X12_laysThrough_90
  by_cases c : M 207 18 ≤ 0
  · rw [if_pos c]
  · rw [if_neg c, if_pos rfl]
/-- what the reference lays for a guest in an act -/
def LTd (m : ro_Mem) (N G q : Nat) (M : ro_Mem) : Prop := ∀ a g, a < 4 → g < 10 → 10 * a + g < q → ((G / 2 ^ g % 2 = 1 ∧ st_ m a g < 96) → M 253 (10 * a + g) = nI (nn (m 4 (st_ m a g))) ∧ ∀ k, k < 16 → M 252 (16 * (10 * a + g) + k) = nI (fs_ m N a g k)) ∧ (¬ (G / 2 ^ g % 2 = 1 ∧ st_ m a g < 96) → M 253 (10 * a + g) = 1000000000)
def LTf (m2 M : ro_Mem) : Prop := ∀ o, ¬ o = 252 → ¬ o = 253 → M o = m2 o
theorem rt_lay1 {m m2 M : ro_Mem} {N G : Nat} (hw : Wd m N) (hL : LM m 0 N m2) (h209 : m2 209 = m 209) (h216 : m2 216 = m 216) (hG : G < 1024) (hGt : ∀ g, g < 10 → G / 2 ^ g % 2 = 1 → bt (m 2 11) g = true) {a g : Nat} (ha : a < 4) (hg : g < 10) (hf : LTf m2 M) (hP : LTd m N G (10 * a + g) M) (rec : (Int32 × ro_Mem) → Option ro_Mem) : ∃ M', (LTf m2 M' ∧ LTd m N G (10 * a + g + 1) M') ∧ fb_X12_laysThrough_9 (nI G) (nI a) rec (nI g) M = rec (nI (g + 1), M') := by
  obtain ⟨s1, s2, s3, s4⟩ := hw.st ha hg
  -- the last step: holds h, falls f
  have last : ∀ (t : Int32) (hd : Int32) (f : Nat → Int32), (∀ k, k < 16 → ∀ M', LTf m2 M' → fl_X12_laysThrough_90 (nI G) (nI a) (nI g) t (nI k) M' (0, 0) = some (f k)) → ∃ M', LTf m2 M' ∧ (∀ q, ¬ q = 10 * a + g → M' 253 q = M 253 q) ∧ M' 253 (10 * a + g) = hd ∧ (∀ k, k < 16 → M' 252 (16 * (10 * a + g) + k) = f k) ∧ (∀ q, ¬ (16 * (10 * a + g) ≤ q ∧ q < 16 * (10 * a + g) + 16) → M' 252 q = M 252 q) ∧ fj_X12_laysThrough_73 rec (nI G) (nI a) (nI g) t (nI (10 * a + g)) hd M = rec (nI (g + 1), M') := by
    intro t hd f hfk
    unfold fj_X12_laysThrough_73
    rw [if_pos (rt_in (n := 40) (by omega) (by decide)), nI_clamp (show 10 * a + g < 2 ^ 31 by omega), ro_lt]
    obtain ⟨m9, e9⟩ : ∃ m9, m9 = ro_set M 253 (10 * a + g) hd := ⟨_, rfl⟩
    rw [← e9]
    have hl : ∃ M', ((∀ o, ¬ o = 252 → M' o = m9 o) ∧ (∀ k, k < 16 → M' 252 (16 * (10 * a + g) + k) = f k) ∧ (∀ q, ¬ (16 * (10 * a + g) ≤ q ∧ q < 16 * (10 * a + g) + 16) → M' 252 q = m9 252 q)) ∧ fl_X12_laysThrough_77 (nI G) (nI a) (nI g) t (0, m9) = some M' := by
      unfold fl_X12_laysThrough_77
      refine rt_cnt (fun k (M' : ro_Mem) => (nI k, M')) (fun M' => M') 16 (fun k0 M' => (∀ o, ¬ o = 252 → M' o = m9 o) ∧ (∀ k, k < k0 → M' 252 (16 * (10 * a + g) + k) = f k) ∧ (∀ q, ¬ (16 * (10 * a + g) ≤ q ∧ q < 16 * (10 * a + g) + 16) → M' 252 q = m9 252 q)) ?_ ?_ ro_FU (by decide) m9 ⟨fun _ _ => rfl, fun k h => absurd h (by omega), fun _ _ => rfl⟩
      · intro k hk rec M' hP'
        obtain ⟨p1, p2, p3⟩ := hP'
        show ∃ s', _ ∧ fb_X12_laysThrough_77 (nI G) (nI a) (nI g) t rec (nI k) M' = rec (nI (k + 1), s')
        have hLT : LTf m2 M' := fun o h1 h2 => by rw [p1 o h1, e9, ro_set_ne _ _ _ h2]; exact hf o h1 h2
        unfold fb_X12_laysThrough_77 fj_X12_laysThrough_167
        rw [if_neg (show ¬ (16 : Int32) ≤ nI k from nI_ge (b := 16) hk (by decide)), hfk k hk M' hLT, Option.bind_some, rt_e10', rt_e16', if_pos (rt_in (n := 640) (by omega) (by decide)), nI_clamp (show 16 * (10 * a + g) + k < 2 ^ 31 by omega), ro_lt, nI_1]
        refine ⟨_, ⟨fun o ho => by rw [ro_set_ne _ _ _ ho]; exact p1 o ho, fun k' hk' => ?_, fun q hq => ?_⟩, rfl⟩
        · rw [ro_set_same]
          by_cases e : k' = k
          · rw [e, pk_us]
          · rw [pk_un (by omega)]; exact p2 k' (by omega)
        · rw [ro_set_same, pk_un (by omega)]; exact p3 q hq
      · intro rec M' _
        rfl
    obtain ⟨M', ⟨p1, p2, p3⟩, e⟩ := hl
    rw [e, Option.bind_some, nI_1]
    refine ⟨M', fun o h1 h2 => by rw [p1 o h1, e9, ro_set_ne _ _ _ h2]; exact hf o h1 h2, fun q hq => ?_, ?_, p2, fun q hq => ?_, rfl⟩
    · rw [p1 253 (by decide), e9, ro_set_same, pk_un hq]
    · rw [p1 253 (by decide), e9, ro_set_same, pk_us]
    · rw [p3 q hq, e9, ro_set_ne _ _ _ (by decide)]
  have next : ∀ M', (∀ q, ¬ q = 10 * a + g → M' 253 q = M 253 q) → (∀ q, ¬ (16 * (10 * a + g) ≤ q ∧ q < 16 * (10 * a + g) + 16) → M' 252 q = M 252 q) → (((G / 2 ^ g % 2 = 1 ∧ st_ m a g < 96) → M' 253 (10 * a + g) = nI (nn (m 4 (st_ m a g))) ∧ ∀ k, k < 16 → M' 252 (16 * (10 * a + g) + k) = nI (fs_ m N a g k)) ∧ (¬ (G / 2 ^ g % 2 = 1 ∧ st_ m a g < 96) → M' 253 (10 * a + g) = 1000000000)) → LTd m N G (10 * a + g + 1) M' := by
    intro M' h1 h2 h3 a' g' ha' hg' hq
    by_cases c : 10 * a' + g' = 10 * a + g
    · have : a' = a ∧ g' = g := by omega
      rw [this.1, this.2]
      exact h3
    · obtain ⟨x1, x2⟩ := hP a' g' ha' hg' (by omega)
      refine ⟨fun q => ⟨by rw [h1 _ c]; exact (x1 q).1, fun k hk => by rw [h2 _ (by omega)]; exact (x1 q).2 k hk⟩, fun q => by rw [h1 _ c]; exact x2 q⟩
  have out : ¬ (G / 2 ^ g % 2 = 1 ∧ st_ m a g < 96) → ∃ M', (LTf m2 M' ∧ LTd m N G (10 * a + g + 1) M') ∧ fj_X12_laysThrough_40 rec (nI G) (nI a) (nI g) 255 M = rec (nI (g + 1), M') := by
    intro hno
    obtain ⟨M', b1, b2, b3, b4, b5, b6⟩ := last 255 1000000000 (fun _ => 0) (fun k _ M' _ => rt_throughOut)
    refine ⟨M', ⟨b1, next M' b2 b5 ⟨fun q => absurd q hno, fun _ => b3⟩⟩, ?_⟩
    unfold fj_X12_laysThrough_40
    rw [if_pos rfl, rt_e10', b6]
  unfold fb_X12_laysThrough_9
  rw [if_neg (show ¬ (10 : Int32) ≤ nI g from nI_ge (b := 10) hg (by decide)), rt_has (by omega) (by omega), Option.bind_some]
  by_cases cG : G / 2 ^ g % 2 = 1
  · rw [if_neg (show ¬ nI (G / 2 ^ g % 2) = 0 by rw [cG]; decide), rt_e10', if_pos (rt_in (n := 40) (by omega) (by decide)), nI_clamp (show 10 * a + g < 2 ^ 31 by omega), hf 216 (by decide) (by decide), h216, s3 (hGt g hg cG)]
    rcases s2 with e | e
    · rw [e]
      exact out (fun q => by omega)
    · obtain ⟨b1, b2, b3⟩ := hw.bu e
      obtain ⟨M', c1, c2, c3, c4, c5, c6⟩ := last (nI (st_ m a g)) (nI (nn (m 4 (st_ m a g)))) (fun k => nI (fs_ m N a g k)) (fun k hk M' hM' => rt_through hw (hL.put (fun o ho => hM' o (by omega) (by omega)) (by rw [hM' 207 (by decide) (by decide)])) ha e hk)
      refine ⟨M', ⟨c1, next M' c2 c5 ⟨fun _ => ⟨c3, c4⟩, fun q => absurd ⟨cG, e⟩ q⟩⟩, ?_⟩
      unfold fj_X12_laysThrough_40
      rw [if_neg (rt_255 e), if_pos (rt_in e (by decide)), nI_clamp (show st_ m a g < 2 ^ 31 by omega), hf 209 (by decide) (by decide), h209, b3, rt_e10', ← c6]
      rw [← b1]
  · rw [if_pos (show nI (G / 2 ^ g % 2) = 0 by rw [show G / 2 ^ g % 2 = 0 by omega]; rfl)]
    exact out (fun q => cG q.1)
theorem rt_laysThrough {m m2 : ro_Mem} {N G : Nat} (hw : Wd m N) (hL : LM m 0 N m2) (h209 : m2 209 = m 209) (h216 : m2 216 = m 216) (hG : G < 1024) (hGt : ∀ g, g < 10 → G / 2 ^ g % 2 = 1 → bt (m 2 11) g = true) : ∃ M, fn_X12_laysThrough (nI G) m2 = some M ∧ LTf m2 M ∧ LTd m N G 40 M := by
  have key : ∃ M, (LTf m2 M ∧ LTd m N G (10 * 4) M) ∧ fl_X12_laysThrough_2 (nI G) (0, m2) = some M := by
    unfold fl_X12_laysThrough_2
    refine rt_cnt (fun a (M : ro_Mem) => (nI a, M)) (fun M => M) 4 (fun a M => LTf m2 M ∧ LTd m N G (10 * a) M) ?_ ?_ ro_FU (by decide) m2 ⟨fun _ _ _ => rfl, fun a g _ _ h => absurd h (by omega)⟩
    · intro a ha rec M hP
      show ∃ s', _ ∧ fb_X12_laysThrough_2 (nI G) rec (nI a) M = rec (nI (a + 1), s')
      have hin : ∃ M', (LTf m2 M' ∧ LTd m N G (10 * a + 10) M') ∧ fl_X12_laysThrough_9 (nI G) (nI a) (0, M) = some M' := by
        unfold fl_X12_laysThrough_9
        refine rt_cnt (fun g (M : ro_Mem) => (nI g, M)) (fun M => M) 10 (fun g M => LTf m2 M ∧ LTd m N G (10 * a + g) M) ?_ ?_ ro_FU (by decide) M hP
        · intro g hg rec M hP
          exact rt_lay1 hw hL h209 h216 hG hGt ha hg hP.1 hP.2 rec
        · intro rec M _
          rfl
      obtain ⟨M', hP', e'⟩ := hin
      unfold fb_X12_laysThrough_2
      rw [if_neg (show ¬ (4 : Int32) ≤ nI a from nI_ge (b := 4) ha (by decide)), e', Option.bind_some, nI_1]
      exact ⟨M', by rw [show 10 * (a + 1) = 10 * a + 10 by omega]; exact hP', rfl⟩
    · intro rec M _
      rfl
  obtain ⟨M, ⟨h1, h2⟩, e⟩ := key
  refine ⟨M, ?_, h1, h2⟩
  unfold fn_X12_laysThrough
  rw [e, Option.bind_some]
/-- what is left when the set is nailed -/
theorem gq_rest {w : Nat → Nat} {S : Nat} : sp_sum (fun k => if S / 2 ^ k % 2 = 1 then 0 else w k) 16 + gq_ w S = sp_sum w 16 := by
  unfold gq_
  rw [← sp_sum_add]
  refine sp_sum_cg (fun k _ => ?_)
  by_cases c : S / 2 ^ k % 2 = 1
  · rw [if_pos c, c, Nat.one_mul, Nat.zero_add]
  · rw [if_neg c, show S / 2 ^ k % 2 = 0 by omega, Nat.zero_mul, Nat.add_zero]
theorem rt_areDry {m M : ro_Mem} {N G S : Nat} (hw : Wd m N) (hP : LTd m N G 40 M) (hS : S < 65536) : ∃ b : Bool, fn_X12_areDry (nI S) M = some (if b = true then 1 else 0) ∧ (b = true ↔ OkG m N G S) := by
  have hN : N ≤ 32 := hw.2.2.2.2.2
  have hsum : ∀ a g, a < 4 → g < 10 → (G / 2 ^ g % 2 = 1 ∧ st_ m a g < 96) → fl_X12_areDry_28 (nI S) (nI (10 * a + g)) M (0, 0) = some (nI (sp_sum (fun k => if S / 2 ^ k % 2 = 1 then 0 else fs_ m N a g k) 16)) := by
    intro a g ha hg hq
    obtain ⟨-, x2⟩ := (hP a g ha hg (by omega)).1 hq
    have key := rt_sumL (b := fun rec x => fb_X12_areDry_28 (nI S) (nI (10 * a + g)) M rec x.1 x.2) (fun k => if S / 2 ^ k % 2 = 1 then 0 else fs_ m N a g k) 0 16 0 (by omega) (fun k hk rec x => by
      rw [Nat.zero_add]
      show fb_X12_areDry_28 (nI S) (nI (10 * a + g)) M rec (nI x) (nI k) = _
      unfold fb_X12_areDry_28
      rw [if_neg (show ¬ (16 : Int32) ≤ nI k from nI_ge (b := 16) hk (by decide)), rt_has (by omega) (by omega), Option.bind_some, rt_e16', nI_1]
      by_cases c : S / 2 ^ k % 2 = 1
      · rw [if_neg (show ¬ nI (S / 2 ^ k % 2) = 0 by rw [c]; decide), if_pos c, ro_lt, Int32.add_zero]
        rfl
      · rw [if_pos (show nI (S / 2 ^ k % 2) = 0 by rw [show S / 2 ^ k % 2 = 0 by omega]; rfl), if_neg c, if_pos (rt_in (n := 640) (by omega) (by decide)), nI_clamp (show 16 * (10 * a + g) + k < 2 ^ 31 by omega), x2 k hk, ro_lt, nI_add]) (fun rec x => rfl)
    rw [Nat.zero_add] at key
    exact key
  have hfs : ∀ a g, sp_sum (fun k => if S / 2 ^ k % 2 = 1 then 0 else fs_ m N a g k) 16 ≤ 50688 := fun a g => by
    have h1 := gq_rest (w := fs_ m N a g) (S := S)
    have h2 : sp_sum (fs_ m N a g) 16 = ev_al m 0 N a (st_ m a g) := (ev_al_s m 0 N a (st_ m a g)).symm
    have h3 := ev_al_le m 0 hN a (st_ m a g)
    omega
  have key : fl_X12_areDry_2 (nI S) M 0 = some (match sp_first (fun q => decide (G / 2 ^ (q % 10) % 2 = 1 ∧ st_ m (q / 10) (q % 10) < 96 ∧ nn (m 4 (st_ m (q / 10) (q % 10))) < sp_sum (fun k => if S / 2 ^ k % 2 = 1 then 0 else fs_ m N (q / 10) (q % 10) k) 16)) 40 0 with
    | none => Sum.inr ()
    | some i => Sum.inl ()) := by
    unfold fl_X12_areDry_2
    refine rt_find (fun q => decide (G / 2 ^ (q % 10) % 2 = 1 ∧ st_ m (q / 10) (q % 10) < 96 ∧ nn (m 4 (st_ m (q / 10) (q % 10))) < sp_sum (fun k => if S / 2 ^ k % 2 = 1 then 0 else fs_ m N (q / 10) (q % 10) k) 16)) 40 (fun i => (Sum.inl () : Unit ⊕ Unit)) (Sum.inr ()) ?_ ?_ ro_FU (by decide)
    · intro q hq rec
      show fb_X12_areDry_2 (nI S) M rec (nI q) = _
      have ha : q / 10 < 4 := by omega
      have hg : q % 10 < 10 := by omega
      have eq : 10 * (q / 10) + q % 10 = q := by omega
      obtain ⟨x1, x2⟩ := hP (q / 10) (q % 10) ha hg (by omega)
      have hs := hsum (q / 10) (q % 10) ha hg
      rw [eq] at x1 x2 hs
      have hf := hfs (q / 10) (q % 10)
      unfold fb_X12_areDry_2
      rw [if_neg (show ¬ (40 : Int32) ≤ nI q from nI_ge (b := 40) hq (by decide)), if_pos (rt_in hq (by decide)), nI_clamp (show q < 2 ^ 31 by omega), nI_1]
      by_cases c : G / 2 ^ (q % 10) % 2 = 1 ∧ st_ m (q / 10) (q % 10) < 96
      · obtain ⟨b1, b2, b3⟩ := hw.bu c.2
        rw [(x1 c).1, if_neg (show ¬ nI (nn (m 4 (st_ m (q / 10) (q % 10)))) = 1000000000 from fun h => by have := (nI_eq (b := 1000000000) (by omega) (by decide)).mp h; omega), hs c, Option.bind_some]
        by_cases c2 : nn (m 4 (st_ m (q / 10) (q % 10))) < sp_sum (fun k => if S / 2 ^ k % 2 = 1 then 0 else fs_ m N (q / 10) (q % 10) k) 16
        · rw [if_neg (nI_ge c2 (by omega)), if_pos (decide_eq_true ⟨c.1, c.2, c2⟩)]
        · rw [if_pos (nI_le (by omega) (by omega)), if_neg (fun h => c2 (of_decide_eq_true h).2.2)]
      · rw [x2 c, if_pos rfl, if_neg (fun h => c ⟨(of_decide_eq_true h).1, (of_decide_eq_true h).2.1⟩)]
    · intro rec
      rfl
  have conn : ∀ a g, a < 4 → g < 10 → st_ m a g < 96 → (nn (m 4 (st_ m a g)) < sp_sum (fun k => if S / 2 ^ k % 2 = 1 then 0 else fs_ m N a g k) 16 ↔ ¬ gw_ m 0 N a g ≤ gq_ (fs_ m N a g) S) := fun a g ha hg hs => by
    have h1 := gq_rest (w := fs_ m N a g) (S := S)
    have h2 : sp_sum (fs_ m N a g) 16 = ev_al m 0 N a (st_ m a g) := (ev_al_s m 0 N a (st_ m a g)).symm
    unfold gw_ ev_wt
    rw [if_pos hs]
    omega
  unfold fn_X12_areDry
  rw [key, Option.bind_some]
  cases e : sp_first (fun q => decide (G / 2 ^ (q % 10) % 2 = 1 ∧ st_ m (q / 10) (q % 10) < 96 ∧ nn (m 4 (st_ m (q / 10) (q % 10))) < sp_sum (fun k => if S / 2 ^ k % 2 = 1 then 0 else fs_ m N (q / 10) (q % 10) k) 16)) 40 0 with
  | none =>
    refine ⟨true, rfl, fun _ => ⟨hS, fun a g ha hg hGg => ?_⟩, fun _ => rfl⟩
    by_cases hs : st_ m a g < 96
    · have := of_decide_eq_false (sp_first_none e (10 * a + g) (by omega) (by omega))
      rw [show (10 * a + g) / 10 = a by omega, show (10 * a + g) % 10 = g by omega] at this
      exact Decidable.byContradiction (fun q => this ⟨hGg, hs, (conn a g ha hg hs).mpr q⟩)
    · unfold gw_
      rw [if_neg hs]
      exact Nat.zero_le _
  | some i =>
    obtain ⟨-, h2, h3, -⟩ := sp_first_some e
    have h3 := of_decide_eq_true h3
    refine ⟨false, rfl, fun q => absurd q (by decide), fun q => ?_⟩
    exact absurd (q.2 (i / 10) (i % 10) (by omega) (by omega) h3.1) ((conn (i / 10) (i % 10) (by omega) (by omega) h3.2.1).mp h3.2.2)
