-- ===== loops that end, by steps =====
def LD {S E : Type} (b : (S → Option E) → S → Option E) (s : S) (v : E) (F : Nat) : Prop := ∀ fuel, F < fuel → ro_loop b fuel s = some v
theorem LD.step {S E : Type} {b : (S → Option E) → S → Option E} {s s' : S} {v : E} {F : Nat} (h : ∀ rec, b rec s = rec s') (h' : LD b s' v F) : LD b s v (F + 1) := by
  intro fuel hf
  cases fuel with
  | zero => omega
  | succ f =>
    show b (ro_loop b f) s = some v
    rw [h]
    exact h' f (by omega)
theorem LD.done {S E : Type} {b : (S → Option E) → S → Option E} {s : S} {v : E} {F : Nat} (h : ∀ rec, b rec s = some v) : LD b s v F := by
  intro fuel hf
  cases fuel with
  | zero => omega
  | succ f => exact h _
theorem LD.up {S E : Type} {b : (S → Option E) → S → Option E} {s : S} {v : E} {F F' : Nat} (h : LD b s v F) (hF : F ≤ F') : LD b s v F' := fun fuel hf => h fuel (by omega)
theorem tp_mono {w : Nat → Nat} : ∀ n lo c c', c ≤ c' → tp_ w n lo c ≤ tp_ w n lo c' := by
  intro n
  induction n with
  | zero => intro lo c c' _; exact Nat.le_refl _
  | succ n ih =>
    intro lo c c' h
    rw [tp_s, tp_s]
    have h1 := ih (lo + 1) c c' h
    have h2 := ih (lo + 1) (c - 1) (c' - 1) (by omega)
    refine Nat.max_le.mpr ⟨Nat.le_trans h1 (Nat.le_max_left _ _), ?_⟩
    by_cases c0 : c = 0
    · rw [if_pos c0]; exact Nat.zero_le _
    · rw [if_neg c0, if_neg (by omega)]
      exact Nat.le_trans (Nat.add_le_add_left h2 _) (Nat.le_max_right _ _)
-- ===== the reference's heaviest ones =====
theorem rt_bit0 {x : Int32} {k : Nat} (hk : k < 32) : ((x >>> (nI k &&& 31)) &&& 1) = 0 ↔ bt x k = false := by
  have h1 : ∀ i, i < 32 → bt ((x >>> (nI k &&& 31)) &&& 1) i = (decide (i = 0) && bt x k) := by
    intro i hi
    rw [b_and, b_sshr k hk x hi]
    have h2 : bt 1 i = decide (i = 0) := (by decide +kernel : ∀ i, i < 32 → bt 1 i = decide (i = 0)) i hi
    rw [h2]
    by_cases h0 : i = 0
    · subst h0
      rw [if_pos (by omega)]
      simp
    · simp [h0]
  constructor
  · intro h
    have h3 := h1 0 (by omega)
    rw [h, b_0] at h3
    simpa using h3.symm
  · intro h
    apply b_ext
    intro i hi
    rw [h1 i hi, h, b_0]
    simp
def us_c (u : Int32) (i : Nat) : Nat := if bt u i = true then 1 else 0
theorem us_top {w : Nat → Nat} {u : Int32} {lo N n k θ : Nat} (hN : N ≤ 32) (hlo : lo ≤ 32) (hz : ∀ i, N ≤ i → w i = 0) (hA : ∀ i, i < 32 → bt u i = true → lo ≤ i ∧ i < N ∧ θ ≤ w i) (hB : ∀ i, lo ≤ i → i < N → bt u i = false → w i ≤ θ) (hk : sp_sum (us_c u) 32 = k) (hkn : k ≤ n) (hθ : k = n ∨ θ = 0) : sp_sum (fun i => us_c u i * w i) 32 = tp_ w (32 - lo) lo n := by
  have hr : ∀ f : Nat → Nat, (∀ i, i < 32 → ¬ lo ≤ i → f i = 0) → sp_sum (fun i => f (lo + i)) (32 - lo) = sp_sum f 32 := fun f hf => by
    rw [← sp_sum_rng (f := f) hlo (Nat.le_refl 32)]
    refine sp_sum_cg (fun i hi => ?_)
    by_cases c : lo ≤ i
    · rw [if_pos ⟨c, hi⟩]
    · rw [if_neg (fun h => c h.1), hf i hi c]
  have hu0 : ∀ i, i < 32 → ¬ lo ≤ i → us_c u i = 0 := fun i hi hc => by
    unfold us_c
    by_cases c : bt u i = true
    · exact absurd (hA i hi c).1 hc
    · rw [if_neg c]
  have e1 : ∀ f : Nat → Nat, (∀ i, ¬ lo ≤ i → f i = 0) → True := fun _ _ => trivial
  refine tp_eq (χ := fun i => if i < 32 then us_c u i else 0) (θ := θ) (fun i => ?_) ?_ ?_ ?_
  · show (if i < 32 then us_c u i else 0) ≤ 1
    by_cases c : i < 32
    · rw [if_pos c]
      unfold us_c
      by_cases c2 : bt u i = true
      · rw [if_pos c2]; exact Nat.le_refl _
      · rw [if_neg c2]; omega
    · rw [if_neg c]; omega
  · rw [hr (fun i => if i < 32 then us_c u i else 0) (fun i hi hc => by rw [if_pos hi]; exact hu0 i hi hc), sp_sum_cg (g := us_c u) (fun i hi => if_pos hi), hk]
    exact hkn
  · rw [hr (fun i => (if i < 32 then us_c u i else 0) * w i) (fun i hi hc => by rw [if_pos hi, hu0 i hi hc, Nat.zero_mul])]
    exact sp_sum_cg (fun i hi => by rw [if_pos hi])
  · have e : θ * n = θ * k := by
      rcases hθ with h | h
      · rw [h]
      · rw [h, Nat.zero_mul, Nat.zero_mul]
    have e2 : sp_sum (fun i => w (lo + i) - θ) (32 - lo) = sp_sum (fun i => if lo ≤ i ∧ i < 32 then w i - θ else 0) 32 := (sp_sum_rng (f := fun i => w i - θ) hlo (Nat.le_refl 32)).symm
    rw [e, ← hk, ← sp_sum_mul, e2, ← sp_sum_add]
    refine sp_sum_le (fun i hi => ?_)
    unfold us_c
    by_cases c : bt u i = true
    · obtain ⟨a1, a2, a3⟩ := hA i hi c
      rw [if_pos c, if_pos ⟨a1, hi⟩]; omega
    · rw [if_neg c]
      by_cases c2 : lo ≤ i
      · rw [if_pos ⟨c2, hi⟩]
        by_cases c3 : i < N
        · have := hB i c2 c3 (by simpa using c); omega
        · have := hz i (by omega); omega
      · rw [if_neg (fun h => c2 h.1)]; omega
def Bo (w : Nat → Nat) (u : Int32) (lo i : Nat) (v : Int32) : Prop := (v = -1 ∧ ∀ j, lo ≤ j → j < i → bt u j = true) ∨ ∃ b, v = nI b ∧ lo ≤ b ∧ b < i ∧ bt u b = false ∧ ∀ j, lo ≤ j → j < i → bt u j = false → w j ≤ w b
theorem rt_mostBest {m : ro_Mem} {w : Nat → Nat} {N lo : Nat} {v2 u v4 v5 : Int32} (hN : N ≤ 32) (hlo : lo ≤ 32) (h18 : m 207 18 = nI N) (hw : ∀ i, i < N → m 251 i = nI (w i) ∧ w i < 2 ^ 20) : ∃ v, fl_X12_mostBy_20 (nI lo) v2 u v4 v5 m (-1, nI lo) = some v ∧ Bo w u lo N v := by
  have key : ∃ v, Bo w u lo (lo + (N - lo)) v ∧ fl_X12_mostBy_20 (nI lo) v2 u v4 v5 m (-1, nI lo) = some v := by
    unfold fl_X12_mostBy_20
    refine rt_cnt (fun k (v : Int32) => (v, nI (lo + k))) (fun v => v) (N - lo) (fun k v => Bo w u lo (lo + k) v) ?_ ?_ ro_FU (Nat.lt_of_le_of_lt (show N - lo ≤ 32 by omega) (by decide)) (-1) (Or.inl ⟨rfl, fun j h1 h2 => absurd h2 (by omega)⟩)
    · intro k hk rec v hP
      show ∃ s', _ ∧ fb_X12_mostBy_20 (nI lo) v2 u v4 v5 m rec v (nI (lo + k)) = rec (s', nI (lo + (k + 1)))
      have hi : lo + k < N := by omega
      generalize hie : lo + k = i at *
      unfold fb_X12_mostBy_20
      rw [h18, if_neg (nI_ge hi (by omega)), show lo + (k + 1) = i + 1 by omega, nI_1]
      by_cases c : bt u i = false
      · rw [if_pos ((rt_bit0 (by omega)).mpr c)]
        rcases hP with ⟨p1, p2⟩ | ⟨b, p1, p2, p3, p4, p5⟩
        · rw [if_pos p1]
          refine ⟨nI i, Or.inr ⟨i, rfl, by omega, by omega, c, fun j h1 h2 h3 => ?_⟩, rfl⟩
          by_cases e : j = i
          · rw [e]; exact Nat.le_refl _
          · rw [p2 j h1 (by omega)] at h3; cases h3
        · have e1 := hw i hi
          have e2 := hw b (by omega)
          rw [p1, if_neg (rt_m1 (by omega)), if_pos (rt_in (n := 32) (by omega) (by decide)), if_pos (rt_in (n := 32) (by omega) (by decide)), nI_clamp (show i < 2 ^ 31 by omega), nI_clamp (show b < 2 ^ 31 by omega), e1.1, e2.1]
          by_cases c2 : w i ≤ w b
          · rw [if_pos (nI_le c2 (by omega))]
            refine ⟨nI b, Or.inr ⟨b, rfl, p2, by omega, p4, fun j h1 h2 h3 => ?_⟩, rfl⟩
            by_cases e : j = i
            · rw [e]; exact c2
            · exact p5 j h1 (by omega) h3
          · rw [if_neg (nI_ge (by omega) (by omega))]
            refine ⟨nI i, Or.inr ⟨i, rfl, by omega, by omega, c, fun j h1 h2 h3 => ?_⟩, rfl⟩
            by_cases e : j = i
            · rw [e]; exact Nat.le_refl _
            · have := p5 j h1 (by omega) h3; omega
      · rw [if_neg (fun h => c ((rt_bit0 (by omega)).mp h))]
        have c' : bt u i = true := by simpa using c
        refine ⟨v, ?_, rfl⟩
        rcases hP with ⟨p1, p2⟩ | ⟨b, p1, p2, p3, p4, p5⟩
        · refine Or.inl ⟨p1, fun j h1 h2 => ?_⟩
          by_cases e : j = i
          · rw [e]; exact c'
          · exact p2 j h1 (by omega)
        · refine Or.inr ⟨b, p1, p2, by omega, p4, fun j h1 h2 h3 => ?_⟩
          by_cases e : j = i
          · rw [e, c'] at h3; cases h3
          · exact p5 j h1 (by omega) h3
    · intro rec v _
      show fb_X12_mostBy_20 (nI lo) v2 u v4 v5 m rec v (nI (lo + (N - lo))) = _
      unfold fb_X12_mostBy_20
      rw [h18, if_pos (nI_le (by omega) (by omega))]
  obtain ⟨v, hB, e⟩ := key
  refine ⟨v, e, ?_⟩
  by_cases c : lo ≤ N
  · rw [show lo + (N - lo) = N by omega] at hB; exact hB
  · rw [show lo + (N - lo) = lo by omega] at hB
    rcases hB with ⟨p1, p2⟩ | ⟨b, p1, p2, p3, -⟩
    · exact Or.inl ⟨p1, fun j h1 h2 => absurd h2 (by omega)⟩
    · omega
theorem us_put {w : Nat → Nat} {u : Int32} {b : Nat} (hb : b < 32) (h : bt u b = false) : sp_sum (us_c (u ||| ((1 : Int32) <<< (nI b &&& 31)))) 32 = sp_sum (us_c u) 32 + 1 ∧ sp_sum (fun i => us_c (u ||| ((1 : Int32) <<< (nI b &&& 31))) i * w i) 32 = sp_sum (fun i => us_c u i * w i) 32 + w b := by
  have e : ∀ i, i < 32 → us_c (u ||| ((1 : Int32) <<< (nI b &&& 31))) i = us_c u i + (if i = b then 1 else 0) := fun i hi => by
    unfold us_c
    rw [rt_or hb hi]
    by_cases c : i = b
    · rw [c, h]; simp
    · by_cases c2 : bt u i = true
      · simp [c, c2]
      · simp [c, c2]
  refine ⟨sp_sum_one hb (fun i hi => e i hi), sp_sum_one hb (fun i hi => ?_)⟩
  rw [e i hi]
  by_cases c : i = b
  · rw [if_pos c, if_pos c, Nat.add_mul, Nat.one_mul, c]
  · rw [if_neg c, if_neg c]
    rfl
theorem rt_mostBy {m : ro_Mem} {w : Nat → Nat} {N lo n : Nat} (hN : N ≤ 32) (hlo : lo ≤ 32) (hn : n ≤ 32) (h18 : m 207 18 = nI N) (hw : ∀ i, i < N → m 251 i = nI (w i) ∧ w i < 2 ^ 20) (hz : ∀ i, N ≤ i → w i = 0) : fn_X12_mostBy (nI lo) (nI n) m = some (nI (tp_ w (32 - lo) lo n)) := by
  have key : ∀ d k fuel u θ, k + d = n → d < fuel → (∀ i, i < 32 → bt u i = true → lo ≤ i ∧ i < N ∧ θ ≤ w i) → (∀ i, lo ≤ i → i < N → bt u i = false → w i ≤ θ) → sp_sum (us_c u) 32 = k → ∃ x : Int32 ⊕ Int32, ro_loop (fun rec (s : Int32 × Int32 × Int32) => fb_X12_mostBy_8 (nI lo) (nI n) m rec s.1 s.2.1 s.2.2) fuel (u, nI (sp_sum (fun i => us_c u i * w i) 32), nI k) = some x ∧ x.elim (fun e => some e) (fun e => some e) = some (nI (tp_ w (32 - lo) lo n)) := by
    intro d
    induction d with
    | zero =>
      intro k fuel u θ hk hf hA hB hc
      cases fuel with
      | zero => omega
      | succ f =>
        refine ⟨.inr (nI (sp_sum (fun i => us_c u i * w i) 32)), ?_, ?_⟩
        · show fb_X12_mostBy_8 (nI lo) (nI n) m _ u _ (nI k) = _
          unfold fb_X12_mostBy_8
          rw [if_pos (nI_le (by omega) (by omega))]
        · rw [us_top (n := n) hN hlo hz hA hB hc (by omega) (Or.inl (by omega))]
          rfl
    | succ d ih =>
      intro k fuel u θ hk hf hA hB hc
      cases fuel with
      | zero => omega
      | succ f =>
        have hih := ih (k + 1) f
        show ∃ x : Int32 ⊕ Int32, fb_X12_mostBy_8 (nI lo) (nI n) m (ro_loop (fun rec (s : Int32 × Int32 × Int32) => fb_X12_mostBy_8 (nI lo) (nI n) m rec s.1 s.2.1 s.2.2) f) u (nI (sp_sum (fun i => us_c u i * w i) 32)) (nI k) = some x ∧ _
        generalize ro_loop (fun rec (s : Int32 × Int32 × Int32) => fb_X12_mostBy_8 (nI lo) (nI n) m rec s.1 s.2.1 s.2.2) f = R at hih ⊢
        obtain ⟨v, e, hBo⟩ := rt_mostBest (v2 := nI n) (u := u) (v4 := nI (sp_sum (fun i => us_c u i * w i) 32)) (v5 := nI k) hN hlo h18 hw
        unfold fb_X12_mostBy_8
        rw [if_neg (nI_ge (by omega) (by omega)), e, Option.bind_some]
        have early : (∀ i, lo ≤ i → i < N → bt u i = false → w i ≤ 0) → (Sum.inl (nI (sp_sum (fun i => us_c u i * w i) 32)) : Int32 ⊕ Int32).elim (fun e => some e) (fun e => some e) = some (nI (tp_ w (32 - lo) lo n)) := fun h0 => by
          rw [us_top (θ := 0) (n := n) hN hlo hz (fun i hi hb => ⟨(hA i hi hb).1, (hA i hi hb).2.1, Nat.zero_le _⟩) h0 hc (by omega) (Or.inr rfl)]
          rfl
        rcases hBo with ⟨p1, p2⟩ | ⟨b, p1, p2, p3, p4, p5⟩
        · rw [if_pos p1]
          exact ⟨_, rfl, early (fun i h1 h2 h3 => by rw [p2 i h1 h2] at h3; cases h3)⟩
        · have e2 := hw b p3
          rw [p1, if_neg (rt_m1 (by omega)), if_pos (rt_in (n := 32) (by omega) (by decide)), nI_clamp (show b < 2 ^ 31 by omega), e2.1]
          by_cases c0 : w b = 0
          · rw [if_pos (show nI (w b) = 0 by rw [c0]; rfl)]
            exact ⟨_, rfl, early (fun i h1 h2 h3 => by have := p5 i h1 h2 h3; omega)⟩
          · obtain ⟨u1, u2⟩ := us_put (w := w) (u := u) (b := b) (by omega) p4
            rw [if_neg (nI_ne0 (by omega) (by omega)), ro_lt, ro_lt, nI_add, nI_1, ← u2]
            refine hih _ (w b) (by omega) (by omega) (fun i hi hb => ?_) (fun i h1 h2 h3 => ?_) (by rw [u1, hc])
            · rw [rt_or (by omega) hi] at hb
              by_cases ce : i = b
              · rw [ce]; exact ⟨p2, p3, Nat.le_refl _⟩
              · have hb' : bt u i = true := by simpa [ce] using hb
                obtain ⟨a1, a2, a3⟩ := hA i hi hb'
                have := hB b p2 p3 p4
                exact ⟨a1, a2, by omega⟩
            · rw [rt_or (by omega) (by omega)] at h3
              have h3' : bt u i = false := by
                cases hh : bt u i
                · rfl
                · rw [hh] at h3; simp at h3
              exact p5 i h1 h2 h3'
  have z0 : sp_sum (us_c 0) 32 = 0 := sp_sum_zero (fun i _ => by unfold us_c; rw [b_0, if_neg (by decide)])
  have z1 : sp_sum (fun i => us_c 0 i * w i) 32 = 0 := sp_sum_zero (fun i _ => by unfold us_c; rw [b_0, if_neg (by decide), Nat.zero_mul])
  obtain ⟨x, e, hx⟩ := key n 0 ro_FU 0 (2 ^ 20) (by omega) (Nat.lt_of_le_of_lt hn (by decide)) (fun i _ h => by rw [b_0] at h; cases h) (fun i _ h _ => by have := (hw i h).2; omega) z0
  rw [z1] at e
  have e : fl_X12_mostBy_8 (nI lo) (nI n) m (0, 0, 0) = some x := e
  unfold fn_X12_mostBy
  rw [e, Option.bind_some, hx]
