-- ===== the law's code is run =====
/-- a stack in a row of numbers, its top the list's head -/
def sp_stk (f : Nat → Int32) : List Int32 → Prop
  | [] => True
  | x :: r => f r.length = x ∧ sp_stk f r
theorem sp_stk_cg {f g : Nat → Int32} : ∀ {st : List Int32}, sp_stk f st → (∀ i, i < st.length → g i = f i) → sp_stk g st := by
  intro st
  induction st with
  | nil => intro _ _; trivial
  | cons x r ih =>
    intro h hg
    exact ⟨by rw [hg _ (by simp)]; exact h.1, ih h.2 (fun i hi => hg i (by simp; omega))⟩
theorem sp_stk_put {f : Nat → Int32} {r : List Int32} (h : sp_stk f r) (x : Int32) : sp_stk (upd f r.length x) (x :: r) := by
  refine ⟨by simp [upd], sp_stk_cg h (fun i hi => ?_)⟩
  have : ¬ i = r.length := by omega
  simp [upd, this]
def cd_ok (op ar : Nat → Int32) (lo to : Nat) : Prop := ∀ k, lo ≤ k → k < to → ∃ w v, w ≤ 12 ∧ v < 1048576 ∧ op k = nI w ∧ ar k = nI v ∧ (11 ≤ w → k < v)
theorem rt_ne {w c : Nat} (hw : w < 1000) (hc : c < 1000) (h : ¬ w = c) : ¬ nI w = nI c := fun e => h ((nI_eq (by omega) (by omega)).mp e)
theorem rt_reckonC {w : Nat} {a b : Int32} (hw : w < 8) (h : ¬ (b = 0 ∧ (nI w = 3 ∨ nI w = 4))) : fn_X2_reckon (nI w) a b = some (sp_rk (nI w) a b) := by
  unfold fn_X2_reckon sp_rk
  by_cases h0 : nI w = 0
  · rw [if_pos h0, if_pos h0]
  rw [if_neg h0, if_neg h0]
  by_cases h1 : nI w = 1
  · rw [if_pos h1, if_pos h1]
  rw [if_neg h1, if_neg h1]
  by_cases h2 : nI w = 2
  · rw [if_pos h2, if_pos h2]
  rw [if_neg h2, if_neg h2]
  by_cases h3 : nI w = 3
  · have hb : ¬ b = 0 := fun e => h ⟨e, Or.inl h3⟩
    rw [if_pos h3, if_pos h3, if_neg hb, if_pos hb]
  rw [if_neg h3, if_neg h3]
  by_cases h4 : nI w = 4
  · have hb : ¬ b = 0 := fun e => h ⟨e, Or.inr h4⟩
    rw [if_pos h4, if_pos h4, if_neg hb, if_pos hb]
  rw [if_neg h4, if_neg h4]
  by_cases h5 : nI w = 5
  · rw [if_pos h5, if_pos h5]
    by_cases c : b ≤ a
    · rw [if_pos c, if_pos c]
    · rw [if_neg c, if_neg c]
  rw [if_neg h5, if_neg h5]
  by_cases h6 : nI w = 6
  · rw [if_pos h6, if_pos h6]
    by_cases c : a ≤ b
    · rw [if_pos c, if_pos c]
    · rw [if_neg c, if_neg c]
  rw [if_neg h6, if_neg h6]
  by_cases c : a = b
  · rw [if_pos c, if_pos c]
  · rw [if_neg c, if_neg c]
theorem rt_reckonM {w : Nat} {a b : Int32} (hw : w < 8) (h : ¬ (b = 0 ∧ (nI w = 3 ∨ nI w = 4))) : fn_X12_reckon (nI (w + 2)) a b = some (sp_rk (nI w) a b) := by
  have hs : ∀ c, c < 100 → (nI (w + 2) = nI (c + 2)) = (nI w = nI c) := fun c hc => by
    apply propext
    rw [nI_eq (by omega) (by omega), nI_eq (by omega) (by omega)]
    omega
  have e0 : (nI (w + 2) = 2) = (nI w = 0) := hs 0 (by decide)
  have e1 : (nI (w + 2) = 3) = (nI w = 1) := hs 1 (by decide)
  have e2 : (nI (w + 2) = 4) = (nI w = 2) := hs 2 (by decide)
  have e3 : (nI (w + 2) = 5) = (nI w = 3) := hs 3 (by decide)
  have e4 : (nI (w + 2) = 6) = (nI w = 4) := hs 4 (by decide)
  have e5 : (nI (w + 2) = 7) = (nI w = 5) := hs 5 (by decide)
  have e6 : (nI (w + 2) = 8) = (nI w = 6) := hs 6 (by decide)
  unfold fn_X12_reckon sp_rk
  by_cases h0 : nI w = 0
  · rw [if_pos (e0 ▸ h0), if_pos h0]
  rw [if_neg (e0 ▸ h0), if_neg h0]
  by_cases h1 : nI w = 1
  · rw [if_pos (e1 ▸ h1), if_pos h1]
  rw [if_neg (e1 ▸ h1), if_neg h1]
  by_cases h2 : nI w = 2
  · rw [if_pos (e2 ▸ h2), if_pos h2]
  rw [if_neg (e2 ▸ h2), if_neg h2]
  by_cases h3 : nI w = 3
  · have hb : ¬ b = 0 := fun e => h ⟨e, Or.inl h3⟩
    rw [if_pos (e3 ▸ h3), if_pos h3, if_pos hb]
  rw [if_neg (e3 ▸ h3), if_neg h3]
  by_cases h4 : nI w = 4
  · have hb : ¬ b = 0 := fun e => h ⟨e, Or.inr h4⟩
    rw [if_pos (e4 ▸ h4), if_pos h4, if_pos hb]
  rw [if_neg (e4 ▸ h4), if_neg h4]
  by_cases h5 : nI w = 5
  · rw [if_pos (e5 ▸ h5), if_pos h5]
    by_cases c : b ≤ a
    · rw [if_pos c, if_pos c]
    · rw [if_neg c, if_neg c]
  rw [if_neg (e5 ▸ h5), if_neg h5]
  by_cases h6 : nI w = 6
  · rw [if_pos (e6 ▸ h6), if_pos h6]
    by_cases c : a ≤ b
    · rw [if_pos c, if_pos c]
    · rw [if_neg c, if_neg c]
  rw [if_neg (e6 ▸ h6), if_neg h6]
  by_cases c : a = b
  · rw [if_pos c, if_pos c]
  · rw [if_neg c, if_neg c]
/-- how the class's loop ends -/
def rt_end (o0 : Nat) (q : ro_Mem ⊕ (ro_Mem ⊕ (ro_Mem ⊕ (Int32 × ro_Mem)))) : Option (Int32 × ro_Mem) := q.elim (fun e51 => some (0, e51)) (fun e52 => e52.elim (fun e53 => some (0, e53)) (fun e54 => e54.elim (fun e55 => some (0, e55)) (fun e56 => fj_X2_run_286 o0 e56.1 e56.2)))
theorem rt_m1' {n : Nat} : nI (n + 1) + (-1) = nI n := pk_m1 n
theorem rt_runL {o0 to lo : Nat} {μ : ro_Mem} {op ar lt : Nat → Int32} (hop : op = μ (o0 + 1)) (har : ar = μ (o0 + 2)) (hlt : lt = μ (o0 + 7)) (hto : to ≤ 200) (hcd : cd_ok op ar lo to) : ∀ (n k : Nat) (st : List Int32) (m : ro_Mem) (fuel : Nat), n ≤ 200 → lo ≤ k → k < 2 ^ 30 → st.length ≤ 32 → (∀ o, ¬ o = o0 + 8 → m o = μ o) → sp_stk (m (o0 + 8)) st → n < fuel → ∃ m', (ro_loop (fun rec s => fb_X2_run_8 o0 (nI to) rec s.1 s.2.1 s.2.2.1 s.2.2.2) fuel (nI k, nI st.length, nI (200 - n), m)).bind (rt_end o0) = some (sp_ev op ar lt to n k st, m') ∧ ∀ o, ¬ o = o0 + 8 → m' o = μ o := by
  have fin : ∀ (st : List Int32) (m : ro_Mem), sp_stk (m (o0 + 8)) st → st.length ≤ 32 → rt_end o0 (.inr (.inr (.inr (nI st.length, m)))) = some (sp_fin st, m) := by
    intro st m hs hl
    show fj_X2_run_286 o0 (nI st.length) m = _
    unfold fj_X2_run_286
    match st, hs, hl with
    | [], _, _ => rw [if_neg (show ¬ nI ([] : List Int32).length = 1 by decide)]; rfl
    | [x], hs, _ =>
      rw [if_pos (show nI [x].length = 1 from rfl)]
      have : m (o0 + 8) 0 = x := hs.1
      rw [show (0 : Int32).toNatClampNeg = 0 from rfl, this]
      rfl
    | x :: y :: r, _, hl =>
      rw [if_neg]
      · rfl
      · intro e
        have := (nI_eq (a := (x :: y :: r).length) (b := 1) (by omega) (by decide)).mp e
        simp at this
  intro n
  induction n with
  | zero =>
    intro k st m fuel _ _ _ hl hm hs hf
    obtain ⟨f, rfl⟩ : ∃ f, fuel = f + 1 := ⟨fuel - 1, by omega⟩
    refine ⟨m, ?_, hm⟩
    show (fb_X2_run_8 o0 (nI to) _ (nI k) (nI st.length) (nI 200) m).bind (rt_end o0) = _
    unfold fb_X2_run_8
    rw [if_pos (show (200 : Int32) ≤ nI 200 from Int32.le_refl _), Option.bind_some, fin st m hs hl]
    rfl
  | succ n ih =>
    intro k st m fuel hn hk hk2 hl hm hs hf
    obtain ⟨f, rfl⟩ : ∃ f, fuel = f + 1 := ⟨fuel - 1, by omega⟩
    show ∃ m', (fb_X2_run_8 o0 (nI to) (ro_loop (fun rec s => fb_X2_run_8 o0 (nI to) rec s.1 s.2.1 s.2.2.1 s.2.2.2) f) (nI k) (nI st.length) (nI (200 - (n + 1))) m).bind (rt_end o0) = _ ∧ _
    generalize hrec : ro_loop (fun rec s => fb_X2_run_8 o0 (nI to) rec s.1 s.2.1 s.2.2.1 s.2.2.2) f = rec
    have hst : nI (200 - (n + 1)) + 1 = nI (200 - n) := by rw [nI_1]; congr 1; omega
    have ih' : ∀ (k : Nat) (st : List Int32) (m : ro_Mem), lo ≤ k → k < 2 ^ 30 → st.length ≤ 32 → (∀ o, ¬ o = o0 + 8 → m o = μ o) → sp_stk (m (o0 + 8)) st → ∃ m', (rec (nI k, nI st.length, nI (200 - n), m)).bind (rt_end o0) = some (sp_ev op ar lt to n k st, m') ∧ ∀ o, ¬ o = o0 + 8 → m' o = μ o := by
      intro k st m a1 a2 a3 a4 a5
      rw [← hrec]
      exact ih k st m f (by omega) a1 a2 a3 a4 a5 (by omega)
    unfold fb_X2_run_8
    rw [if_neg (show ¬ (200 : Int32) ≤ nI (200 - (n + 1)) from nI_ge (b := 200) (by omega) (by decide)), if_neg (nI_pos (by omega))]
    by_cases hkt : k < to
    · rw [if_neg (nI_ge hkt (by omega)), if_neg (show ¬ (200 : Int32) ≤ nI k from nI_ge (b := 200) (by omega) (by decide)), if_pos (rt_in (n := 200) (by omega) (by decide)), nI_clamp (by omega)]
      obtain ⟨w, v, hw, hv, ew, ev, hj⟩ := hcd k hk hkt
      have m1 : m (o0 + 1) k = nI w := by rw [hm _ (by omega), ← hop, ew]
      have m2 : m (o0 + 2) k = nI v := by rw [hm _ (by omega), ← har, ev]
      have m7 : m (o0 + 7) = lt := by rw [hm _ (by omega), hlt]
      rw [m1, m2]
      simp only [ro_lt]
      unfold sp_ev
      rw [if_pos (show k < to ∧ k < 200 from ⟨hkt, by omega⟩), ew, ev, nI_1]
      -- pushing
      have push : ∀ x, st.length < 32 → ∃ m', (rec (nI (k + 1), nI (st.length + 1), nI (200 - n), ro_set m (o0 + 8) st.length x)).bind (rt_end o0) = some (sp_ev op ar lt to n (k + 1) (x :: st), m') ∧ ∀ o, ¬ o = o0 + 8 → m' o = μ o := fun x hx => by
        refine ih' (k + 1) (x :: st) _ (by omega) (by omega) (by simp; omega) (fun o ho => ?_) ?_
        · rw [ro_set_ne _ _ _ ho, hm o ho]
        · rw [ro_set_same]
          exact sp_stk_put hs x
      by_cases w8 : w = 8
      · subst w8
        rw [if_pos (show nI 8 = 8 from rfl), if_pos (show nI 8 = 8 ∨ nI 8 = 9 from Or.inl rfl)]
        unfold fj_X2_run_65
        by_cases h32 : 32 ≤ st.length
        · rw [if_pos (show (32 : Int32) ≤ nI st.length from nI_le (a := 32) h32 (by omega)), if_pos (show 32 ≤ st.length ∨ _ from Or.inl h32)]
          exact ⟨m, rfl, hm⟩
        · rw [if_neg (show ¬ (32 : Int32) ≤ nI st.length from nI_ge (b := 32) (by omega) (by decide)), if_neg (show ¬ nI 8 = 9 by decide), if_neg (show ¬ (32 ≤ st.length ∨ nI 8 = 9 ∧ ¬ ro_in (nI v) 12) from fun h => h.elim h32 (fun h => absurd h.1 (by decide))), if_pos (show nI 8 = 8 from rfl)]
          unfold fj_X2_run_93
          rw [if_pos (show nI 8 = 8 from rfl), if_pos (rt_in (by omega) (by decide)), nI_clamp (by omega), nI_1, hst]
          exact push _ (by omega)
      by_cases w9 : w = 9
      · subst w9
        rw [if_neg (show ¬ nI 9 = 8 by decide), if_pos (show nI 9 = 9 from rfl), if_pos (show nI 9 = 8 ∨ nI 9 = 9 from Or.inr rfl)]
        unfold fj_X2_run_65
        by_cases h32 : 32 ≤ st.length
        · rw [if_pos (show (32 : Int32) ≤ nI st.length from nI_le (a := 32) h32 (by omega)), if_pos (show 32 ≤ st.length ∨ _ from Or.inl h32)]
          exact ⟨m, rfl, hm⟩
        · rw [if_neg (show ¬ (32 : Int32) ≤ nI st.length from nI_ge (b := 32) (by omega) (by decide)), if_pos (show nI 9 = 9 from rfl), if_neg (nI_pos (by omega))]
          by_cases hvv : v < 12
          · have hin : ro_in (nI v) 12 := rt_in hvv (by decide)
            rw [if_pos (show nI v < 12 from nI_lt (b := 12) hvv (by decide)), if_neg (show ¬ (32 ≤ st.length ∨ nI 9 = 9 ∧ ¬ ro_in (nI v) 12) from fun h => h.elim h32 (fun h => h.2 hin)), if_neg (show ¬ nI 9 = 8 by decide)]
            unfold fj_X2_run_93
            rw [if_neg (show ¬ nI 9 = 8 by decide), if_pos hin, if_pos (rt_in (by omega) (by decide)), nI_clamp (by omega), nI_clamp (by omega), nI_1, hst, m7]
            exact push _ (by omega)
          · rw [if_neg (show ¬ nI v < 12 from nI_nlt (b := 12) (by omega) (by omega)), if_pos (Or.inr ⟨rfl, fun h => hvv (by have := h.2; rwa [nI_clamp (by omega)] at this)⟩)]
            exact ⟨m, rfl, hm⟩
      rw [if_neg (show ¬ nI w = 8 from rt_ne (c := 8) (by omega) (by decide) w8), if_neg (show ¬ nI w = 9 from rt_ne (c := 9) (by omega) (by decide) w9), if_neg (show ¬ (nI w = 8 ∨ nI w = 9) from fun h => h.elim (rt_ne (c := 8) (by omega) (by decide) w8) (rt_ne (c := 9) (by omega) (by decide) w9))]
      by_cases w10 : w < 10
      · have hlt10 : nI w < (10 : Int32) := nI_lt (b := 10) w10 (by decide)
        rw [if_pos hlt10, if_pos hlt10]
        match st, hs, hl, ih', push with
        | [], hs, hl, _, _ =>
          rw [if_pos (show nI ([] : List Int32).length + (-1) < 1 from (by decide : nI 0 + (-1) < 1))]
          exact ⟨m, rfl, hm⟩
        | [x], hs, hl, _, _ =>
          rw [if_pos (show nI [x].length + (-1) < 1 from (by decide : nI 1 + (-1) < 1))]
          exact ⟨m, rfl, hm⟩
        | y :: x :: r, hs, hl, ih', push =>
          have hlen : (y :: x :: r).length = r.length + 1 + 1 := rfl
          have hl2 : r.length + 1 + 1 ≤ 32 := hl
          have sy : m (o0 + 8) (r.length + 1) = y := hs.1
          have sx : m (o0 + 8) r.length = x := hs.2.1
          have hm1 : nI (y :: x :: r).length + (-1) = nI (r.length + 1) := rt_m1'
          have hm2 : nI (r.length + 1) - 1 = nI r.length := nI_pred _
          rw [hm1, if_neg (show ¬ nI (r.length + 1) < 1 from nI_nlt (b := 1) (by omega) (by omega)), if_pos (rt_in (by omega) (by decide)), nI_clamp (by omega), sy]
          have go : ¬ (y = 0 ∧ (nI w = 3 ∨ nI w = 4)) → ∃ m', (fj_X2_run_250 rec o0 (nI to) (nI (k + 1)) (nI (r.length + 1)) (nI (200 - (n + 1))) (nI w) m).bind (rt_end o0) = some (sp_ev op ar lt to n (k + 1) (sp_rk (nI w) x y :: r), m') ∧ ∀ o, ¬ o = o0 + 8 → m' o = μ o := by
            intro hno
            unfold fj_X2_run_250
            rw [hm2, if_pos (rt_in (by omega) (by decide)), if_pos (rt_in (by omega) (by decide)), nI_clamp (by omega), nI_clamp (by omega), sx, sy, rt_reckonC (by omega) hno, Option.bind_some, hst]
            refine ih' (k + 1) (sp_rk (nI w) x y :: r) _ (by omega) (by omega) (by simp; omega) (fun o ho => ?_) ?_
            · rw [ro_set_ne _ _ _ ho, hm o ho]
            · rw [ro_set_same]
              exact sp_stk_put hs.2.2 _
          show ∃ m', _ = some (if y = 0 ∧ (nI w = 3 ∨ nI w = 4) then 0 else sp_ev op ar lt to n (k + 1) (sp_rk (nI w) x y :: r), m') ∧ _
          by_cases hy : y = 0
          · rw [if_pos hy]
            by_cases h3 : nI w = 3
            · rw [if_pos h3, if_pos ⟨hy, Or.inl h3⟩]
              exact ⟨m, rfl, hm⟩
            · by_cases h4 : nI w = 4
              · rw [if_neg h3, if_pos h4, if_pos ⟨hy, Or.inr h4⟩]
                exact ⟨m, rfl, hm⟩
              · have hno : ¬ (y = 0 ∧ (nI w = 3 ∨ nI w = 4)) := by
                  rintro ⟨_, h | h⟩
                  · exact h3 h
                  · exact h4 h
                rw [if_neg h3, if_neg h4, if_neg hno]
                exact go hno
          · have hno : ¬ (y = 0 ∧ (nI w = 3 ∨ nI w = 4)) := fun h => hy h.1
            rw [if_neg hy, if_neg hno]
            exact go hno
      · have hge : ¬ nI w < (10 : Int32) := nI_nlt (b := 10) (by omega) (by omega)
        rw [if_neg hge, if_neg hge]
        match st, hs, hl, ih' with
        | [], hs, hl, _ =>
          rw [if_neg (show ¬ (1 : Int32) ≤ nI ([] : List Int32).length by decide)]
          exact ⟨m, rfl, hm⟩
        | y :: r, hs, hl, ih' =>
          have hl2 : r.length + 1 ≤ 32 := hl
          have sy : m (o0 + 8) r.length = y := hs.1
          have hm2 : nI (y :: r).length - 1 = nI r.length := nI_pred _
          have hm1 : nI (y :: r).length + (-1) = nI r.length := rt_m1'
          rw [if_pos (show (1 : Int32) ≤ nI (y :: r).length from nI_le (a := 1) (by simp) (by simp; omega)), hm2, if_pos (rt_in (by omega) (by decide)), nI_clamp (by omega), sy]
          have put : ∀ x, ∃ m', (rec (nI (k + 1), nI (y :: r).length, nI (200 - n), ro_set m (o0 + 8) r.length x)).bind (rt_end o0) = some (sp_ev op ar lt to n (k + 1) (x :: r), m') ∧ ∀ o, ¬ o = o0 + 8 → m' o = μ o := fun x => by
            refine ih' (k + 1) (x :: r) _ (by omega) (by omega) (by simp; omega) (fun o ho => ?_) ?_
            · rw [ro_set_ne _ _ _ ho, hm o ho]
            · rw [ro_set_same]
              exact sp_stk_put hs.2 _
          have drop : ∃ m', (rec (nI (k + 1), nI r.length, nI (200 - n), m)).bind (rt_end o0) = some (sp_ev op ar lt to n (k + 1) r, m') ∧ ∀ o, ¬ o = o0 + 8 → m' o = μ o := ih' (k + 1) r m (by omega) (by omega) (by omega) hm hs.2
          have jump : 11 ≤ w → ∃ m', (rec (nI v, nI (y :: r).length, nI (200 - n), m)).bind (rt_end o0) = some (sp_ev op ar lt to n v (y :: r), m') ∧ ∀ o, ¬ o = o0 + 8 → m' o = μ o := fun h11 => ih' v (y :: r) m (by have := hj h11; omega) (by omega) (by simp; omega) hm hs
          show ∃ m', _ = some (if nI w = 10 then sp_ev op ar lt to n (k + 1) ((if y = 0 then 1 else 0) :: r) else if (¬ y = 0) ↔ nI w = 12 then sp_ev op ar lt to n (nI v).toNatClampNeg (y :: r) else sp_ev op ar lt to n (k + 1) r, m') ∧ _
          rw [nI_clamp (show v < 2 ^ 31 by omega)]
          by_cases e10 : nI w = 10
          · rw [if_pos e10]
            by_cases hy : y = 0
            · rw [if_pos hy, if_pos hy]
              unfold fj_X2_run_157
              rw [if_pos e10, if_pos rfl, hm2, if_pos (rt_in (by omega) (by decide)), nI_clamp (by omega), hst]
              exact put 1
            · rw [if_neg hy, if_neg hy]
              unfold fj_X2_run_157
              rw [if_pos e10, if_neg rt_10, hm2, if_pos (rt_in (by omega) (by decide)), nI_clamp (by omega), hst]
              exact put 0
          · have h11 : 11 ≤ w := by
              have : ¬ w = 10 := fun e => e10 (by rw [e]; rfl)
              omega
            rw [if_neg e10]
            by_cases hy : y = 0
            · rw [if_pos hy]
              unfold fj_X2_run_157
              rw [if_neg e10]
              by_cases e12 : nI w = 12
              · rw [if_pos e12, if_neg (show ¬ ((¬ y = 0) ↔ nI w = 12) from fun h => h.mpr e12 hy)]
                unfold fj_X2_run_202
                rw [if_neg (show ¬ (0 : Int32) = 1 by decide), hm1, hst]
                exact drop
              · rw [if_neg e12, if_pos (show (¬ y = 0) ↔ nI w = 12 from ⟨fun h => absurd hy h, fun h => absurd h e12⟩)]
                unfold fj_X2_run_202
                rw [if_pos rfl, hst]
                exact jump h11
            · rw [if_neg hy]
              unfold fj_X2_run_157
              rw [if_neg e10]
              by_cases e12 : nI w = 12
              · rw [if_pos e12, if_pos (show (¬ y = 0) ↔ nI w = 12 from ⟨fun _ => e12, fun _ => hy⟩)]
                unfold fj_X2_run_202
                rw [if_pos rfl, hst]
                exact jump h11
              · rw [if_neg e12, if_neg (show ¬ ((¬ y = 0) ↔ nI w = 12) from fun h => e12 (h.mp hy))]
                unfold fj_X2_run_202
                rw [if_neg (show ¬ (1 : Int32) = 0 by decide), hm1, hst]
                exact drop
    · rw [if_pos (nI_le (by omega) (by omega)), Option.bind_some, fin st m hs hl]
      unfold sp_ev
      rw [if_neg (by omega)]
      exact ⟨m, rfl, hm⟩
theorem rt_run {o0 to lo : Nat} {μ : ro_Mem} (hto : to ≤ 200) (hcd : cd_ok (μ (o0 + 1)) (μ (o0 + 2)) lo to) (hlo : lo ≤ 200) : ∃ m', fn_X2_run o0 (nI lo) (nI to) μ = some (sp_ev (μ (o0 + 1)) (μ (o0 + 2)) (μ (o0 + 7)) to 200 lo [], m') ∧ ∀ o, ¬ o = o0 + 8 → m' o = μ o :=
  rt_runL rfl rfl rfl hto hcd 200 lo [] μ ro_FU (by decide) (Nat.le_refl _) (by omega) (by simp) (fun _ _ => rfl) trivial (by decide)
