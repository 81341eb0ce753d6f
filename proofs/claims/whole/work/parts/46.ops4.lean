theorem rt_find {E : Type} {b : (Int32 → Option E) → Int32 → Option E} (p : Nat → Bool) (N : Nat) (e1 : Nat → E) (e0 : E) (hs : ∀ i, i < N → ∀ rec, b rec (nI i) = if p i = true then some (e1 i) else rec (nI (i + 1))) (he : ∀ rec, b rec (nI N) = some e0) (fuel : Nat) (hf : N < fuel) : ro_loop b fuel (nI 0) = some (match sp_first p N 0 with
  | none => e0
  | some i => e1 i) := by
  have key : ∀ k i fuel, i + k = N → k < fuel → ro_loop b fuel (nI i) = some (match sp_first p k i with
    | none => e0
    | some i => e1 i) := by
    intro k
    induction k with
    | zero =>
      intro i fuel hi hf
      cases fuel with
      | zero => omega
      | succ m =>
        have : i = N := by omega
        subst this
        exact he _
    | succ k ih =>
      intro i fuel hi hf
      cases fuel with
      | zero => omega
      | succ m =>
        show b (ro_loop b m) (nI i) = _
        rw [hs i (by omega)]
        unfold sp_first
        by_cases hp : p i = true
        · rw [if_pos hp, if_pos hp]
        · rw [if_neg hp, if_neg hp]
          exact ih (i + 1) m (by omega) (by omega)
  exact key N 0 fuel (by omega) hf
theorem sp_first_some {p : Nat → Bool} : ∀ {n i j : Nat}, sp_first p n i = some j → i ≤ j ∧ j < i + n ∧ p j = true ∧ ∀ x, i ≤ x → x < j → p x = false := by
  intro n
  induction n with
  | zero => intro i j h; cases h
  | succ n ih =>
    intro i j h
    unfold sp_first at h
    by_cases hp : p i = true
    · rw [if_pos hp] at h
      cases h
      exact ⟨Nat.le_refl _, by omega, hp, fun x a b => by omega⟩
    · rw [if_neg hp] at h
      obtain ⟨a, b, c, d⟩ := ih h
      refine ⟨by omega, by omega, c, fun x hx hy => ?_⟩
      by_cases e : x = i
      · subst e; simpa using hp
      · exact d x (by omega) hy
theorem sp_first_none {p : Nat → Bool} : ∀ {n i : Nat}, sp_first p n i = none → ∀ x, i ≤ x → x < i + n → p x = false := by
  intro n
  induction n with
  | zero => intro i _ x a b; omega
  | succ n ih =>
    intro i h x hx hy
    unfold sp_first at h
    by_cases hp : p i = true
    · rw [if_pos hp] at h; cases h
    · rw [if_neg hp] at h
      by_cases e : x = i
      · subst e; simpa using hp
      · exact ih h x (by omega) (by omega)
-- ===== guests =====
theorem rt_guestC {μ : ro_Mem} {g : Nat} (hg : g < 10) : fn_X1_isGuest 2 (nI g) μ = some (if bt (μ 2 11) g = true then 1 else 0) := by
  have h1 : ¬ nI g < 0 := nI_pos (by omega)
  have h2 : ¬ (10 : Int32) ≤ nI g := nI_ge hg (by decide)
  simp only [fn_X1_isGuest, if_neg h1, if_neg h2]
  by_cases hb : bt (μ 2 11) g = true
  · rw [if_pos ((rt_bit (by omega)).mpr hb), if_pos hb]
  · rw [if_neg (fun q => hb ((rt_bit (by omega)).mp q)), if_neg hb]
theorem rt_guestM {μ : ro_Mem} {g : Nat} (hg : g < 10) : fn_X12_isGuest (nI g) μ = some (if bt (μ 207 2) g = true then 1 else 0) := by
  have h1 : ¬ nI g < 0 := nI_pos (by omega)
  have h2 : ¬ (10 : Int32) ≤ nI g := nI_ge hg (by decide)
  simp only [fn_X12_isGuest, fn_X12_has, if_neg h1, if_neg h2]
  by_cases hb : bt (μ 207 2) g = true
  · rw [if_pos ((rt_bit (by omega)).mpr hb), if_pos hb]; rfl
  · rw [if_neg (fun q => hb ((rt_bit (by omega)).mp q)), if_neg hb]; rfl
theorem rt_guestN {μ : ro_Mem} {v : Int32} (h : v < 0 ∨ (10 : Int32) ≤ v) : fn_X1_isGuest 2 v μ = some 0 ∧ fn_X12_isGuest v μ = some 0 := by
  simp only [fn_X1_isGuest, fn_X12_isGuest]
  by_cases h1 : v < 0
  · simp only [if_pos h1]; exact ⟨trivial, trivial⟩
  · have h2 : (10 : Int32) ≤ v := h.resolve_left h1
    simp only [if_neg h1, if_pos h2]; exact ⟨trivial, trivial⟩
/-- a guest out in all acts -/
def rt_out (f : Nat → Int32) (g i : Nat) : Nat → Int32 := fun j => if j % 10 = g ∧ j / 10 < i then 255 else f j
theorem rt_out_0 (f : Nat → Int32) (g : Nat) : rt_out f g 0 = f := by
  funext j
  unfold rt_out
  rw [if_neg (by omega)]
theorem rt_out_s (f : Nat → Int32) {g : Nat} (hg : g < 10) (i : Nat) : upd (rt_out f g i) (10 * i + g) 255 = rt_out f g (i + 1) := by
  funext j
  unfold rt_out upd
  by_cases e : j = 10 * i + g
  · rw [if_pos e, if_pos (by omega)]
  · rw [if_neg e]
    dsimp only
    by_cases h : j % 10 = g ∧ j / 10 < i
    · rw [if_pos h, if_pos (by omega)]
    · rw [if_neg h, if_neg (by omega)]
theorem ro_arr_set (μ : ro_Mem) (o k : Nat) (f : Nat → Int32) (v : Int32) : ro_set (ro_arr μ o f) o k v = ro_arr μ o (upd f k v) := by
  funext o'
  by_cases h : o' = o
  · simp [ro_set, ro_arr, h]
  · simp [ro_set, ro_arr, h]
theorem ro_arr_self (μ : ro_Mem) (o : Nat) : ro_arr μ o (μ o) = μ := by
  funext o'
  by_cases h : o' = o
  · simp [ro_arr, h]
  · simp [ro_arr, h]
theorem rt_putC {μ : ro_Mem} {g : Nat} (hg : g < 10) : fl_X1_putGuest_21 2 (nI g) (0, μ) = some (ro_arr μ 11 (rt_out (μ 11) g 4)) := by
  unfold fl_X1_putGuest_21
  have h0 : ((0 : Int32), μ) = (fun i => (nI i, ro_arr μ 11 (rt_out (μ 11) g i))) 0 := by
    show _ = (nI 0, _)
    rw [rt_out_0, ro_arr_self]
    rfl
  rw [h0]
  refine rt_loop (fun i => (nI i, ro_arr μ 11 (rt_out (μ 11) g i))) 4 ?_ ?_ ro_FU (by decide)
  · intro i hi rec
    have h1 : ¬ (4 : Int32) ≤ nI i := nI_ge hi (by decide)
    have h2 : nI i * 10 + nI g = nI (10 * i + g) := by rw [fa_lit, pk_mul, nI_add, Nat.mul_comm]
    have h3 : ro_in (nI (10 * i + g)) 40 := rt_in (by omega) (by decide)
    show fb_X1_putGuest_21 2 (nI g) rec (nI i) (ro_arr μ 11 (rt_out (μ 11) g i)) = _
    simp only [fb_X1_putGuest_21, if_neg h1, h2, if_pos h3, ro_lt, nI_clamp (show 10 * i + g < 2 ^ 31 by omega)]
    rw [ro_arr_set, rt_out_s _ hg, nI_1]
  · intro rec
    show fb_X1_putGuest_21 2 (nI g) rec (nI 4) _ = _
    have h1 : (4 : Int32) ≤ nI 4 := Int32.le_refl _
    simp only [fb_X1_putGuest_21, if_pos h1]
theorem rt_putM {μ : ro_Mem} {g : Nat} (hg : g < 10) : fl_X12_guest_43 (nI g) (0, μ) = some (ro_arr μ 216 (rt_out (μ 216) g 4)) := by
  unfold fl_X12_guest_43
  have h0 : ((0 : Int32), μ) = (fun i => (nI i, ro_arr μ 216 (rt_out (μ 216) g i))) 0 := by
    show _ = (nI 0, _)
    rw [rt_out_0, ro_arr_self]
    rfl
  rw [h0]
  refine rt_loop (fun i => (nI i, ro_arr μ 216 (rt_out (μ 216) g i))) 4 ?_ ?_ ro_FU (by decide)
  · intro i hi rec
    have h1 : ¬ (4 : Int32) ≤ nI i := nI_ge hi (by decide)
    have h2 : 10 * nI i + nI g = nI (10 * i + g) := by rw [fa_lit, pk_mul, nI_add]
    have h3 : ro_in (nI (10 * i + g)) 40 := rt_in (by omega) (by decide)
    show fb_X12_guest_43 (nI g) rec (nI i) (ro_arr μ 216 (rt_out (μ 216) g i)) = _
    simp only [fb_X12_guest_43, if_neg h1, h2, if_pos h3, ro_lt, nI_clamp (show 10 * i + g < 2 ^ 31 by omega)]
    rw [ro_arr_set, rt_out_s _ hg, nI_1]
  · intro rec
    show fb_X12_guest_43 (nI g) rec (nI 4) _ = _
    have h1 : (4 : Int32) ≤ nI 4 := Int32.le_refl _
    simp only [fb_X12_guest_43, if_pos h1]
theorem rt_out_at (f : Nat → Int32) {g a x : Nat} (hg : g < 10) (ha : a < 4) (hx : x < 10) : rt_out f g 4 (10 * a + x) = if x = g then 255 else f (10 * a + x) := by
  unfold rt_out
  by_cases e : x = g
  · rw [if_pos (by omega), if_pos e]
  · rw [if_neg (by omega), if_neg e]
theorem iv_G.put {rk st mrk mst : Nat → Int32} {told mtold : Int32} (h : iv_G rk st mrk mst told mtold) {g n : Nat} (hg : g < 10) (hn : 1 ≤ n) (hn2 : n ≤ 99) : iv_G (upd rk g (nI n)) (rt_out st g 4) (upd mrk g (nI n)) (rt_out mst g 4) (told ||| ((1 : Int32) <<< (nI g &&& 31))) (mtold ||| ((1 : Int32) <<< (nI g &&& 31))) := by
  obtain ⟨h1, h2, h3, h4, h5, h6⟩ := h
  refine ⟨by rw [h1], ?_, ?_, ?_, ?_, ?_⟩
  · intro j hj
    by_cases h32 : j < 32
    · rw [rt_or (by omega) h32, h2 j hj, decide_eq_false (by omega)]; rfl
    · exact b_big (by omega)
  · intro j hj hb
    rw [rt_or (by omega) (by omega)] at hb
    by_cases e : j = g
    · simp only [upd, e, if_true]
      exact ⟨trivial, n, hn, hn2, rfl⟩
    · simp only [upd, e, if_false]
      exact h3 j hj (by simpa [e] using hb)
  · intro a j ha hj hb
    rw [rt_out_at _ hg ha hj, rt_out_at _ hg ha hj]
    rw [rt_or (by omega) (by omega)] at hb
    by_cases e : j = g
    · rw [if_pos e, if_pos e]
    · rw [if_neg e, if_neg e]
      exact h4 a j ha hj (by simpa [e] using hb)
  · intro a j ha hj
    rw [rt_out_at _ hg ha hj, rt_or (by omega) (by omega)]
    by_cases e : j = g
    · rw [if_pos e]; exact Or.inl rfl
    · rw [if_neg e]
      rcases h5 a j ha hj with q | ⟨q, r⟩
      · exact Or.inl q
      · exact Or.inr ⟨by simp [q], r⟩
  · intro a j j' ha hj hj' he hne
    rw [rt_out_at _ hg ha hj] at he hne
    rw [rt_out_at _ hg ha hj'] at he
    by_cases e : j = g
    · rw [if_pos e] at hne; exact absurd rfl hne
    · rw [if_neg e] at he hne
      by_cases e' : j' = g
      · rw [if_pos e'] at he; exact absurd he hne
      · rw [if_neg e'] at he
        exact h6 a j j' ha hj hj' he hne
theorem op_guest (a d : Int32) (μ : ro_Mem) (hI : Inv μ) : ∃ r μ1 μ2, fn_X11_guest a d μ = some (r, μ1) ∧ fn_X12_guest a d μ1 = some (r, μ2) ∧ Inv μ2 := by
  obtain ⟨hU, hB, hMo, hS, hR, hG, hN, hX⟩ := hI.1
  rcases rt_ix a 10 (by decide) with h | ⟨g, hg, rfl⟩
  · refine ⟨0, μ, μ, ?_, ?_, hI⟩
    · by_cases h1 : a < 0
      · simp only [fn_X11_guest, if_pos h1]
      · simp only [fn_X11_guest, if_neg h1, if_pos (show (10 : Int32) ≤ a from h.resolve_left h1)]
    · have : a < 0 ∨ ¬ a ≤ 9 := by
        rcases h with h | h
        · exact Or.inl h
        · right
          intro q
          rw [fa_le] at q
          have h : (10 : Int32) ≤ a := h
          rw [fa_le] at h
          have e1 : (10 : Int32).toInt = 10 := by decide
          have e2 : (9 : Int32).toInt = 9 := by decide
          omega
      simp only [fn_X12_guest, rt_innN this, Option.bind_some, if_true]
  · have k1 : ¬ nI g < 0 := nI_pos (by omega)
    have k2 : ¬ (10 : Int32) ≤ nI g := nI_ge hg (by decide)
    have k3 : nI g ≤ 9 := nI_le (b := 9) (by omega) (by decide)
    by_cases hd : d < 1
    · refine ⟨0, μ, μ, ?_, ?_, hI⟩
      · simp only [fn_X11_guest, if_neg k1, if_neg k2, if_pos hd]
      · simp only [fn_X12_guest, rt_innY k1 k3, rt_innN (Or.inl hd), Option.bind_some, if_neg rt_10, if_true]
    · by_cases hd2 : d ≤ 99
      · obtain ⟨n, hn, hn1, rfl⟩ : ∃ n, n ≤ 99 ∧ 1 ≤ n ∧ d = nI n := by
          have hd0 : ¬ d < 0 := by
            intro q
            apply hd
            rw [fa_lt] at q ⊢
            have e1 : (1 : Int32).toInt = 1 := by decide
            have e0 : (0 : Int32).toInt = 0 := by decide
            omega
          obtain ⟨n, hn, rfl⟩ := rt_le99 hd0 (m := 99) (by decide) hd2
          refine ⟨n, hn, ?_, rfl⟩
          rcases Nat.eq_zero_or_pos n with e | e
          · subst e; exact absurd (by decide) hd
          · exact e
        have hin : ro_in (nI g) 10 := rt_in hg (by decide)
        have hcl : (nI g).toNatClampNeg = g := nI_clamp (by omega)
        have hto : μ 207 2 = μ 2 11 := hG.1
        obtain ⟨x, hx⟩ : ∃ x, x = (μ 2 11) ||| ((1 : Int32) <<< (nI g &&& 31)) := ⟨_, rfl⟩
        obtain ⟨m1, hm1⟩ : ∃ m1, m1 = ro_arr (ro_set (ro_set μ 10 g (nI n)) 2 11 x) 11 (rt_out (μ 11) g 4) := ⟨_, rfl⟩
        obtain ⟨m2, hm2⟩ : ∃ m2, m2 = ro_arr (ro_set (ro_set m1 207 2 x) 215 g (nI n)) 216 (rt_out (μ 216) g 4) := ⟨_, rfl⟩
        refine ⟨1, m1, m2, ?_, ?_, ?_⟩
        · have e1 : ro_set μ 10 g (nI n) 2 11 = μ 2 11 := by simp [ro_set]
          have e2 : ro_set (ro_set μ 10 g (nI n)) 2 11 x 11 = μ 11 := by simp [ro_set]
          simp only [fn_X11_guest, fn_X1_putGuest, if_neg k1, if_neg k2, if_neg hd, if_pos hd2, if_pos hin, ro_lt, hcl, e1, ← hx, rt_putC hg, e2, Option.bind_some, ← hm1]
        · have e1 : m1 207 2 = μ 2 11 := by rw [hm1, ← hto]; simp [ro_set, ro_arr]
          have e2 : ro_set (ro_set m1 207 2 x) 215 g (nI n) 216 = μ 216 := by rw [hm1]; simp [ro_set, ro_arr]
          simp only [fn_X12_guest, rt_innY k1 k3, rt_innY hd hd2, Option.bind_some, if_neg rt_10, if_pos hin, ro_lt, hcl, e1, ← hx, rt_putM hg, e2, ← hm2]
        · have hof : ∀ o, (¬ o = 2 ∧ ¬ o = 10 ∧ ¬ o = 11 ∧ ¬ o = 207 ∧ ¬ o = 215 ∧ ¬ o = 216) → m2 o = μ o := fun o h => by
            rw [hm2, ro_arr_ne _ _ h.2.2.2.2.2, ro_set_ne _ _ _ h.2.2.2.2.1, ro_set_ne _ _ _ h.2.2.2.1, hm1, ro_arr_ne _ _ h.2.2.1, ro_set_ne _ _ _ h.1, ro_set_ne _ _ _ h.2.1]
          have e2 : ∀ j, ¬ j = 11 → m2 2 j = μ 2 j := fun j hj => by rw [hm2, hm1]; simp [ro_set, ro_arr, upd, hj]
          have e207 : ∀ j, ¬ j = 2 → m2 207 j = μ 207 j := fun j hj => by rw [hm2, hm1]; simp [ro_set, ro_arr, upd, hj]
          have f2 : m2 2 11 = x := by rw [hm2, hm1]; simp [ro_set, ro_arr, upd]
          have f207 : m2 207 2 = x := by rw [hm2, hm1]; simp [ro_set, ro_arr, upd]
          have g10 : m2 10 = upd (μ 10) g (nI n) := by rw [hm2, hm1]; simp [ro_set, ro_arr]
          have g11 : m2 11 = rt_out (μ 11) g 4 := by rw [hm2, hm1]; simp [ro_set, ro_arr]
          have g215 : m2 215 = upd (μ 215) g (nI n) := by rw [hm2, hm1]; simp [ro_set, ro_arr]
          have g216 : m2 216 = rt_out (μ 216) g 4 := by rw [hm2, hm1]; simp [ro_set, ro_arr]
          refine hI.calm ⟨?_, ?_, ?_, ?_, ?_, ?_, ?_, ?_⟩ ?_ (hof 0 (by omega)) (e2 6 (by decide)) (e2 7 (by decide)) (fun o h => hof o (by omega)) (fun k h => e207 k (by omega))
          · rw [hof 3 (by omega), hof 208 (by omega)]; exact hU
          · rw [hof 4 (by omega), hof 209 (by omega)]; exact hB
          · rw [hof 5 (by omega), hof 210 (by omega)]; exact hMo
          · rw [hof 6 (by omega), hof 7 (by omega), hof 8 (by omega), hof 211 (by omega), hof 212 (by omega), hof 213 (by omega), e2 6 (by decide), e2 7 (by decide), e207 1 (by decide)]; exact hS
          · rw [hof 9 (by omega), hof 214 (by omega)]; exact hR
          · rw [g10, g11, g215, g216, f2, f207, hx]
            have := hG.put hg hn1 hn
            rw [hto] at this
            exact this
          · rw [hof 12 (by omega), hof 13 (by omega), hof 14 (by omega), hof 257 (by omega), hof 258 (by omega), hof 259 (by omega), e2 12 (by decide), e2 13 (by decide), e207 70 (by decide), e207 71 (by decide)]; exact hN
          · rw [e2 17 (by decide), e207 0 (by decide)]; exact hX
          · rw [hof 61 (by omega), hof 217 (by omega), hof 60 (by omega), e207 13 (by decide)]; exact hI.2.2.1
      · refine ⟨0, μ, μ, ?_, ?_, hI⟩
        · simp only [fn_X11_guest, if_neg k1, if_neg k2, if_neg hd, if_neg hd2]
        · simp only [fn_X12_guest, rt_innY k1 k3, rt_innN (Or.inr hd2), Option.bind_some, if_neg rt_10, if_true]
