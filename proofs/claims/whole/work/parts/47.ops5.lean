theorem sp_first_congr {p q : Nat → Bool} : ∀ {n i : Nat}, (∀ x, i ≤ x → x < i + n → p x = q x) → sp_first p n i = sp_first q n i := by
  intro n
  induction n with
  | zero => intro i _; rfl
  | succ n ih =>
    intro i h
    unfold sp_first
    rw [h i (Nat.le_refl _) (by omega), ih (fun x a b => h x (by omega) (by omega))]
def sp_who (st : Nat → Int32) (a s : Nat) : Option Nat := sp_first (fun g => decide (st (10 * a + g) = nI s)) 10 0
def sp_wv (w : Option Nat) : Int32 := match w with
  | none => -1
  | some g => nI g
theorem rt_255 {s : Nat} (h : s < 96) : ¬ nI s = 255 := by
  intro e
  have := (nI_eq (a := s) (b := 255) (by omega) (by decide)).mp e
  omega
theorem rt_guestOn {μ : ro_Mem} {a s : Nat} (ha : a < 4) (hs : s < 96) : fn_X1_guestOn 2 (nI a) (nI s) μ = some (sp_wv (sp_who (μ 11) a s)) := by
  have hl : fl_X1_guestOn_2 2 (nI a) (nI s) μ 0 = some (match sp_who (μ 11) a s with
    | none => Sum.inr ()
    | some g => Sum.inl (nI g)) := by
    unfold fl_X1_guestOn_2
    refine rt_find (fun g => decide (μ 11 (10 * a + g) = nI s)) 10 (fun g => (Sum.inl (nI g) : Int32 ⊕ Unit)) (Sum.inr ()) ?_ ?_ ro_FU (by decide)
    · intro g hg rec
      have h1 : ¬ (10 : Int32) ≤ nI g := nI_ge hg (by decide)
      have h2 : nI a * 10 + nI g = nI (10 * a + g) := by rw [fa_lit, pk_mul, nI_add, Nat.mul_comm]
      have h3 : ro_in (nI (10 * a + g)) 40 := rt_in (by omega) (by decide)
      show fb_X1_guestOn_2 2 (nI a) (nI s) μ rec (nI g) = _
      simp only [fb_X1_guestOn_2, if_neg h1, if_neg (rt_255 hs), h2, if_pos h3, nI_clamp (show 10 * a + g < 2 ^ 31 by omega), nI_1, decide_eq_true_eq]
    · intro rec
      show fb_X1_guestOn_2 2 (nI a) (nI s) μ rec (nI 10) = _
      simp only [fb_X1_guestOn_2, if_pos (show (10 : Int32) ≤ nI 10 from Int32.le_refl _)]
  simp only [fn_X1_guestOn, hl, Option.bind_some]
  cases sp_who (μ 11) a s <;> rfl
theorem rt_guestOn_out {μ : ro_Mem} {v : Int32} : fn_X1_guestOn 2 v 255 μ = some (-1) := by
  have hl : fl_X1_guestOn_2 2 v 255 μ 0 = some (.inr ()) := by
    unfold fl_X1_guestOn_2
    show fb_X1_guestOn_2 2 v 255 μ _ 0 = _
    simp only [fb_X1_guestOn_2, if_true]
    rw [if_neg (by decide)]
  simp only [fn_X1_guestOn, hl, Option.bind_some]
  rfl
theorem rt_whoOn {μ : ro_Mem} {st : Nat → Int32} {rk mrk : Nat → Int32} {told : Int32} {a s : Nat} (hG : iv_G rk st mrk (μ 216) told (μ 207 2)) (ha : a < 4) (hs : s < 96) : fn_X12_whoOn (nI a) (nI s) μ = some (sp_wv (sp_who st a s)) := by
  have hp : sp_who st a s = sp_first (fun g => bt (μ 207 2) g && decide (μ 216 (10 * a + g) = nI s)) 10 0 := by
    refine sp_first_congr (fun g _ hg => ?_)
    obtain ⟨h1, -, -, h4, h5, -⟩ := hG
    rw [h1]
    cases hb : bt told g
    · rcases h5 a g ha (by omega) with q | ⟨q, -⟩
      · rw [q]
        simp only [Bool.false_and]
        exact decide_eq_false (fun e => rt_255 hs e.symm)
      · rw [hb] at q; cases q
    · rw [h4 a g ha (by omega) hb]
      simp
  have hl : fl_X12_whoOn_2 (nI a) (nI s) μ 0 = some (match sp_who st a s with
    | none => Sum.inr ()
    | some g => Sum.inl (nI g)) := by
    unfold fl_X12_whoOn_2
    rw [hp]
    refine rt_find (fun g => bt (μ 207 2) g && decide (μ 216 (10 * a + g) = nI s)) 10 (fun g => (Sum.inl (nI g) : Int32 ⊕ Unit)) (Sum.inr ()) ?_ ?_ ro_FU (by decide)
    · intro g hg rec
      have h1 : ¬ (10 : Int32) ≤ nI g := nI_ge hg (by decide)
      have h2 : 10 * nI a + nI g = nI (10 * a + g) := by rw [fa_lit, pk_mul, nI_add]
      have h3 : ro_in (nI (10 * a + g)) 40 := rt_in (by omega) (by decide)
      show fb_X12_whoOn_2 (nI a) (nI s) μ rec (nI g) = _
      simp only [fb_X12_whoOn_2, if_neg h1, rt_guestM hg, Option.bind_some, h2, if_pos h3, nI_clamp (show 10 * a + g < 2 ^ 31 by omega), nI_1]
      cases hb : bt (μ 207 2) g
      · simp
      · simp only [if_true, if_neg rt_10, Bool.true_and, decide_eq_true_eq]
    · intro rec
      show fb_X12_whoOn_2 (nI a) (nI s) μ rec (nI 10) = _
      simp only [fb_X12_whoOn_2, if_pos (show (10 : Int32) ≤ nI 10 from Int32.le_refl _)]
  simp only [fn_X12_whoOn, hl, Option.bind_some]
  cases sp_who st a s <;> rfl
theorem iv_G.sit {rk st mrk mst : Nat → Int32} {told mtold : Int32} (h : iv_G rk st mrk mst told mtold) {a g : Nat} {v : Int32} (ha : a < 4) (hg : g < 10) (ht : bt told g = true) (hv : v = 255 ∨ ∃ s, s < 96 ∧ v = nI s ∧ ∀ x, x < 10 → st (10 * a + x) = nI s → x = g) : iv_G rk (upd st (10 * a + g) v) mrk (upd mst (10 * a + g) v) told mtold := by
  obtain ⟨h1, h2, h3, h4, h5, h6⟩ := h
  refine ⟨h1, h2, h3, ?_, ?_, ?_⟩
  · intro b x hb hx hbt
    unfold upd
    by_cases e : 10 * b + x = 10 * a + g
    · rw [if_pos e, if_pos e]
    · rw [if_neg e, if_neg e]; exact h4 b x hb hx hbt
  · intro b x hb hx
    unfold upd
    by_cases e : 10 * b + x = 10 * a + g
    · rw [if_pos e]
      have : x = g := by omega
      subst this
      rcases hv with rfl | ⟨s, hs, rfl, -⟩
      · exact Or.inl rfl
      · exact Or.inr ⟨ht, s, hs, rfl⟩
    · rw [if_neg e]; exact h5 b x hb hx
  · intro b x y hb hx hy he hne
    unfold upd at he hne
    by_cases e : 10 * b + x = 10 * a + g
    · by_cases e' : 10 * b + y = 10 * a + g
      · omega
      · rw [if_pos e, if_neg e'] at he
        rw [if_pos e] at hne
        rcases hv with rfl | ⟨s, hs, rfl, hu⟩
        · exact absurd rfl hne
        · have hba : b = a := by omega
          subst hba
          have := hu y hy he.symm
          omega
    · rw [if_neg e] at he hne
      by_cases e' : 10 * b + y = 10 * a + g
      · rw [if_pos e'] at he
        rcases hv with rfl | ⟨s, hs, rfl, hu⟩
        · exact absurd he hne
        · have hba : b = a := by omega
          subst hba
          have := hu x hx he
          omega
      · rw [if_neg e'] at he
        exact h6 b x y hb hx hy he hne
/-- the last step of sits, in both -/
theorem rt_sit {μ : ro_Mem} (hI : Inv μ) {a g : Nat} {v : Int32} (ha : a < 4) (hg : g < 10) (ht : bt (μ 2 11) g = true) (hv : v = 255 ∨ ∃ s, s < 96 ∧ v = nI s ∧ ∀ x, x < 10 → μ 11 (10 * a + x) = nI s → x = g) : Inv (ro_set (ro_set μ 11 (10 * a + g) v) 216 (10 * a + g) v) := by
  obtain ⟨hU, hB, hMo, hS, hR, hG, hN, hX⟩ := hI.1
  have hof : ∀ o, (¬ o = 11 ∧ ¬ o = 216) → ro_set (ro_set μ 11 (10 * a + g) v) 216 (10 * a + g) v o = μ o := fun o h => by
    rw [ro_set_ne _ _ _ h.2, ro_set_ne _ _ _ h.1]
  generalize hM : ro_set (ro_set μ 11 (10 * a + g) v) 216 (10 * a + g) v = M at hof
  have g11 : M 11 = upd (μ 11) (10 * a + g) v := by rw [← hM]; simp [ro_set]
  have g216 : M 216 = upd (μ 216) (10 * a + g) v := by rw [← hM]; simp [ro_set]
  refine hI.calm ⟨?_, ?_, ?_, ?_, ?_, ?_, ?_, ?_⟩ ?_ (hof 0 (by omega)) (by rw [hof 2 (by omega)]) (by rw [hof 2 (by omega)]) (fun o h => hof o (by omega)) (fun k h => by rw [hof 207 (by omega)])
  · rw [hof 3 (by omega), hof 208 (by omega)]; exact hU
  · rw [hof 4 (by omega), hof 209 (by omega)]; exact hB
  · rw [hof 5 (by omega), hof 210 (by omega)]; exact hMo
  · rw [hof 6 (by omega), hof 7 (by omega), hof 8 (by omega), hof 211 (by omega), hof 212 (by omega), hof 213 (by omega), hof 2 (by omega), hof 207 (by omega)]; exact hS
  · rw [hof 9 (by omega), hof 214 (by omega)]; exact hR
  · rw [hof 10 (by omega), g11, hof 215 (by omega), g216, hof 2 (by omega), hof 207 (by omega)]
    exact hG.sit ha hg ht hv
  · rw [hof 12 (by omega), hof 13 (by omega), hof 14 (by omega), hof 257 (by omega), hof 258 (by omega), hof 259 (by omega), hof 2 (by omega), hof 207 (by omega)]; exact hN
  · rw [hof 2 (by omega), hof 207 (by omega)]; exact hX
  · rw [hof 61 (by omega), hof 217 (by omega), hof 60 (by omega), hof 207 (by omega)]; exact hI.2.2.1
theorem op_sits (a b c d : Int32) (μ : ro_Mem) (hI : Inv μ) : ∃ r μ1 μ2, fn_X11_sits a b c d μ = some (r, μ1) ∧ fn_X12_sits a b c d μ1 = some (r, μ2) ∧ Inv μ2 := by
  have hG := hI.1.2.2.2.2.2.1
  have hto : μ 207 2 = μ 2 11 := hG.1
  have hsn : ∃ q, fn_X11_seatNumber c d = some q := by
    by_cases hp : (c < 0 ∨ (8 : Int32) ≤ c) ∨ (d < 0 ∨ (12 : Int32) ≤ d)
    · exact ⟨_, rt_seatNumber_no hp⟩
    · rcases rt_ix c 8 (by decide) with h | ⟨r, hr, rfl⟩
      · exact absurd (Or.inl h) hp
      · rcases rt_ix d 12 (by decide) with h | ⟨p, hpp, rfl⟩
        · exact absurd (Or.inr h) hp
        · exact ⟨_, rt_seatNumber hr hpp⟩
  -- the class: all comes to fj_X11_sits_26
  have hcl : ∃ q, fn_X11_sits a b c d μ = fj_X11_sits_26 a b q μ ∧ ((c = -1 ∧ q = 255) ∨ (¬ c = -1 ∧ fn_X11_seatNumber c d = some q)) := by
    by_cases hc : c = -1
    · exact ⟨255, by simp only [fn_X11_sits, if_pos hc], Or.inl ⟨hc, rfl⟩⟩
    · obtain ⟨q, hq⟩ := hsn
      exact ⟨q, by simp only [fn_X11_sits, if_neg hc, hq, Option.bind_some], Or.inr ⟨hc, hq⟩⟩
  obtain ⟨q, hq, hqc⟩ := hcl
  rw [hq]
  rcases rt_ix a 10 (by decide) with h | ⟨g, hg, rfl⟩
  · refine ⟨0, μ, μ, ?_, ?_, hI⟩
    · simp only [fj_X11_sits_26, (rt_guestN h).1, Option.bind_some, if_true]
    · simp only [fn_X12_sits, (rt_guestN h).2, Option.bind_some, if_true]
  · cases hb : bt (μ 2 11) g
    · refine ⟨0, μ, μ, ?_, ?_, hI⟩
      · simp only [fj_X11_sits_26, rt_guestC hg, hb, Option.bind_some]; rfl
      · simp only [fn_X12_sits, rt_guestM hg, hto, hb, Option.bind_some]; rfl
    · have gC : fn_X1_isGuest 2 (nI g) μ = some 1 := by rw [rt_guestC hg, hb, if_pos rfl]
      have gM : fn_X12_isGuest (nI g) μ = some 1 := by rw [rt_guestM hg, hto, hb, if_pos rfl]
      rcases rt_ix b 4 (by decide) with h | ⟨x, hx, rfl⟩
      · refine ⟨0, μ, μ, ?_, ?_, hI⟩
        · simp only [fj_X11_sits_26, gC, (rt_actN h).1, Option.bind_some, if_neg rt_10, if_true]
        · simp only [fn_X12_sits, gM, (rt_actN h).2, Option.bind_some, if_neg rt_10, if_true]
      · have i1 : nI x * 10 + nI g = nI (10 * x + g) := by rw [fa_lit, pk_mul, nI_add, Nat.mul_comm]
        have i2 : 10 * nI x + nI g = nI (10 * x + g) := by rw [fa_lit, pk_mul, nI_add]
        have i3 : ro_in (nI (10 * x + g)) 40 := rt_in (by omega) (by decide)
        have i4 : (nI (10 * x + g)).toNatClampNeg = 10 * x + g := nI_clamp (by omega)
        have j76 : ∀ v, fj_X11_sits_76 (nI g) (nI x) v μ = some (1, ro_set μ 11 (10 * x + g) v) := fun v => by
          simp only [fj_X11_sits_76, i1, if_pos i3, i4, ro_lt]
        rcases hqc with ⟨hc, rfl⟩ | ⟨hc, hsq⟩
        · refine ⟨1, ro_set μ 11 (10 * x + g) 255, ro_set (ro_set μ 11 (10 * x + g) 255) 216 (10 * x + g) 255, ?_, ?_, rt_sit hI hx hg hb (Or.inl rfl)⟩
          · simp only [fj_X11_sits_26, gC, (rt_actY hx).1, Option.bind_some, if_neg rt_10, rt_guestOn_out, if_true, j76, if_neg (show ¬ (255 : Int32) = -1 by decide)]
          · have gM' : fn_X12_isGuest (nI g) (ro_set μ 11 (10 * x + g) 255) = some 1 := by
              rw [rt_guestM hg, ro_set_ne _ _ _ (by decide), hto, hb, if_pos rfl]
            simp only [fn_X12_sits, gM', (rt_actY hx).2, Option.bind_some, if_neg rt_10, if_pos hc, i2, if_pos i3, i4, ro_lt]
        · by_cases hp : (c < 0 ∨ (8 : Int32) ≤ c) ∨ (d < 0 ∨ (12 : Int32) ≤ d)
          · rw [rt_seatNumber_no hp] at hsq
            cases hsq
            refine ⟨0, μ, μ, ?_, ?_, hI⟩
            · simp only [fj_X11_sits_26, gC, (rt_actY hx).1, Option.bind_some, if_neg rt_10, if_true]
            · simp only [fn_X12_sits, gM, (rt_actY hx).2, Option.bind_some, if_neg rt_10, if_neg hc, rt_isPlace_no hp, if_true]
          · obtain ⟨r, hr, rfl⟩ : ∃ r, r < 8 ∧ c = nI r := by
              rcases rt_ix c 8 (by decide) with h | h
              · exact absurd (Or.inl h) hp
              · exact h
            obtain ⟨p, hpp, rfl⟩ : ∃ p, p < 12 ∧ d = nI p := by
              rcases rt_ix d 12 (by decide) with h | h
              · exact absurd (Or.inr h) hp
              · exact h
            rw [rt_seatNumber hr hpp] at hsq
            have hlt : 12 * r + p < 96 := by omega
            have hs : (12 * nI r + nI p) = nI (12 * r + p) := by rw [fa_lit, pk_mul, nI_add]
            obtain ⟨s, hse⟩ : ∃ s, s = 12 * r + p := ⟨_, rfl⟩
            rw [← hse] at hlt hs hsq
            cases hsq
            have hne : ¬ nI s = -1 := rt_m1 (by omega)
            have wC := rt_guestOn (μ := μ) hx hlt
            have wM := rt_whoOn hG hx hlt
            cases hw : sp_who (μ 11) x s with
            | none =>
              rw [hw] at wC wM
              refine ⟨1, ro_set μ 11 (10 * x + g) (nI s), ro_set (ro_set μ 11 (10 * x + g) (nI s)) 216 (10 * x + g) (nI s), ?_, ?_, rt_sit hI hx hg hb (Or.inr ⟨s, hlt, rfl, ?_⟩)⟩
              · simp only [fj_X11_sits_26, gC, (rt_actY hx).1, Option.bind_some, if_neg rt_10, if_neg hne, wC, sp_wv, if_true, j76]
              · have gM' : fn_X12_isGuest (nI g) (ro_set μ 11 (10 * x + g) (nI s)) = some 1 := by
                  rw [rt_guestM hg, ro_set_ne _ _ _ (by decide), hto, hb, if_pos rfl]
                have wM' : fn_X12_whoOn (nI x) (nI s) (ro_set μ 11 (10 * x + g) (nI s)) = some (-1) := by
                  have hG' : iv_G (μ 10) (μ 11) (μ 215) (ro_set μ 11 (10 * x + g) (nI s) 216) (μ 2 11) (ro_set μ 11 (10 * x + g) (nI s) 207 2) := by
                    rw [ro_set_ne _ _ _ (by decide), ro_set_ne _ _ _ (by decide)]; exact hG
                  rw [rt_whoOn hG' hx hlt, hw]; rfl
                simp only [fn_X12_sits, gM', (rt_actY hx).2, Option.bind_some, if_neg rt_10, if_neg hc, rt_isPlace hr hpp, hs, wM', if_true, fj_X12_sits_77, i2, if_pos i3, i4, ro_lt]
              · intro y hy e
                have := sp_first_none hw y (Nat.zero_le _) (by omega)
                rw [decide_eq_true e] at this
                cases this
            | some w =>
              rw [hw] at wC wM
              obtain ⟨-, hw10, hwe, -⟩ := sp_first_some hw
              have hwe : μ 11 (10 * x + w) = nI s := of_decide_eq_true hwe
              have hwn : ¬ nI w = -1 := rt_m1 (by omega)
              by_cases e : w = g
              · subst e
                refine ⟨1, ro_set μ 11 (10 * x + w) (nI s), ro_set (ro_set μ 11 (10 * x + w) (nI s)) 216 (10 * x + w) (nI s), ?_, ?_, rt_sit hI hx hg hb (Or.inr ⟨s, hlt, rfl, ?_⟩)⟩
                · simp only [fj_X11_sits_26, gC, (rt_actY hx).1, Option.bind_some, if_neg rt_10, if_neg hne, wC, sp_wv, if_neg hwn, if_true, j76]
                · have gM' : fn_X12_isGuest (nI w) (ro_set μ 11 (10 * x + w) (nI s)) = some 1 := by
                    rw [rt_guestM hg, ro_set_ne _ _ _ (by decide), hto, hb, if_pos rfl]
                  have wM' : fn_X12_whoOn (nI x) (nI s) (ro_set μ 11 (10 * x + w) (nI s)) = some (nI w) := by
                    have hG' : iv_G (μ 10) (μ 11) (μ 215) (ro_set μ 11 (10 * x + w) (nI s) 216) (μ 2 11) (ro_set μ 11 (10 * x + w) (nI s) 207 2) := by
                      rw [ro_set_ne _ _ _ (by decide), ro_set_ne _ _ _ (by decide)]; exact hG
                    rw [rt_whoOn hG' hx hlt, hw]; rfl
                  simp only [fn_X12_sits, gM', (rt_actY hx).2, Option.bind_some, if_neg rt_10, if_neg hc, rt_isPlace hr hpp, hs, wM', if_neg hwn, if_true, fj_X12_sits_77, i2, if_pos i3, i4, ro_lt]
                · intro y hy e
                  exact hG.2.2.2.2.2 x y w hx hy (by omega) (by rw [e, hwe]) (by rw [e]; exact rt_255 hlt)
              · have hwg : ¬ nI w = nI g := fun q => e ((nI_eq (by omega) (by omega)).mp q)
                refine ⟨0, μ, μ, ?_, ?_, hI⟩
                · simp only [fj_X11_sits_26, gC, (rt_actY hx).1, Option.bind_some, if_neg rt_10, if_neg hne, wC, sp_wv, if_neg hwn, if_neg hwg]
                · simp only [fn_X12_sits, gM, (rt_actY hx).2, Option.bind_some, if_neg rt_10, if_neg hc, rt_isPlace hr hpp, hs, wM, sp_wv, if_neg hwn, if_neg hwg]
