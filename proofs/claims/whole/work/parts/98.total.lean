theorem rw_cl {i j : Nat} (h : i + j < 2 ^ 31) : (nI i + nI j).toNatClampNeg = i + j := by rw [nI_add, nI_clamp h]
theorem rw_in {i j L : Nat} (h : i + j < L) (hL : L < 2 ^ 31) : ro_in (nI i + nI j) L := by rw [nI_add]; exact rt_in h hL
set_option maxHeartbeats 4000000 in
set_option maxRecDepth 20000 in
theorem rw_step (P : ro_Mem → Prop) (h_seat : ∀ (a0 a1 a2 a3 : Int32) (μ : ro_Mem), (a2 = 0 ∨ a2 = 1) → P μ → ∃ r μ1 μ2, fn_X11_seat a0 a1 a2 a3 μ = some (r, μ1) ∧ fn_X12_seat a0 a1 a2 a3 μ1 = some (r, μ2) ∧ P μ2) (h_slate : ∀ (a0 a1 a2 a3 a4 : Int32) (μ : ro_Mem), P μ → ∃ r μ1 μ2, fn_X11_slate a0 a1 a2 a3 a4 μ = some (r, μ1) ∧ fn_X12_slate a0 a1 a2 a3 a4 μ1 = some (r, μ2) ∧ P μ2) (h_nail : ∀ (a0 a1 : Int32) (μ : ro_Mem), (a1 = 0 ∨ a1 = 1) → P μ → ∃ r μ1 μ2, fn_X11_nail a0 a1 μ = some (r, μ1) ∧ fn_X12_nail a0 a1 μ1 = some (r, μ2) ∧ P μ2) (h_rain : ∀ (a0 a1 : Int32) (μ : ro_Mem), P μ → ∃ r μ1 μ2, fn_X11_rain a0 a1 μ = some (r, μ1) ∧ fn_X12_rain a0 a1 μ1 = some (r, μ2) ∧ P μ2) (h_guest : ∀ (a0 a1 : Int32) (μ : ro_Mem), P μ → ∃ r μ1 μ2, fn_X11_guest a0 a1 μ = some (r, μ1) ∧ fn_X12_guest a0 a1 μ1 = some (r, μ2) ∧ P μ2) (h_sits : ∀ (a0 a1 a2 a3 : Int32) (μ : ro_Mem), P μ → ∃ r μ1 μ2, fn_X11_sits a0 a1 a2 a3 μ = some (r, μ1) ∧ fn_X12_sits a0 a1 a2 a3 μ1 = some (r, μ2) ∧ P μ2) (h_feed : ∀ (a0 a1 a2 a3 a4 : Int32) (μ : ro_Mem), P μ → ∃ r μ1 μ2, fn_X11_feed a0 a1 a2 a3 a4 μ = some (r, μ1) ∧ fn_X12_feed a0 a1 a2 a3 a4 μ1 = some (r, μ2) ∧ P μ2) (h_score : ∀ (a0 : Int32) (μ : ro_Mem), P μ → ∃ r μ1 μ2, fn_X11_score a0 μ = some (r, μ1) ∧ fn_X12_score a0 μ1 = some (r, μ2) ∧ P μ2) (h_law : ∀ (a0 : Int32) (μ : ro_Mem), P μ → ∃ r μ1 μ2, fn_X11_law a0 μ = some (r, μ1) ∧ fn_X12_law a0 μ1 = some (r, μ2) ∧ P μ2) (h_note : ∀ (a0 a1 : Int32) (μ : ro_Mem), P μ → ∃ r, fn_X11_note a0 a1 μ = some r ∧ fn_X12_note a0 a1 μ = some r) (h_drops : ∀ (a0 a1 : Int32) (μ : ro_Mem), P μ → ∃ r μ1 μ2, fn_X11_drops a0 a1 μ = some (r, μ1) ∧ fn_X12_drops a0 a1 μ1 = some (r, μ2) ∧ P μ2) (h_wet : ∀ (a0 a1 a2 : Int32) (μ : ro_Mem), P μ → ∃ r μ1 μ2, fn_X11_wet a0 a1 a2 μ = some (r, μ1) ∧ fn_X12_wet a0 a1 a2 μ1 = some (r, μ2) ∧ P μ2) (h_guestWet : ∀ (a0 a1 : Int32) (μ : ro_Mem), P μ → ∃ r μ1 μ2, fn_X11_guestWet a0 a1 μ = some (r, μ1) ∧ fn_X12_guestWet a0 a1 μ1 = some (r, μ2) ∧ P μ2) (h_house : ∀ (a0 a1 : Int32) (μ : ro_Mem), P μ → ∃ r μ1 μ2, fn_X11_house a0 a1 μ = some (r, μ1) ∧ fn_X12_house a0 a1 μ1 = some (r, μ2) ∧ P μ2) (h_seated : ∀ (a0 a1 a2 a3 : Int32) (μ : ro_Mem), P μ → ∃ r μ1 μ2, fn_X11_seated a0 a1 a2 a3 μ = some (r, μ1) ∧ fn_X12_seated a0 a1 a2 a3 μ1 = some (r, μ2) ∧ P μ2) (h_transposed : ∀ (a0 a1 : Int32) (μ : ro_Mem), P μ → ∃ r μ1 μ2, fn_X11_transposed a0 a1 μ = some (r, μ1) ∧ fn_X12_transposed a0 a1 μ1 = some (r, μ2) ∧ P μ2) (h_leftOut : ∀ (a0 a1 a2 : Int32) (μ : ro_Mem), P μ → ∃ r μ1 μ2, fn_X11_leftOut a0 a1 a2 μ = some (r, μ1) ∧ fn_X12_leftOut a0 a1 a2 μ1 = some (r, μ2) ∧ P μ2) (h_nails : ∀ (a0 a1 : Int32) (μ : ro_Mem), P μ → ∃ r μ1 μ2, fn_X11_nails a0 a1 μ = some (r, μ1) ∧ fn_X12_nails a0 a1 μ1 = some (r, μ2) ∧ P μ2) (h_sung : ∀ (a0 a1 a2 : Int32) (μ : ro_Mem), P μ → ∃ r μ1 μ2, fn_X11_sung a0 a1 a2 μ = some (r, μ1) ∧ fn_X12_sung a0 a1 a2 μ1 = some (r, μ2) ∧ P μ2) (h_sponge : ∀ (a0 a1 : Int32) (μ : ro_Mem), P μ → ∃ r μ1 μ2, fn_X11_sponge a0 a1 μ = some (r, μ1) ∧ fn_X12_sponge a0 a1 μ1 = some (r, μ2) ∧ P μ2) (h_paid : ∀ (a0 : Int32) (μ : ro_Mem), P μ → ∃ r μ1 μ2, fn_X11_paid a0 μ = some (r, μ1) ∧ fn_X12_paid a0 μ1 = some (r, μ2) ∧ P μ2) (h_perform : ∀ (μ : ro_Mem), P μ → ∃ r μ1 μ2, fn_X11_perform  μ = some (r, μ1) ∧ fn_X12_perform  μ1 = some (r, μ2) ∧ P μ2) (h_soFar : ∀ (a0 : Int32) (μ : ro_Mem), P μ → ∃ r, fn_X11_soFar a0 μ = some r ∧ fn_X12_soFar a0 μ = some r) (h_seed : ∀ (a0 : Int32) (μ : ro_Mem), P μ → ∃ r μ1 μ2, fn_X11_seed a0 μ = some (r, μ1) ∧ fn_X12_seed a0 μ1 = some (r, μ2) ∧ P μ2) (h_draw : ∀ (μ : ro_Mem), P μ → ∃ r μ1 μ2, fn_X11_draw  μ = some (r, μ1) ∧ fn_X12_draw  μ1 = some (r, μ2) ∧ P μ2) (h_keep : ∀ (μ : ro_Mem), P μ → ∃ r μ1 μ2, fn_X11_keep  μ = some (r, μ1) ∧ fn_X12_keep  μ1 = some (r, μ2) ∧ P μ2) (h_undo : ∀ (μ : ro_Mem), P μ → ∃ r μ1 μ2, fn_X11_undo  μ = some (r, μ1) ∧ fn_X12_undo  μ1 = some (r, μ2) ∧ P μ2) (h_check : ∀ (a0 a1 a2 : Int32) (μ : ro_Mem), P μ → ∃ r μ1 μ2, fn_X11_check a0 a1 a2 μ = some (r, μ1) ∧ fn_X12_check a0 a1 a2 μ1 = some (r, μ2) ∧ P μ2) (h_count : ∀ (a0 : Int32) (μ : ro_Mem), P μ → ∃ r, fn_X11_count a0 μ = some r ∧ fn_X12_count a0 μ = some r) {L : Nat} {xs : Nat → Int32} (hL : L ≤ 3072) {i : Nat} (hi : i + 6 ≤ L) {μ : ro_Mem} (hP : P μ) {rec : (Int32 × ro_Mem) → Option ro_Mem} (ih0 : ∀ μ2, P μ2 → ∃ μ', rec (nI (i + 6), μ2) = some μ') : ∃ μ', fb_L_law_18 L xs rec (nI i) μ = some μ' := by
  have i6 : True := trivial
  have ih : True → ∀ μ2, P μ2 → ∃ μ', rec (nI i + 6, μ2) = some μ' := fun _ μ2 h => by
    have := ih0 μ2 h
    rwa [show nI i + 6 = nI (i + 6) from nI_add i 6]
  have k1 : (nI i + 1).toNatClampNeg = i + 1 := rw_cl (j := 1) (by omega)
  have k2 : (nI i + 2).toNatClampNeg = i + 2 := rw_cl (j := 2) (by omega)
  have k3 : (nI i + 3).toNatClampNeg = i + 3 := rw_cl (j := 3) (by omega)
  have k4 : (nI i + 4).toNatClampNeg = i + 4 := rw_cl (j := 4) (by omega)
  have k5 : (nI i + 5).toNatClampNeg = i + 5 := rw_cl (j := 5) (by omega)
  have i1 : ro_in (nI i + 1) L := rw_in (j := 1) (by omega) (by omega)
  have i2 : ro_in (nI i + 2) L := rw_in (j := 2) (by omega) (by omega)
  have i3 : ro_in (nI i + 3) L := rw_in (j := 3) (by omega) (by omega)
  have i4 : ro_in (nI i + 4) L := rw_in (j := 4) (by omega) (by omega)
  have i5 : ro_in (nI i + 5) L := rw_in (j := 5) (by omega) (by omega)
  have i0 : ro_in (nI i) L := rt_in (by omega) (by omega)
  have k0 : (nI i).toNatClampNeg = i := nI_clamp (by omega)
  have hn : ¬ (nI L - 6) < nI i := by
    intro h
    rw [fa_lt] at h
    have h1 : (nI L - 6).toInt = (L : Int) - 6 := pk_sub_toInt (b := 6) (by omega) (by decide)
    rw [h1, nI_toInt (by omega)] at h
    omega
  unfold fb_L_law_18
  rw [if_neg hn, if_pos i0]
  simp only [k0]
  by_cases c0 : (xs i &&& 31) = 0
  · have hb : ∃ t, (t = 0 ∨ t = 1) ∧ t = (if xs (i + 3) = 0 then (0 : Int32) else 1) := ⟨_, by by_cases q : xs (i + 3) = 0 <;> simp [q], rfl⟩
    obtain ⟨t, ht, hte⟩ := hb
    obtain ⟨r, μ1, μ2, e1, e2, hP2⟩ := h_seat (xs (i + 1)) (xs (i + 2)) t (xs (i + 4)) μ ht hP
    by_cases q : xs (i + 3) = 0
    · have ht2 : t = 0 := by rw [hte]; simp [q]
      subst ht2
      simp only [c0, q, if_true, if_false, fj_L_law_188, fj_L_law_220, k1, k2, k3, k4, k5, if_pos i1, if_pos i2, if_pos i3, if_pos i4, if_pos i5, e1, e2, Option.bind_some]
      exact ih i6 μ2 hP2
    · have ht2 : t = 1 := by rw [hte]; simp [q]
      subst ht2
      simp only [c0, q, if_true, if_false, fj_L_law_188, fj_L_law_220, k1, k2, k3, k4, k5, if_pos i1, if_pos i2, if_pos i3, if_pos i4, if_pos i5, e1, e2, Option.bind_some]
      exact ih i6 μ2 hP2
  rw [if_neg c0]
  by_cases c1 : (xs i &&& 31) = 1
  · obtain ⟨r, μ1, μ2, e1, e2, hP2⟩ := h_slate (xs (i + 1)) (xs (i + 2)) (xs (i + 3)) (xs (i + 4)) (xs (i + 5)) μ hP
    simp only [c1, if_true, k1, k2, k3, k4, k5, if_pos i1, if_pos i2, if_pos i3, if_pos i4, if_pos i5, e1, e2, Option.bind_some]
    exact ih i6 μ2 hP2
  rw [if_neg c1]
  by_cases c2 : (xs i &&& 31) = 2
  · have hb : ∃ t, (t = 0 ∨ t = 1) ∧ t = (if xs (i + 2) = 0 then (0 : Int32) else 1) := ⟨_, by by_cases q : xs (i + 2) = 0 <;> simp [q], rfl⟩
    obtain ⟨t, ht, hte⟩ := hb
    obtain ⟨r, μ1, μ2, e1, e2, hP2⟩ := h_nail (xs (i + 1)) t μ ht hP
    by_cases q : xs (i + 2) = 0
    · have ht2 : t = 0 := by rw [hte]; simp [q]
      subst ht2
      simp only [c2, q, if_true, if_false, fj_L_law_315, fj_L_law_337, k1, k2, k3, k4, k5, if_pos i1, if_pos i2, if_pos i3, if_pos i4, if_pos i5, e1, e2, Option.bind_some]
      exact ih i6 μ2 hP2
    · have ht2 : t = 1 := by rw [hte]; simp [q]
      subst ht2
      simp only [c2, q, if_true, if_false, fj_L_law_315, fj_L_law_337, k1, k2, k3, k4, k5, if_pos i1, if_pos i2, if_pos i3, if_pos i4, if_pos i5, e1, e2, Option.bind_some]
      exact ih i6 μ2 hP2
  rw [if_neg c2]
  by_cases c3 : (xs i &&& 31) = 3
  · obtain ⟨r, μ1, μ2, e1, e2, hP2⟩ := h_rain (xs (i + 1)) (xs (i + 2)) μ hP
    simp only [c3, if_true, k1, k2, k3, k4, k5, if_pos i1, if_pos i2, if_pos i3, if_pos i4, if_pos i5, e1, e2, Option.bind_some]
    exact ih i6 μ2 hP2
  rw [if_neg c3]
  by_cases c4 : (xs i &&& 31) = 4
  · obtain ⟨r, μ1, μ2, e1, e2, hP2⟩ := h_guest (xs (i + 1)) (xs (i + 2)) μ hP
    simp only [c4, if_true, k1, k2, k3, k4, k5, if_pos i1, if_pos i2, if_pos i3, if_pos i4, if_pos i5, e1, e2, Option.bind_some]
    exact ih i6 μ2 hP2
  rw [if_neg c4]
  by_cases c5 : (xs i &&& 31) = 5
  · obtain ⟨r, μ1, μ2, e1, e2, hP2⟩ := h_sits (xs (i + 1)) (xs (i + 2)) (xs (i + 3)) (xs (i + 4)) μ hP
    simp only [c5, if_true, k1, k2, k3, k4, k5, if_pos i1, if_pos i2, if_pos i3, if_pos i4, if_pos i5, e1, e2, Option.bind_some]
    exact ih i6 μ2 hP2
  rw [if_neg c5]
  by_cases c6 : (xs i &&& 31) = 6
  · obtain ⟨r, μ1, μ2, e1, e2, hP2⟩ := h_feed (xs (i + 1)) (xs (i + 2)) (xs (i + 3)) (xs (i + 4)) (xs (i + 5)) μ hP
    simp only [c6, if_true, k1, k2, k3, k4, k5, if_pos i1, if_pos i2, if_pos i3, if_pos i4, if_pos i5, e1, e2, Option.bind_some]
    exact ih i6 μ2 hP2
  rw [if_neg c6]
  by_cases c7 : (xs i &&& 31) = 7
  · obtain ⟨r, μ1, μ2, e1, e2, hP2⟩ := h_score (xs (i + 1)) μ hP
    simp only [c7, if_true, k1, k2, k3, k4, k5, if_pos i1, if_pos i2, if_pos i3, if_pos i4, if_pos i5, e1, e2, Option.bind_some]
    exact ih i6 μ2 hP2
  rw [if_neg c7]
  by_cases c8 : (xs i &&& 31) = 8
  · obtain ⟨r, μ1, μ2, e1, e2, hP2⟩ := h_law (xs (i + 1)) μ hP
    simp only [c8, if_true, k1, k2, k3, k4, k5, if_pos i1, if_pos i2, if_pos i3, if_pos i4, if_pos i5, e1, e2, Option.bind_some]
    exact ih i6 μ2 hP2
  rw [if_neg c8]
  by_cases c9 : (xs i &&& 31) = 9
  · obtain ⟨r, e1, e2⟩ := h_note (xs (i + 1)) (xs (i + 2)) μ hP
    simp only [c9, if_true, k1, k2, k3, k4, k5, if_pos i1, if_pos i2, if_pos i3, if_pos i4, if_pos i5, e1, e2, Option.bind_some]
    exact ih i6 μ hP
  rw [if_neg c9]
  by_cases c10 : (xs i &&& 31) = 10
  · obtain ⟨r, μ1, μ2, e1, e2, hP2⟩ := h_drops (xs (i + 1)) (xs (i + 2)) μ hP
    simp only [c10, if_true, k1, k2, k3, k4, k5, if_pos i1, if_pos i2, if_pos i3, if_pos i4, if_pos i5, e1, e2, Option.bind_some]
    exact ih i6 μ2 hP2
  rw [if_neg c10]
  by_cases c11 : (xs i &&& 31) = 11
  · obtain ⟨r, μ1, μ2, e1, e2, hP2⟩ := h_wet (xs (i + 1)) (xs (i + 2)) (xs (i + 3)) μ hP
    simp only [c11, if_true, k1, k2, k3, k4, k5, if_pos i1, if_pos i2, if_pos i3, if_pos i4, if_pos i5, e1, e2, Option.bind_some]
    exact ih i6 μ2 hP2
  rw [if_neg c11]
  by_cases c12 : (xs i &&& 31) = 12
  · obtain ⟨r, μ1, μ2, e1, e2, hP2⟩ := h_guestWet (xs (i + 1)) (xs (i + 2)) μ hP
    simp only [c12, if_true, k1, k2, k3, k4, k5, if_pos i1, if_pos i2, if_pos i3, if_pos i4, if_pos i5, e1, e2, Option.bind_some]
    exact ih i6 μ2 hP2
  rw [if_neg c12]
  by_cases c13 : (xs i &&& 31) = 13
  · obtain ⟨r, μ1, μ2, e1, e2, hP2⟩ := h_house (xs (i + 1)) (xs (i + 2)) μ hP
    simp only [c13, if_true, k1, k2, k3, k4, k5, if_pos i1, if_pos i2, if_pos i3, if_pos i4, if_pos i5, e1, e2, Option.bind_some]
    exact ih i6 μ2 hP2
  rw [if_neg c13]
  by_cases c14 : (xs i &&& 31) = 14
  · obtain ⟨r, μ1, μ2, e1, e2, hP2⟩ := h_seated (xs (i + 1)) (xs (i + 2)) (xs (i + 3)) (xs (i + 4)) μ hP
    simp only [c14, if_true, k1, k2, k3, k4, k5, if_pos i1, if_pos i2, if_pos i3, if_pos i4, if_pos i5, e1, e2, Option.bind_some]
    exact ih i6 μ2 hP2
  rw [if_neg c14]
  by_cases c15 : (xs i &&& 31) = 15
  · obtain ⟨r, μ1, μ2, e1, e2, hP2⟩ := h_transposed (xs (i + 1)) (xs (i + 2)) μ hP
    simp only [c15, if_true, k1, k2, k3, k4, k5, if_pos i1, if_pos i2, if_pos i3, if_pos i4, if_pos i5, e1, e2, Option.bind_some]
    exact ih i6 μ2 hP2
  rw [if_neg c15]
  by_cases c16 : (xs i &&& 31) = 16
  · obtain ⟨r, μ1, μ2, e1, e2, hP2⟩ := h_leftOut (xs (i + 1)) (xs (i + 2)) (xs (i + 3)) μ hP
    simp only [c16, if_true, k1, k2, k3, k4, k5, if_pos i1, if_pos i2, if_pos i3, if_pos i4, if_pos i5, e1, e2, Option.bind_some]
    exact ih i6 μ2 hP2
  rw [if_neg c16]
  by_cases c17 : (xs i &&& 31) = 17
  · obtain ⟨r, μ1, μ2, e1, e2, hP2⟩ := h_nails (xs (i + 1)) (xs (i + 2)) μ hP
    simp only [c17, if_true, k1, k2, k3, k4, k5, if_pos i1, if_pos i2, if_pos i3, if_pos i4, if_pos i5, e1, e2, Option.bind_some]
    exact ih i6 μ2 hP2
  rw [if_neg c17]
  by_cases c18 : (xs i &&& 31) = 18
  · obtain ⟨r, μ1, μ2, e1, e2, hP2⟩ := h_sung (xs (i + 1)) (xs (i + 2)) (xs (i + 3)) μ hP
    simp only [c18, if_true, k1, k2, k3, k4, k5, if_pos i1, if_pos i2, if_pos i3, if_pos i4, if_pos i5, e1, e2, Option.bind_some]
    exact ih i6 μ2 hP2
  rw [if_neg c18]
  by_cases c19 : (xs i &&& 31) = 19
  · obtain ⟨r, μ1, μ2, e1, e2, hP2⟩ := h_sponge (xs (i + 1)) (xs (i + 2)) μ hP
    simp only [c19, if_true, k1, k2, k3, k4, k5, if_pos i1, if_pos i2, if_pos i3, if_pos i4, if_pos i5, e1, e2, Option.bind_some]
    exact ih i6 μ2 hP2
  rw [if_neg c19]
  by_cases c20 : (xs i &&& 31) = 20
  · obtain ⟨r, μ1, μ2, e1, e2, hP2⟩ := h_paid (xs (i + 1)) μ hP
    simp only [c20, if_true, k1, k2, k3, k4, k5, if_pos i1, if_pos i2, if_pos i3, if_pos i4, if_pos i5, e1, e2, Option.bind_some]
    exact ih i6 μ2 hP2
  rw [if_neg c20]
  by_cases c21 : (xs i &&& 31) = 21
  · obtain ⟨r, μ1, μ2, e1, e2, hP2⟩ := h_perform  μ hP
    simp only [c21, if_true, k1, k2, k3, k4, k5, if_pos i1, if_pos i2, if_pos i3, if_pos i4, if_pos i5, e1, e2, Option.bind_some]
    exact ih i6 μ2 hP2
  rw [if_neg c21]
  by_cases c22 : (xs i &&& 31) = 22
  · obtain ⟨r, e1, e2⟩ := h_soFar (xs (i + 1)) μ hP
    simp only [c22, if_true, k1, k2, k3, k4, k5, if_pos i1, if_pos i2, if_pos i3, if_pos i4, if_pos i5, e1, e2, Option.bind_some]
    exact ih i6 μ hP
  rw [if_neg c22]
  by_cases c23 : (xs i &&& 31) = 23
  · obtain ⟨r, μ1, μ2, e1, e2, hP2⟩ := h_seed (xs (i + 1)) μ hP
    simp only [c23, if_true, k1, k2, k3, k4, k5, if_pos i1, if_pos i2, if_pos i3, if_pos i4, if_pos i5, e1, e2, Option.bind_some]
    exact ih i6 μ2 hP2
  rw [if_neg c23]
  by_cases c24 : (xs i &&& 31) = 24
  · obtain ⟨r, μ1, μ2, e1, e2, hP2⟩ := h_draw  μ hP
    simp only [c24, if_true, k1, k2, k3, k4, k5, if_pos i1, if_pos i2, if_pos i3, if_pos i4, if_pos i5, e1, e2, Option.bind_some]
    exact ih i6 μ2 hP2
  rw [if_neg c24]
  by_cases c25 : (xs i &&& 31) = 25
  · obtain ⟨r, μ1, μ2, e1, e2, hP2⟩ := h_keep  μ hP
    simp only [c25, if_true, k1, k2, k3, k4, k5, if_pos i1, if_pos i2, if_pos i3, if_pos i4, if_pos i5, e1, e2, Option.bind_some]
    exact ih i6 μ2 hP2
  rw [if_neg c25]
  by_cases c26 : (xs i &&& 31) = 26
  · obtain ⟨r, μ1, μ2, e1, e2, hP2⟩ := h_undo  μ hP
    simp only [c26, if_true, k1, k2, k3, k4, k5, if_pos i1, if_pos i2, if_pos i3, if_pos i4, if_pos i5, e1, e2, Option.bind_some]
    exact ih i6 μ2 hP2
  rw [if_neg c26]
  by_cases c27 : (xs i &&& 31) = 27
  · obtain ⟨r, μ1, μ2, e1, e2, hP2⟩ := h_check (xs (i + 1)) (xs (i + 2)) (xs (i + 3)) μ hP
    simp only [c27, if_true, k1, k2, k3, k4, k5, if_pos i1, if_pos i2, if_pos i3, if_pos i4, if_pos i5, e1, e2, Option.bind_some]
    exact ih i6 μ2 hP2
  rw [if_neg c27]
  by_cases c28 : (xs i &&& 31) = 28
  · obtain ⟨r, e1, e2⟩ := h_count (xs (i + 1)) μ hP
    simp only [c28, if_true, k1, k2, k3, k4, k5, if_pos i1, if_pos i2, if_pos i3, if_pos i4, if_pos i5, e1, e2, Option.bind_some]
    exact ih i6 μ hP
  rw [if_neg c28]
  exact ih i6 μ hP

set_option maxHeartbeats 4000000 in
theorem law_total_of (P : ro_Mem → Prop) (h0 : P rz_m0) (h_seat : ∀ (a0 a1 a2 a3 : Int32) (μ : ro_Mem), (a2 = 0 ∨ a2 = 1) → P μ → ∃ r μ1 μ2, fn_X11_seat a0 a1 a2 a3 μ = some (r, μ1) ∧ fn_X12_seat a0 a1 a2 a3 μ1 = some (r, μ2) ∧ P μ2) (h_slate : ∀ (a0 a1 a2 a3 a4 : Int32) (μ : ro_Mem), P μ → ∃ r μ1 μ2, fn_X11_slate a0 a1 a2 a3 a4 μ = some (r, μ1) ∧ fn_X12_slate a0 a1 a2 a3 a4 μ1 = some (r, μ2) ∧ P μ2) (h_nail : ∀ (a0 a1 : Int32) (μ : ro_Mem), (a1 = 0 ∨ a1 = 1) → P μ → ∃ r μ1 μ2, fn_X11_nail a0 a1 μ = some (r, μ1) ∧ fn_X12_nail a0 a1 μ1 = some (r, μ2) ∧ P μ2) (h_rain : ∀ (a0 a1 : Int32) (μ : ro_Mem), P μ → ∃ r μ1 μ2, fn_X11_rain a0 a1 μ = some (r, μ1) ∧ fn_X12_rain a0 a1 μ1 = some (r, μ2) ∧ P μ2) (h_guest : ∀ (a0 a1 : Int32) (μ : ro_Mem), P μ → ∃ r μ1 μ2, fn_X11_guest a0 a1 μ = some (r, μ1) ∧ fn_X12_guest a0 a1 μ1 = some (r, μ2) ∧ P μ2) (h_sits : ∀ (a0 a1 a2 a3 : Int32) (μ : ro_Mem), P μ → ∃ r μ1 μ2, fn_X11_sits a0 a1 a2 a3 μ = some (r, μ1) ∧ fn_X12_sits a0 a1 a2 a3 μ1 = some (r, μ2) ∧ P μ2) (h_feed : ∀ (a0 a1 a2 a3 a4 : Int32) (μ : ro_Mem), P μ → ∃ r μ1 μ2, fn_X11_feed a0 a1 a2 a3 a4 μ = some (r, μ1) ∧ fn_X12_feed a0 a1 a2 a3 a4 μ1 = some (r, μ2) ∧ P μ2) (h_score : ∀ (a0 : Int32) (μ : ro_Mem), P μ → ∃ r μ1 μ2, fn_X11_score a0 μ = some (r, μ1) ∧ fn_X12_score a0 μ1 = some (r, μ2) ∧ P μ2) (h_law : ∀ (a0 : Int32) (μ : ro_Mem), P μ → ∃ r μ1 μ2, fn_X11_law a0 μ = some (r, μ1) ∧ fn_X12_law a0 μ1 = some (r, μ2) ∧ P μ2) (h_note : ∀ (a0 a1 : Int32) (μ : ro_Mem), P μ → ∃ r, fn_X11_note a0 a1 μ = some r ∧ fn_X12_note a0 a1 μ = some r) (h_drops : ∀ (a0 a1 : Int32) (μ : ro_Mem), P μ → ∃ r μ1 μ2, fn_X11_drops a0 a1 μ = some (r, μ1) ∧ fn_X12_drops a0 a1 μ1 = some (r, μ2) ∧ P μ2) (h_wet : ∀ (a0 a1 a2 : Int32) (μ : ro_Mem), P μ → ∃ r μ1 μ2, fn_X11_wet a0 a1 a2 μ = some (r, μ1) ∧ fn_X12_wet a0 a1 a2 μ1 = some (r, μ2) ∧ P μ2) (h_guestWet : ∀ (a0 a1 : Int32) (μ : ro_Mem), P μ → ∃ r μ1 μ2, fn_X11_guestWet a0 a1 μ = some (r, μ1) ∧ fn_X12_guestWet a0 a1 μ1 = some (r, μ2) ∧ P μ2) (h_house : ∀ (a0 a1 : Int32) (μ : ro_Mem), P μ → ∃ r μ1 μ2, fn_X11_house a0 a1 μ = some (r, μ1) ∧ fn_X12_house a0 a1 μ1 = some (r, μ2) ∧ P μ2) (h_seated : ∀ (a0 a1 a2 a3 : Int32) (μ : ro_Mem), P μ → ∃ r μ1 μ2, fn_X11_seated a0 a1 a2 a3 μ = some (r, μ1) ∧ fn_X12_seated a0 a1 a2 a3 μ1 = some (r, μ2) ∧ P μ2) (h_transposed : ∀ (a0 a1 : Int32) (μ : ro_Mem), P μ → ∃ r μ1 μ2, fn_X11_transposed a0 a1 μ = some (r, μ1) ∧ fn_X12_transposed a0 a1 μ1 = some (r, μ2) ∧ P μ2) (h_leftOut : ∀ (a0 a1 a2 : Int32) (μ : ro_Mem), P μ → ∃ r μ1 μ2, fn_X11_leftOut a0 a1 a2 μ = some (r, μ1) ∧ fn_X12_leftOut a0 a1 a2 μ1 = some (r, μ2) ∧ P μ2) (h_nails : ∀ (a0 a1 : Int32) (μ : ro_Mem), P μ → ∃ r μ1 μ2, fn_X11_nails a0 a1 μ = some (r, μ1) ∧ fn_X12_nails a0 a1 μ1 = some (r, μ2) ∧ P μ2) (h_sung : ∀ (a0 a1 a2 : Int32) (μ : ro_Mem), P μ → ∃ r μ1 μ2, fn_X11_sung a0 a1 a2 μ = some (r, μ1) ∧ fn_X12_sung a0 a1 a2 μ1 = some (r, μ2) ∧ P μ2) (h_sponge : ∀ (a0 a1 : Int32) (μ : ro_Mem), P μ → ∃ r μ1 μ2, fn_X11_sponge a0 a1 μ = some (r, μ1) ∧ fn_X12_sponge a0 a1 μ1 = some (r, μ2) ∧ P μ2) (h_paid : ∀ (a0 : Int32) (μ : ro_Mem), P μ → ∃ r μ1 μ2, fn_X11_paid a0 μ = some (r, μ1) ∧ fn_X12_paid a0 μ1 = some (r, μ2) ∧ P μ2) (h_perform : ∀ (μ : ro_Mem), P μ → ∃ r μ1 μ2, fn_X11_perform  μ = some (r, μ1) ∧ fn_X12_perform  μ1 = some (r, μ2) ∧ P μ2) (h_soFar : ∀ (a0 : Int32) (μ : ro_Mem), P μ → ∃ r, fn_X11_soFar a0 μ = some r ∧ fn_X12_soFar a0 μ = some r) (h_seed : ∀ (a0 : Int32) (μ : ro_Mem), P μ → ∃ r μ1 μ2, fn_X11_seed a0 μ = some (r, μ1) ∧ fn_X12_seed a0 μ1 = some (r, μ2) ∧ P μ2) (h_draw : ∀ (μ : ro_Mem), P μ → ∃ r μ1 μ2, fn_X11_draw  μ = some (r, μ1) ∧ fn_X12_draw  μ1 = some (r, μ2) ∧ P μ2) (h_keep : ∀ (μ : ro_Mem), P μ → ∃ r μ1 μ2, fn_X11_keep  μ = some (r, μ1) ∧ fn_X12_keep  μ1 = some (r, μ2) ∧ P μ2) (h_undo : ∀ (μ : ro_Mem), P μ → ∃ r μ1 μ2, fn_X11_undo  μ = some (r, μ1) ∧ fn_X12_undo  μ1 = some (r, μ2) ∧ P μ2) (h_check : ∀ (a0 a1 a2 : Int32) (μ : ro_Mem), P μ → ∃ r μ1 μ2, fn_X11_check a0 a1 a2 μ = some (r, μ1) ∧ fn_X12_check a0 a1 a2 μ1 = some (r, μ2) ∧ P μ2) (h_count : ∀ (a0 : Int32) (μ : ro_Mem), P μ → ∃ r, fn_X11_count a0 μ = some r ∧ fn_X12_count a0 μ = some r) (L : Nat) (xs : Nat → Int32) (hL : L ≤ 3072) : ∃ μ, fl_L_law_18 L xs (0, rz_m0) = some μ := by
  have key : ∀ fuel (i : Nat) (μ : ro_Mem), P μ → i ≤ L + 6 → 0 < fuel → L < i + 6 * fuel → ∃ μ', ro_loop (fun rec s => fb_L_law_18 L xs rec s.1 s.2) fuel (nI i, μ) = some μ' := by
    intro fuel
    induction fuel with
    | zero => intro i μ _ _ h; omega
    | succ n ih =>
      intro i μ hP hi _ hf
      show ∃ μ', fb_L_law_18 L xs (ro_loop (fun rec s => fb_L_law_18 L xs rec s.1 s.2) n) (nI i) μ = some μ'
      by_cases h6 : i + 6 ≤ L
      · exact rw_step P h_seat h_slate h_nail h_rain h_guest h_sits h_feed h_score h_law h_note h_drops h_wet h_guestWet h_house h_seated h_transposed h_leftOut h_nails h_sung h_sponge h_paid h_perform h_soFar h_seed h_draw h_keep h_undo h_check h_count hL h6 hP (fun μ2 hP2 => ih (i + 6) μ2 hP2 (by omega) (by omega) (by omega))
      · have hlt : (nI L - 6) < nI i := by
          rw [fa_lt]
          have h1 : (nI L - 6).toInt = (L : Int) - 6 := pk_sub_toInt (b := 6) (by omega) (by decide)
          rw [h1, nI_toInt (by omega)]
          omega
        refine ⟨μ, ?_⟩
        unfold fb_L_law_18
        rw [if_pos hlt]
  exact key ro_FU 0 rz_m0 h0 (by omega) (by decide) (by show L < 0 + 6 * 200000; omega)
