-- ===== the start =====
set_option maxRecDepth 100000 in
theorem rz_i1 : (∀ i, i < 96 → rz_m0 3 i = 0) ∧ (∀ i, i < 96 → rz_m0 208 i = 0) ∧ (∀ i, i < 96 → rz_m0 4 i = 0) ∧ (∀ i, i < 96 → rz_m0 209 i = 0) ∧ (∀ i, i < 96 → rz_m0 5 i = 0) ∧ (∀ i, i < 96 → rz_m0 210 i = 0) := by decide +kernel
set_option maxRecDepth 100000 in
theorem rz_i2 : (∀ i, i < 16 → rz_m0 6 i = 0) ∧ (∀ i, i < 16 → rz_m0 211 i = -1) ∧ (∀ i, i < 4 → rz_m0 9 i = 0) ∧ (∀ i, i < 4 → rz_m0 214 i = 0) ∧ (∀ i, i < 40 → rz_m0 11 i = 255) ∧ rz_m0 2 6 = 0 ∧ rz_m0 2 7 = 0 ∧ rz_m0 207 1 = 0 ∧ rz_m0 2 11 = 0 ∧ rz_m0 207 2 = 0 := by decide +kernel
set_option maxRecDepth 100000 in
theorem rz_i3 : (∀ i, i < 10 → rz_m0 257 i = rz_m0 12 i) ∧ (∀ i, i < 16 → rz_m0 258 i = rz_m0 13 i) ∧ (∀ i, i < 32 → rz_m0 259 i = rz_m0 14 i) ∧ rz_m0 207 70 = rz_m0 2 12 ∧ rz_m0 207 71 = rz_m0 2 13 ∧ rz_m0 207 0 = 1 ∧ rz_m0 2 17 = 1 := by decide +kernel
set_option maxRecDepth 100000 in
theorem rz_i4 : (∀ i, i < 220 → rz_m0 61 i = 0) ∧ (∀ i, i < 220 → rz_m0 217 i = 0) ∧ rz_m0 60 1 = 0 ∧ rz_m0 207 13 = 0 := by decide +kernel
set_option maxRecDepth 100000 in
theorem rz_i5 : rz_m0 0 2 = 0 ∧ rz_m0 207 76 = 0 ∧ rz_m0 1 1 = nI 15 ∧ rz_m0 0 3 = nI 44 ∧ rz_m0 1 2 = nI 21 ∧ rz_m0 50 0 = nI 51 ∧ rz_m0 15 5 = 0 ∧ rz_m0 15 6 = 0 ∧ rz_m0 15 7 = 0 ∧ rz_m0 207 18 = 0 ∧ rz_m0 207 19 = 0 ∧ rz_m0 207 20 = 0 ∧ rz_m0 21 3 = 0 ∧ rz_m0 207 38 = 0 ∧ rz_m0 0 7 = 1 ∧ rz_m0 207 52 = 0 := by decide +kernel
theorem op_init : Inv rz_m0 := by
  obtain ⟨a1, a2, a3, a4, a5, a6⟩ := rz_i1
  obtain ⟨b1, b2, b3, b4, b5, b6, b7, b8, b9, b10⟩ := rz_i2
  obtain ⟨c1, c2, c3, c4, c5, c6, c7⟩ := rz_i3
  obtain ⟨d1, d2, d3, d4⟩ := rz_i4
  obtain ⟨e1, e2, e3, e4, e5, e6, e7, e8, e9, e10, e11, e12, e13, e14, e15, e16⟩ := rz_i5
  have r1 : ro_rf rz_m0 1 1 = 15 := by show (rz_m0 1 1).toNatClampNeg = 15; rw [e3, nI_clamp (by decide)]
  have r2 : ro_rf rz_m0 1 2 = 21 := by show (rz_m0 1 2).toNatClampNeg = 21; rw [e5, nI_clamp (by decide)]
  have s0 : iv_sc rz_m0 0 = rz_m0 15 := by
    unfold iv_sc; rw [if_pos (by decide), r1]
  have l0 : iv_lw rz_m0 0 = rz_m0 21 := by
    unfold iv_lw; rw [if_pos (by decide), r2]
  refine ⟨⟨?_, ?_, ?_, ?_, ?_, ?_, ?_, ?_⟩, Or.inl ⟨e1, e2⟩, ?_, ⟨⟨15, Or.inl rfl, e3, e4⟩, 21, Or.inl rfl, e5, e6⟩, ?_, ?_, Or.inl e15, e16⟩
  · intro i hi; rw [a1 i hi, a2 i hi]; exact ⟨rfl, Or.inl rfl⟩
  · intro i hi; rw [a3 i hi, a4 i hi]; exact ⟨rfl, 0, by decide, rfl⟩
  · intro i hi; rw [a5 i hi, a6 i hi]; exact ⟨rfl, 0, by decide, rfl⟩
  · refine ⟨by rw [b7, b8], fun k _ => by rw [b6, b_0], fun k h => ?_, fun k hk => ⟨⟨0, by decide, b1 k hk⟩, fun h => ?_, fun _ => b2 k hk⟩⟩
    · rw [b7, b_0] at h; cases h
    · rw [b6, b_0] at h; cases h
  · intro a ha; rw [b3 a ha, b4 a ha]; exact ⟨rfl, 0, by decide, rfl⟩
  · refine ⟨by rw [b9, b10], fun g _ => by rw [b9, b_0], fun g _ h => ?_, fun a g _ _ h => ?_, fun a g ha hg => Or.inl (b5 _ (by omega)), fun a g g' ha hg _ _ h => absurd (b5 _ (by omega)) h⟩
    · rw [b9, b_0] at h; cases h
    · rw [b9, b_0] at h; cases h
  · exact ⟨c4, c5, c1, c2, c3⟩
  · exact ⟨by rw [c6, c7], 1, by decide, c7⟩
  · refine ⟨by rw [d3, d4], ⟨0, by decide, d3⟩, fun i hi => ?_⟩
    rw [d1 i hi, d2 i hi]
    exact ⟨by decide, 0, by decide, rfl⟩
  · refine ⟨by rw [s0, e7, e10], by rw [s0, e8, e11], by rw [s0, e9, e12], 0, 0, 0, by decide, by decide, by decide, by rw [s0, e7]; rfl, by rw [s0, e8]; rfl, by rw [s0, e9]; rfl, fun j i _ _ h => absurd h (by omega), fun _ => 0, fun _ => 0, fun _ => 0, fun _ => 0, fun _ => 0, fun i h => absurd h (by omega), fun i h => absurd h (by omega), fun i h => absurd h (by omega)⟩
  · exact ⟨by rw [l0, e13, e14], 0, by decide, by rw [l0, e13]; rfl, fun c h => absurd h (by omega)⟩
