-- ===== a condition, as the reference reads it: proved =====
theorem jt_0n {b : Nat → Nat} {n p : Nat} (h : ca_ b n (jt_ 0) p = none) : ¬ (p < n ∧ b p = 124) := by
  rintro ⟨h1, h2⟩
  unfold ca_ at h
  rw [if_pos h1, h2] at h
  exact absurd h (by decide)
theorem jt_1n {b : Nat → Nat} {n p : Nat} (h : ca_ b n (jt_ 1) p = none) : ¬ (p < n ∧ b p = 38) := by
  rintro ⟨h1, h2⟩
  unfold ca_ at h
  rw [if_pos h1, h2] at h
  exact absurd h (by decide)
theorem jt_0s {b : Nat → Nat} {n p w : Nat} (h : ca_ b n (jt_ 0) p = some w) : (p < n ∧ b p = 124) ∧ w = 12 := by
  obtain ⟨h1, h2⟩ := ca_some h
  have h2 : (if b p = 124 then some 12 else none) = some w := h2
  split at h2
  · rename_i c; cases h2; exact ⟨⟨h1, c⟩, rfl⟩
  · cases h2
theorem jt_1s {b : Nat → Nat} {n p w : Nat} (h : ca_ b n (jt_ 1) p = some w) : (p < n ∧ b p = 38) ∧ w = 11 := by
  obtain ⟨h1, h2⟩ := ca_some h
  have h2 : (if b p = 38 then some 11 else none) = some w := h2
  split at h2
  · rename_i c; cases h2; exact ⟨⟨h1, c⟩, rfl⟩
  · cases h2
section
variable {b : Nat → Nat} {n : Nat} {m : ro_Mem}
theorem OKq.jump {j w : Nat} {s : Sx} {W : List Nat} (hn : n ≤ 200) (h : OKq n j s W) (hp : s.p < n) (hw : w = 11 ∨ w = 12) : OKq n (j + 1) (s.adv.emit w 0) ((1048576 * w + s.c) :: W) := by
  have h1 := h.2.1
  have h2 := h.2.2.1
  refine h.push ?_ ?_ ?_ (by omega) (by omega) (by omega) ((show AW s.adv from h.2.2.2.2.2).emit (by omega) (by omega))
  · show s.p + 1 ≤ n; omega
  · show s.c + 1 ≤ s.p + 1; omega
  · show s.c + 1 + W.length + 1 ≤ s.p + 1 + (j + 1); omega
theorem OKq.landed {j i x : Nat} {s s1 : Sx} {W : List Nat} (hn : n ≤ 200) (h : OKq n j s W) (g : OKq n (j + 1) s1 (x :: W)) : OKq n j (s1.land i) W := by
  obtain ⟨g1, g2, g3, _, _, g6⟩ := g
  rw [List.length_cons] at g3
  exact ⟨g1, g2, by show s1.c + W.length ≤ s1.p + j; omega, h.2.2.2.1, h.2.2.2.2.1, g6.land (by omega) i⟩
theorem TC_all (hT : RT b n m) : ∀ t d s r, Pr b n t d s r → TC n m b t d s r := by
  have hn := hT.2.1
  apply Pr_ind
  case c_chainB =>
    intro d s l e hl _ h hd
    have h := h hd
    refine ⟨fun q => by omega, fun q => by omega, fun q j W M f h1 h2 h3 h4 h5 h6 => ?_, fun q j W M f h1 h2 h3 h4 h5 h6 => ?_, fun q => by omega, fun q => by omega⟩
    · exact h.2.1 (by rw [q]; rfl) j W M f (by omega) h2 (NE_NN h3 d) h5 h6
    · exact h.2.2.1 (by rw [q]; rfl) j W M f (by omega) h2 h3 (NL_10 h4) h5 h6
  case c_chain =>
    intro d s l s1 x hl p1 h _ g hd
    have h := h hd
    have g := g hd
    refine ⟨fun q => by omega, fun q => by omega, fun q j W M f h1 h2 h3 h4 h5 h6 => ?_, fun q j W M f h1 h2 h3 h4 h5 h6 => ?_, fun q => by omega, fun q => by omega⟩
    · obtain ⟨f', g', M', a1, a2, a3, a4⟩ := h.2.1 (by rw [q]; rfl) j W M f (by omega) h2 (NE_NN h3 d) h5 h6
      rw [h3] at a2
      have hO := h2.go (Pr_go hn _ _ _ _ p1 h2.1 h2.2.1).1
      rw [a1]
      exact g.2.2.2.2.1 (by omega) j s1 W W M' f' g' h1 hO h3 h4 (h4 _) (hO.lw hn (by omega)) hO.2.2.2.2.2 a3 a4 a2
    · obtain ⟨f', g', M', s', W', a1, a2, a3, a4, a5, a6, a7⟩ := h.2.2.1 (by rw [q]; rfl) j W M f (by omega) h2 h3 (NL_10 h4) h5 h6
      have hO := h2.go (Pr_go hn _ _ _ _ p1 h2.1 h2.2.1).1
      rw [a1]
      have e := la_la W' s'
      rw [a3] at e
      exact g.2.2.2.2.2 (by omega) ((Pr_endc _ _ _ _ p1 s1 rfl).1 (Or.inl (by rw [q]; rfl))) j s' W' W M' f' g' h1 hO h3 h4 (e.symm.trans (h4 _)) a4 a5 a6 a7 a2
  case c_stop =>
    intro d s l hl hj' hd
    refine ⟨fun q => by omega, fun q => by omega, fun q => by omega, fun q => by omega, fun q j s' W' W M f g h1 h2 h3 h4 h5 h6 h7 h8 h9 h10 => ?_, fun q _ j s' W' W M f g h1 h2 h3 h4 h5 h6 h7 h8 h9 h10 => ?_⟩
    · exact ⟨f, g, M, s', W', rfl, h10, h5, h6, h7, h8, h9⟩
    · exact ⟨f, g, M, s', W', rfl, h10, h5, h6, h7, h8, h9⟩
  case c_arB => intro d s l w e hl hl2 _ _ _; exact TC_no (by omega)
  case c_ar => intro d s l w s1 x hl hl2 _ _ _ _ _; exact TC_no (by omega)
  case c_lgB =>
    intro d s l w e hl hj' p1 h hd
    have h := h hd
    refine ⟨fun q => by omega, fun q => by omega, fun q => by omega, fun q => by omega, fun q j s' W' W M f g h1 h2 h3 h4 h5 h6 h7 h8 h9 h10 => ?_, fun q _ j s' W' W M f g h1 h2 h3 h4 h5 h6 h7 h8 h9 h10 => ?_⟩
    · have hl1 : l = 1 := by omega
      subst hl1
      obtain ⟨hb, rfl⟩ := jt_1s hj'
      obtain ⟨ep, ec, _⟩ := la_p 0 W' s'
      rw [h5] at ep ec
      have ep : s.p = s'.p := ep
      have ec : s.c = s'.c := ec
      have o1 := h2.1
      have o2 := h2.2.1
      obtain ⟨g0, rfl⟩ : ∃ g0, g = g0 + 1 := ⟨g - 1, by omega⟩
      obtain ⟨M1, x1, x2⟩ := QCx_jump (f := f) (g := g0) (Or.inl ⟨rfl, rfl, rfl⟩) hT h10 (by omega) (by omega) h6 h7 (by rw [← ep]; exact hb) h5
      rw [x1]
      have hO := h2.jump hn hb.1 (w := 11) (by omega)
      exact h.2.1 rfl (j + 1) _ M1 f (by omega) hO (NE_NN (NE_cons _ (by omega)) d) (show n < f + (s.p + 1) by omega) x2
    · have hl1 : l = 0 := by omega
      subst hl1
      obtain ⟨hb, rfl⟩ := jt_0s hj'
      obtain ⟨ep, ec, _⟩ := la_p 1 W' s'
      rw [h5] at ep ec
      have ep : s.p = s'.p := ep
      have ec : s.c = s'.c := ec
      have o1 := h2.1
      have o2 := h2.2.1
      obtain ⟨g0, rfl⟩ : ∃ g0, g = g0 + 1 := ⟨g - 1, by omega⟩
      obtain ⟨M1, x1, x2⟩ := QCx_jump (f := f) (g := g0) (Or.inr ⟨rfl, rfl, rfl⟩) hT h10 (by omega) (by omega) h6 h7 (by rw [← ep]; exact hb) h5
      rw [x1]
      have hO := h2.jump hn hb.1 (w := 12) (by omega)
      exact h.2.2.1 rfl (j + 1) _ M1 f (by omega) hO (NE_cons _ (by omega)) (NL_cons _ (by unfold isl_; omega)) (show n < f + (s.p + 1) by omega) x2
  case c_lg =>
    intro d s l w s1 x hl hj' p1 h _ g2 hd
    have h := h hd
    have g2 := g2 hd
    refine ⟨fun q => by omega, fun q => by omega, fun q => by omega, fun q => by omega, fun q j s' W' W M f g h1 h2 h3 h4 h5 h6 h7 h8 h9 h10 => ?_, fun q _ j s' W' W M f g h1 h2 h3 h4 h5 h6 h7 h8 h9 h10 => ?_⟩
    · have hl1 : l = 1 := by omega
      subst hl1
      obtain ⟨hb, rfl⟩ := jt_1s hj'
      obtain ⟨ep, ec, _⟩ := la_p 0 W' s'
      rw [h5] at ep ec
      have ep : s.p = s'.p := ep
      have ec : s.c = s'.c := ec
      have o1 := h2.1
      have o2 := h2.2.1
      obtain ⟨g0, rfl⟩ : ∃ g0, g = g0 + 1 := ⟨g - 1, by omega⟩
      obtain ⟨M1, x1, x2⟩ := QCx_jump (f := f) (g := g0) (Or.inl ⟨rfl, rfl, rfl⟩) hT h10 (by omega) (by omega) h6 h7 (by rw [← ep]; exact hb) h5
      rw [x1]
      have hO := h2.jump hn hb.1 (w := 11) (by omega)
      obtain ⟨f', g', M2, a1, a2, a3, a4⟩ := h.2.1 rfl (j + 1) _ M1 f (by omega) hO (NE_NN (NE_cons _ (by omega)) d) (show n < f + (s.p + 1) by omega) x2
      rw [NE_cons W (show ¬ (1048576 * 11 + s.c) / 1048576 = 10 by omega) s1 d] at a2
      have hO1 := hO.go (Pr_go hn _ _ _ _ p1 hO.1 hO.2.1).1
      rw [a1]
      refine g2.2.2.2.2.1 rfl j s1 ((1048576 * 11 + s.c) :: W) W M2 f' g' h1 (h2.landed hn hO1) h3 h4 ?_ (hO1.lw hn (by omega)) hO1.2.2.2.2.2 a3 a4 a2
      have e : la_ 0 s1 ((1048576 * 11 + s.c) :: W) = la_ 0 (s1.land ((1048576 * 11 + s.c) % 1048576)) W := if_pos (by unfold isl_; omega)
      rw [e, show (1048576 * 11 + s.c) % 1048576 = s.c by omega]
      exact h4 _
    · have hl1 : l = 0 := by omega
      subst hl1
      obtain ⟨hb, rfl⟩ := jt_0s hj'
      obtain ⟨ep, ec, _⟩ := la_p 1 W' s'
      rw [h5] at ep ec
      have ep : s.p = s'.p := ep
      have ec : s.c = s'.c := ec
      have o1 := h2.1
      have o2 := h2.2.1
      obtain ⟨g0, rfl⟩ : ∃ g0, g = g0 + 1 := ⟨g - 1, by omega⟩
      obtain ⟨M1, x1, x2⟩ := QCx_jump (f := f) (g := g0) (Or.inr ⟨rfl, rfl, rfl⟩) hT h10 (by omega) (by omega) h6 h7 (by rw [← ep]; exact hb) h5
      rw [x1]
      have hO := h2.jump hn hb.1 (w := 12) (by omega)
      obtain ⟨f', g', M2, s2, W2, a1, a2, a3, a4, a5, a6, a7⟩ := h.2.2.1 rfl (j + 1) _ M1 f (by omega) hO (NE_cons _ (by omega)) (NL_cons _ (by unfold isl_; omega)) (show n < f + (s.p + 1) by omega) x2
      have hO1 := hO.go (Pr_go hn _ _ _ _ p1 hO.1 hO.2.1).1
      rw [a1]
      have e := la_la W2 s2
      rw [a3] at e
      have e : la_ 1 s1 ((1048576 * 12 + s.c) :: W) = la_ 1 s2 W2 := e
      refine g2.2.2.2.2.2 rfl ((Pr_endc _ _ _ _ p1 s1 rfl).1 (Or.inl rfl)) j s2 W2 W M2 f' g' h1 (h2.landed hn hO1) h3 h4 ?_ a4 a5 a6 a7 a2
      have e3 : la_ 1 s1 ((1048576 * 12 + s.c) :: W) = la_ 1 (s1.land ((1048576 * 12 + s.c) % 1048576)) W := if_pos (by unfold isl_; omega)
      rw [← e, e3, show (1048576 * 12 + s.c) % 1048576 = s.c by omega]
      exact h4 _
  case c_ntD =>
    intro d s hb hd6 hd
    refine ⟨fun q => by omega, fun _ j W M f h1 h2 h3 h4 h5 => ?_, fun q => by omega, fun q => by omega, fun q => by omega, fun q => by omega⟩
    have o1 := h2.1
    have o2 := (h2.lw hn (by omega)).1
    obtain ⟨f0, rfl⟩ : ∃ f0, f = f0 + 1 := ⟨f - 1, by omega⟩
    rcases RCx_open (f := f0) (Or.inl ⟨rfl, rfl⟩) hT h5 (by omega) hd (by omega) hb with ⟨c, _⟩ | ⟨_, M', a1, a2⟩
    · omega
    · exact ⟨M', a1, a2⟩
  case c_ntE =>
    intro d s e hb hd6 p1 h hd
    refine ⟨fun q => by omega, fun _ j W M f h1 h2 h3 h4 h5 => ?_, fun q => by omega, fun q => by omega, fun q => by omega, fun q => by omega⟩
    have o1 := h2.1
    have o2 := (h2.lw hn (by omega)).1
    have o3 := h2.2.1
    have o4 := h2.2.2.1
    obtain ⟨f0, rfl⟩ : ∃ f0, f = f0 + 1 := ⟨f - 1, by omega⟩
    rcases RCx_open (f := f0) (Or.inl ⟨rfl, rfl⟩) hT h5 (by omega) hd (by omega) hb with ⟨c, M', a1, a2⟩ | ⟨c, _⟩
    · rw [a1]
      have hO : OKq n j s.adv (1048576 * 10 :: W) := h2.push (by show s.p + 1 ≤ n; omega) (by show s.c ≤ s.p + 1; omega) (by show s.c + W.length + 1 ≤ s.p + 1 + j; omega) (by decide) (by decide) (by decide) h2.2.2.2.2.2
      exact (h (by omega)).2.1 rfl j _ M' f0 (by omega) hO (fun _ => ⟨by omega, h3⟩) (show n < f0 + (s.p + 1) by omega) a2
    · omega
  case c_nt =>
    intro d s s1 hb hd6 p1 h hd
    refine ⟨fun q => by omega, fun _ j W M f h1 h2 h3 h4 h5 => ?_, fun q => by omega, fun q => by omega, fun q => by omega, fun q => by omega⟩
    have o1 := h2.1
    have o2 := (h2.lw hn (by omega)).1
    have o3 := h2.2.1
    have o4 := h2.2.2.1
    obtain ⟨f0, rfl⟩ : ∃ f0, f = f0 + 1 := ⟨f - 1, by omega⟩
    rcases RCx_open (f := f0) (Or.inl ⟨rfl, rfl⟩) hT h5 (by omega) hd (by omega) hb with ⟨c, M', a1, a2⟩ | ⟨c, _⟩
    · rw [a1]
      have hO : OKq n j s.adv (1048576 * 10 :: W) := h2.push (by show s.p + 1 ≤ n; omega) (by show s.c ≤ s.p + 1; omega) (by show s.c + W.length + 1 ≤ s.p + 1 + j; omega) (by decide) (by decide) (by decide) h2.2.2.2.2.2
      obtain ⟨f', g', M2, b1, b2, b3, b4⟩ := (h (by omega)).2.1 rfl j _ M' f0 (by omega) hO (fun _ => ⟨by omega, h3⟩) (show n < f0 + (s.p + 1) by omega) a2
      have e : en_ s1 (1048576 * 10 :: W) (d + 1) = en_ (s1.emit 10 0) W d := if_pos (by decide)
      rw [e] at b2
      exact ⟨f', g', M2, b1, b2, b3, b4⟩
    · omega
  case c_paD =>
    intro d s hb hd6 hd
    refine ⟨fun q => by omega, fun _ j W M f h1 h2 h3 h4 h5 => ?_, fun q => by omega, fun q => by omega, fun q => by omega, fun q => by omega⟩
    have o1 := h2.1
    have o2 := (h2.lw hn (by omega)).1
    obtain ⟨f0, rfl⟩ : ∃ f0, f = f0 + 1 := ⟨f - 1, by omega⟩
    rcases RCx_open (f := f0) (Or.inr ⟨rfl, rfl⟩) hT h5 (by omega) hd (by omega) hb with ⟨c, _⟩ | ⟨_, M', a1, a2⟩
    · omega
    · exact ⟨M', a1, a2⟩
  case c_paE =>
    intro d s e hb hd6 p1 h hd
    refine ⟨fun q => by omega, fun _ j W M f h1 h2 h3 h4 h5 => ?_, fun q => by omega, fun q => by omega, fun q => by omega, fun q => by omega⟩
    have o1 := h2.1
    have o2 := (h2.lw hn (by omega)).1
    have o3 := h2.2.1
    have o4 := h2.2.2.1
    obtain ⟨f0, rfl⟩ : ∃ f0, f = f0 + 1 := ⟨f - 1, by omega⟩
    rcases RCx_open (f := f0) (Or.inr ⟨rfl, rfl⟩) hT h5 (by omega) hd (by omega) hb with ⟨c, M', a1, a2⟩ | ⟨c, _⟩
    · rw [a1]
      have hO : OKq n j s.adv (1048576 * 13 :: W) := h2.push (by show s.p + 1 ≤ n; omega) (by show s.c ≤ s.p + 1; omega) (by show s.c + W.length + 1 ≤ s.p + 1 + j; omega) (by decide) (by decide) (by decide) h2.2.2.2.2.2
      exact (h (by omega)).2.2.2.1 rfl j _ M' f0 (by omega) hO (NE_cons _ (by decide)) (NL_cons _ (by decide)) (show n < f0 + (s.p + 1) by omega) a2
    · omega
  case c_paC =>
    intro d s s1 hb hd6 hcb p1 h hd
    refine ⟨fun q => by omega, fun _ j W M f h1 h2 h3 h4 h5 => ?_, fun q => by omega, fun q => by omega, fun q => by omega, fun q => by omega⟩
    have o1 := h2.1
    have o2 := (h2.lw hn (by omega)).1
    have o3 := h2.2.1
    have o4 := h2.2.2.1
    obtain ⟨f0, rfl⟩ : ∃ f0, f = f0 + 1 := ⟨f - 1, by omega⟩
    rcases RCx_open (f := f0) (Or.inr ⟨rfl, rfl⟩) hT h5 (by omega) hd (by omega) hb with ⟨c, M', a1, a2⟩ | ⟨c, _⟩
    · rw [a1]
      have hO : OKq n j s.adv (1048576 * 13 :: W) := h2.push (by show s.p + 1 ≤ n; omega) (by show s.c ≤ s.p + 1; omega) (by show s.c + W.length + 1 ≤ s.p + 1 + j; omega) (by decide) (by decide) (by decide) h2.2.2.2.2.2
      obtain ⟨f', g', M2, s2, W2, b1, b2, b3, b4, b5, b6, b7⟩ := (h (by omega)).2.2.2.1 rfl j _ M' f0 (by omega) hO (NE_cons _ (by decide)) (NL_cons _ (by decide)) (show n < f0 + (s.p + 1) by omega) a2
      obtain ⟨ep, ec, _⟩ := la_p 1 W2 s2
      rw [b3] at ep ec
      have ep : s1.p = s2.p := ep
      have hO1 := hO.go (Pr_go hn _ _ _ _ p1 hO.1 hO.2.1).1
      have o5 := hO1.1
      obtain ⟨g0, rfl⟩ : ∃ g0, g' = g0 + 1 := ⟨g' - 1, by omega⟩
      have hj := (Pr_endc _ _ _ _ p1 s1 rfl).2.1 rfl
      obtain ⟨M3, c1, c2⟩ := QCx_end (f := f') (g := g0) hT b2 (by omega) (by rw [← ep]; exact hcb) (by rw [← ep]; exact jt_1n hj.1) (by rw [← ep]; exact jt_0n hj.2)
      exact ⟨M3, by rw [b1]; exact c1, by rw [ep]; exact c2⟩
    · omega
  case c_par =>
    intro d s s1 hb hd6 hcb p1 h hd
    refine ⟨fun q => by omega, fun _ j W M f h1 h2 h3 h4 h5 => ?_, fun q => by omega, fun q => by omega, fun q => by omega, fun q => by omega⟩
    have o1 := h2.1
    have o2 := (h2.lw hn (by omega)).1
    have o3 := h2.2.1
    have o4 := h2.2.2.1
    obtain ⟨f0, rfl⟩ : ∃ f0, f = f0 + 1 := ⟨f - 1, by omega⟩
    rcases RCx_open (f := f0) (Or.inr ⟨rfl, rfl⟩) hT h5 (by omega) hd (by omega) hb with ⟨c, M', a1, a2⟩ | ⟨c, _⟩
    · rw [a1]
      have hO : OKq n j s.adv (1048576 * 13 :: W) := h2.push (by show s.p + 1 ≤ n; omega) (by show s.c ≤ s.p + 1; omega) (by show s.c + W.length + 1 ≤ s.p + 1 + j; omega) (by decide) (by decide) (by decide) h2.2.2.2.2.2
      obtain ⟨f', g', M2, s2, W2, b1, b2, b3, b4, b5, b6, b7⟩ := (h (by omega)).2.2.2.1 rfl j _ M' f0 (by omega) hO (NE_cons _ (by decide)) (NL_cons _ (by decide)) (show n < f0 + (s.p + 1) by omega) a2
      obtain ⟨ep, ec, _⟩ := la_p 1 W2 s2
      rw [b3] at ep ec
      have ep : s1.p = s2.p := ep
      have ec : s1.c = s2.c := ec
      have hO1 := hO.go (Pr_go hn _ _ _ _ p1 hO.1 hO.2.1).1
      have o5 := hO1.1
      have o6 := hO1.2.1
      have o7 := hO1.2.2.1
      rw [List.length_cons] at o7
      obtain ⟨g0, rfl⟩ : ∃ g0, g' = g0 + 1 := ⟨g' - 1, by omega⟩
      obtain ⟨M3, c1, c2⟩ := QCx_close (f := f') (g := g0) hT b2 (by omega) (by omega) b4 b5 (by rw [← ep]; exact hcb) b3
      obtain ⟨x, W0, e1, _⟩ := h2.2.2.2.1
      rw [if_neg (show ¬ W.length = 0 by rw [e1, List.length_cons]; omega)] at c2
      obtain ⟨M4, z1, z2⟩ := rt_ends (by show s1.c + W.length ≤ 219; omega) (fun x hx => (h2.2.2.2.2.1 x hx).1) h3 c1
      rw [z1, Option.bind_some] at c2
      exact ⟨f', g0, M4, b1.trans c2, z2, show n < f' + (s1.p + 1) by omega, show n < g0 + (s1.p + 1) by omega⟩
    · omega
  case c_cmp =>
    intro d s x hc p1 h hd
    refine ⟨fun q => by omega, fun _ j W M f h1 h2 h3 h4 h5 => ?_, fun q => by omega, fun q => by omega, fun q => by omega, fun q => by omega⟩
    have o1 := h2.1
    have hfu := fu_gt
    obtain ⟨f0, rfl⟩ : ∃ f0, f = f0 + 1 := ⟨f - 1, by omega⟩
    have h := (h hd).1 rfl j W M h1 h2 h3 h5
    rw [RCx_cmp hT h5 (by omega) hc]
    cases x with
    | inl e =>
      obtain ⟨M', a1, a2⟩ := h
      exact ⟨M', by rw [a1, Option.bind_some, if_pos rfl], a2⟩
    | inr s1 =>
      obtain ⟨M', a1, a2⟩ := h
      have hg := (Pr_go hn _ _ _ _ p1 h2.1 h2.2.1).2 (by omega)
      exact ⟨f0, ro_FU, M', by rw [a1, Option.bind_some, if_neg rt_10], a2, by omega, by omega⟩
  case c_cpE => intro d s e p1 _; exact (TC_cp hT).1 e p1
  case c_cpX => intro d s s1 hw p1 _; exact (TC_cp hT).2.1 s1 hw p1
  case c_cpF => intro d s s1 w e hw p1 _ p2 _; exact (TC_cp hT).2.2.1 s1 w e hw p1 p2
  case c_cpd => intro d s s1 w s2 hw p1 _ p2 _; exact (TC_cp hT).2.2.2 s1 w s2 hw p1 p2
  all_goals (intros; exact TC_no (by omega))
/-- a condition in its brackets -/
theorem rt_readsCondition {d0 : Nat} {s : Sx} {W0 : List Nat} {M : ro_Mem} (hT : RT b n m) (hs : s.p ≤ n) (hc : s.c ≤ s.p) (hA : AW s) (h : RW m s W0 d0 M) : (¬ (s.p < n ∧ b s.p = 40) → ∃ M', fn_X12_readsCondition M = some (0, M') ∧ RX m (flt 1 s.p) M') ∧ ((s.p < n ∧ b s.p = 40) → (∀ e, Pr b n 0 1 s.adv (.inl e) → ∃ M', fn_X12_readsCondition M = some (0, M') ∧ RX m e M') ∧ ∀ s1, Pr b n 0 1 s.adv (.inr s1) → (¬ (s1.p < n ∧ b s1.p = 41) → ∃ M', fn_X12_readsCondition M = some (0, M') ∧ RX m (flt 1 s1.p) M') ∧ ((s1.p < n ∧ b s1.p = 41) → ∃ M', fn_X12_readsCondition M = some (1, M') ∧ RW m s1.adv [] 0 M')) := by
  have hn := hT.2.1
  have hTM := h.1.rt hT
  have hfu := fu_gt
  constructor
  · intro hb
    refine ⟨ro_set M 207 16 (flt 1 s.p), ?_, h.1.set (Or.inr (Or.inl rfl)) _, by rw [ro_set_same, pk_us]⟩
    unfold fn_X12_readsCondition
    rw [rt_here hTM h.2.1 (by omega), Option.bind_some, if_neg (show ¬ ch_ b n s.p = 40 from fun z => hb ((ch_is (v := 40) hTM (by decide)).mp z)), h.2.1, rt_wrong, Option.bind_some, if_pos (Or.inl rfl)]
  · intro hb
    have h1 : RW m s [] 0 (ro_set (ro_set M 207 34 0) 207 36 0) := by
      obtain ⟨h1, h2, h3, h4, h5, h6, h7⟩ := h.dep (d' := 0)
      refine ⟨RFr.set h1 (Or.inr (Or.inr (Or.inr (by omega)))) _, ?_, ?_, ?_, ?_, fun k hk => by rw [ro_set_ne _ _ _ (by decide)]; exact h6 k hk, trivial⟩
      · rw [ro_set_same, pk_un (by decide)]; exact h2
      · rw [ro_set_same, pk_un (by decide)]; exact h3
      · rw [ro_set_same, pk_us]; rfl
      · rw [ro_set_same, pk_un (by decide)]; exact h5
    rcases rt_opens (k := 13) h1 (by decide) (by decide) with ⟨_, M1, x1, x2⟩ | ⟨c, _⟩
    · have x1 : fn_X12_opens 13 (ro_set (ro_set M 207 34 0) 207 36 0) = some (1, M1) := x1
      have e0 : fn_X12_readsCondition M = RCx ro_FU M1 := by
        unfold fn_X12_readsCondition
        rw [rt_here hTM h.2.1 (by omega), Option.bind_some, if_pos (show ch_ b n s.p = 40 from (ch_is (v := 40) hTM (by decide)).mpr hb), ro_lt, ro_lt, x1, Option.bind_some, if_neg rt_10]
        rfl
      rw [e0]
      have hO : OKq n 0 s.adv [1048576 * 13] := by
        refine ⟨by show s.p + 1 ≤ n; omega, by show s.c ≤ s.p + 1; omega, by show s.c + 1 ≤ s.p + 1 + 0; omega, ⟨_, [], rfl, by decide, by decide⟩, fun x hx => ?_, hA⟩
        rcases List.mem_cons.mp hx with q | q
        · rw [q]; exact ⟨by decide, by decide⟩
        · cases q
      refine ⟨fun e p1 => ?_, fun s1 p1 => ?_⟩
      · exact (TC_all hT _ _ _ _ p1 (by decide)).2.2.2.1 rfl 0 _ M1 ro_FU (by decide) hO (NE_cons _ (by decide)) (NL_cons _ (by decide)) (by omega) x2
      · obtain ⟨f', g', M2, s2, W2, b1, b2, b3, b4, b5, b6, b7⟩ := (TC_all hT _ _ _ _ p1 (by decide)).2.2.2.1 rfl 0 _ M1 ro_FU (by decide) hO (NE_cons _ (by decide)) (NL_cons _ (by decide)) (by omega) x2
        obtain ⟨ep, ec, _⟩ := la_p 1 W2 s2
        rw [b3] at ep ec
        have ep : s1.p = s2.p := ep
        have ec : s1.c = s2.c := ec
        have hO1 := hO.go (Pr_go hn _ _ _ _ p1 hO.1 hO.2.1).1
        have o5 := hO1.1
        have o6 := hO1.2.1
        obtain ⟨g0, rfl⟩ : ∃ g0, g' = g0 + 1 := ⟨g' - 1, by omega⟩
        rw [b1]
        refine ⟨fun hcb => ?_, fun hcb => ?_⟩
        · have hj := (Pr_endc _ _ _ _ p1 s1 rfl).2.1 rfl
          obtain ⟨M3, c1, c2⟩ := QCx_end (f := f') (g := g0) hT b2 (by omega) (by rw [← ep]; exact hcb) (by rw [← ep]; exact jt_1n hj.1) (by rw [← ep]; exact jt_0n hj.2)
          exact ⟨M3, c1, by rw [ep]; exact c2⟩
        · obtain ⟨M3, c1, c2⟩ := QCx_close (f := f') (g := g0) hT b2 (by omega) (by omega) b4 b5 (by rw [← ep]; exact hcb) b3
          exact ⟨M3, c2.trans (if_pos (show ([] : List Nat).length = 0 from rfl)), c1⟩
    · exact absurd (show 0 < 6 by decide) c
end
