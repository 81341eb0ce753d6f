-- ===== a sum, as the reference reads it: proved =====
theorem lt_dg0 : ∀ c, c < 256 → ¬ lt_ c = none → (c < 48 ∨ 57 < c) ∧ ¬ c = 91 := by decide +kernel
theorem dg_z {b : Nat → Nat} {n p : Nat} : ¬ dg_ b n p = none → p < n ∧ 48 ≤ b p ∧ b p ≤ 57 := by
  intro h
  unfold dg_ at h
  split at h
  · rename_i c; exact c
  · exact absurd rfl h
theorem dg_no {b : Nat → Nat} {n p : Nat} (h : ¬ (p < n ∧ 48 ≤ b p ∧ b p ≤ 57)) : dg_ b n p = none := if_neg h
theorem fu_gt : 1000 < ro_FU := by decide
section
variable {b : Nat → Nat} {n z j : Nat} {m : ro_Mem}
theorem FMx_atom {s : Sx} {W : List Nat} {d k f : Nat} {M : ro_Mem} {v : Int32} {M' : ro_Mem} (h : RFk k M = some (v, M')) : FMx z k f M = if v = 0 then some (0, M') else RLx z f M' := by
  unfold FMx
  rw [h, Option.bind_some]
theorem TS_all (hT : RT b n m) (hj : j ≤ 19) : ∀ t d s r, Pr b n t d s r → TS n m b z j t d s r := by
  have hn := hT.2.1
  apply Pr_ind
  case c_chainB =>
    intro d s l e hl _ h hd
    have h := h hd
    refine ⟨fun q => by omega, fun q W M k f h1 h2 h3 h4 h5 => ?_, fun q W M k f h1 h2 h3 h4 h5 => ?_, fun q => by omega, fun q => by omega⟩
    · exact h.1 (by rw [q]; rfl) W M k f h1 h2 h3 h5
    · exact h.2.1 (by rw [q]; rfl) W M k f h1 h2 h3 (NT_10 h4) h5
  case c_chain =>
    intro d s l s1 x hl p1 h _ g hd
    have h := h hd
    have g := g hd
    refine ⟨fun q => by omega, fun q W M k f h1 h2 h3 h4 h5 => ?_, fun q W M k f h1 h2 h3 h4 h5 => ?_, fun q => by omega, fun q => by omega⟩
    · obtain ⟨f', M', s', W', a1, a2, a3, a4, a5⟩ := h.1 (by rw [q]; rfl) W M k f h1 h2 h3 h5
      obtain ⟨rfl, rfl⟩ := Prod.mk.inj a3
      rw [a1]
      exact g.2.2.2.1 (by omega) s' W' W' M' f' a4 a5 h4 (h4 _) h1.2.2.1 h1.2.2.2 a2
    · obtain ⟨f', M', s', W', a1, a2, a3, a4, a5⟩ := h.2.1 (by rw [q]; rfl) W M k f h1 h2 h3 (NT_10 h4) h5
      rw [a1]
      have e := cl_cl W' s'
      rw [a3] at e
      have ep := (cl_p 0 W' s').1
      rw [a3] at ep
      have ep : s1.p = s'.p := ep
      exact g.2.2.2.2 (by omega) ((Pr_end _ _ _ _ p1 s1 rfl).1 (Or.inl (by rw [q]; rfl))) s' W' W M' f' a4 (by rw [ep]; exact a5) h4 (e.symm.trans (h4 _)) h1.2.2.1 h1.2.2.2 a2
  case c_stop =>
    intro d s l hl hj' hd
    refine ⟨fun q => by omega, fun q => by omega, fun q => by omega, fun q s' W' W M f h1 h2 h3 h4 h5 h6 h7 => ?_, fun q _ s' W' W M f h1 h2 h3 h4 h5 h6 h7 => ?_⟩
    · have ep := (cl_p 0 W' s').1
      rw [h4] at ep
      have ep : s.p = s'.p := ep
      exact ⟨f, M, s', W', rfl, h7, h4, h1, by rw [← ep]; exact h2⟩
    · have ep := (cl_p 1 W' s').1
      rw [h4] at ep
      have ep : s.p = s'.p := ep
      exact ⟨f, M, s', W', rfl, h7, h4, h1, by rw [← ep]; exact h2⟩
  case c_arB =>
    intro d s l w e hl hl2 hj' _ h hd
    have h := h hd
    have hpn := (ca_some hj').1
    refine ⟨fun q => by omega, fun q => by omega, fun q => by omega, fun q s' W' W M f h1 h2 h3 h4 h5 h6 h7 => ?_, fun q _ s' W' W M f h1 h2 h3 h4 h5 h6 h7 => ?_⟩
    · have hl3 : l = 3 := by omega
      subst hl3
      obtain ⟨ep, el, es⟩ := cl_p 0 W' s'
      rw [h4] at ep el es
      have ep : s.p = s'.p := ep
      have es : s.c + W.length = s'.c + W'.length := es
      have hw := jt_sg3 (ca_some hj').2
      have hsg : ca_ b n sg_ s'.p = some w := by rw [← ep]; exact ca_of (fun c hc => (jt_sg3 hc).1) hj'
      obtain ⟨f0, rfl⟩ : ∃ f0, f = f0 + 1 := ⟨f - 1, by omega⟩
      have o1 := h1.1
      have o2 := h1.2.1
      obtain ⟨M1, x1, x2⟩ := RLx_sign (z := z) (f := f0) hT h7 (by omega) (by omega) h1.2.2.2 hsg
      rw [if_pos hw.2.1, h4] at x2
      rw [x1]
      refine h.1 rfl _ M1 ro_FU f0 ⟨?_, ?_, ?_, ?_⟩ ?_ ?_ x2
      · show s.p + 1 ≤ n; omega
      · show s.c + (W.length + 1) ≤ s.p + 1 + j; omega
      · show z ≤ W.length + 1; omega
      · intro x hx
        rcases List.mem_cons.mp hx with q | q
        · rw [q]; omega
        · exact h6 x q
      · have := fu_gt; omega
      · show n < f0 + (s.p + 1); omega
    · have hl3 : l = 2 := by omega
      subst hl3
      obtain ⟨ep, el, es⟩ := cl_p 1 W' s'
      rw [h4] at ep el es
      have ep : s.p = s'.p := ep
      have es : s.c + W.length = s'.c + W'.length := es
      have hw := jt_sg2 (ca_some hj').2
      have hsg : ca_ b n sg_ s'.p = some w := by rw [← ep]; exact ca_of (fun c hc => (jt_sg2 hc).1) hj'
      obtain ⟨f0, rfl⟩ : ∃ f0, f = f0 + 1 := ⟨f - 1, by omega⟩
      have o1 := h1.1
      have o2 := h1.2.1
      obtain ⟨M1, x1, x2⟩ := RLx_sign (z := z) (f := f0) hT h7 (by omega) (by omega) h1.2.2.2 hsg
      rw [if_neg (show ¬ 2 ≤ w by omega), h4] at x2
      rw [x1]
      have := h.2.1 rfl _ M1 ro_FU f0 ⟨?_, ?_, ?_, ?_⟩ ?_ ?_ (NT_cons _ ?_) x2
      · exact this
      · show s.p + 1 ≤ n; omega
      · show s.c + (W.length + 1) ≤ s.p + 1 + j; omega
      · show z ≤ W.length + 1; omega
      · intro x hx
        rcases List.mem_cons.mp hx with q | q
        · rw [q]; omega
        · exact h6 x q
      · have := fu_gt; omega
      · show n < f0 + (s.p + 1); omega
      · intro q; unfold isg_ at q; rw [sgw_d] at q; omega
  case c_ar =>
    intro d s l w s1 x hl hl2 hj' p1 h _ g hd
    have h := h hd
    have g := g hd
    have hpn := (ca_some hj').1
    refine ⟨fun q => by omega, fun q => by omega, fun q => by omega, fun q s' W' W M f h1 h2 h3 h4 h5 h6 h7 => ?_, fun q _ s' W' W M f h1 h2 h3 h4 h5 h6 h7 => ?_⟩
    · have hl3 : l = 3 := by omega
      subst hl3
      obtain ⟨ep, el, es⟩ := cl_p 0 W' s'
      rw [h4] at ep el es
      have ep : s.p = s'.p := ep
      have es : s.c + W.length = s'.c + W'.length := es
      have hw := jt_sg3 (ca_some hj').2
      have hsg : ca_ b n sg_ s'.p = some w := by rw [← ep]; exact ca_of (fun c hc => (jt_sg3 hc).1) hj'
      obtain ⟨f0, rfl⟩ : ∃ f0, f = f0 + 1 := ⟨f - 1, by omega⟩
      have o1 := h1.1
      have o2 := h1.2.1
      obtain ⟨M1, x1, x2⟩ := RLx_sign (z := z) (f := f0) hT h7 (by omega) (by omega) h1.2.2.2 hsg
      rw [if_pos hw.2.1, h4] at x2
      rw [x1]
      have this := h.1 rfl _ M1 ro_FU f0 ⟨?_, ?_, ?_, ?_⟩ ?_ ?_ x2
      · obtain ⟨f', M', s2, W2, a1, a2, a3, a4, a5⟩ := this
        obtain ⟨rfl, rfl⟩ := Prod.mk.inj a3
        rw [a1]
        refine g.2.2.2.1 (by omega) s2 _ W M' f' a4 a5 h3 ?_ h5 h6 a2
        rw [cl_sg _ _ (by unfold isg_; rw [sgw_d]; omega)]
        exact h3 _
      · show s.p + 1 ≤ n; omega
      · show s.c + (W.length + 1) ≤ s.p + 1 + j; omega
      · show z ≤ W.length + 1; omega
      · intro x hx
        rcases List.mem_cons.mp hx with q | q
        · rw [q]; omega
        · exact h6 x q
      · have := fu_gt; omega
      · show n < f0 + (s.p + 1); omega
    · have hl3 : l = 2 := by omega
      subst hl3
      obtain ⟨ep, el, es⟩ := cl_p 1 W' s'
      rw [h4] at ep el es
      have ep : s.p = s'.p := ep
      have es : s.c + W.length = s'.c + W'.length := es
      have hw := jt_sg2 (ca_some hj').2
      have hsg : ca_ b n sg_ s'.p = some w := by rw [← ep]; exact ca_of (fun c hc => (jt_sg2 hc).1) hj'
      obtain ⟨f0, rfl⟩ : ∃ f0, f = f0 + 1 := ⟨f - 1, by omega⟩
      have o1 := h1.1
      have o2 := h1.2.1
      obtain ⟨M1, x1, x2⟩ := RLx_sign (z := z) (f := f0) hT h7 (by omega) (by omega) h1.2.2.2 hsg
      rw [if_neg (show ¬ 2 ≤ w by omega), h4] at x2
      rw [x1]
      have this := h.2.1 rfl _ M1 ro_FU f0 ⟨?_, ?_, ?_, ?_⟩ ?_ ?_ (NT_cons _ ?_) x2
      · obtain ⟨f', M', s2, W2, a1, a2, a3, a4, a5⟩ := this
        rw [a1]
        have e := cl_cl W2 s2
        rw [a3] at e
        have e : cl_ 1 s1 (1048576 * (w + 2) :: W) = cl_ 1 s2 W2 := e
        have ep2 := (cl_p 0 W2 s2).1
        rw [a3] at ep2
        have ep2 : s1.p = s2.p := ep2
        refine g.2.2.2.2 (by omega) ((Pr_end _ _ _ _ p1 s1 rfl).1 (Or.inl rfl)) s2 W2 W M' f' a4 (show n < f' + s1.p by rw [ep2]; exact a5) h3 ?_ h5 h6 a2
        rw [← e, cl_sg _ _ (by unfold isg_; rw [sgw_d]; omega)]
        exact h3 _
      · show s.p + 1 ≤ n; omega
      · show s.c + (W.length + 1) ≤ s.p + 1 + j; omega
      · show z ≤ W.length + 1; omega
      · intro x hx
        rcases List.mem_cons.mp hx with q | q
        · rw [q]; omega
        · exact h6 x q
      · have := fu_gt; omega
      · show n < f0 + (s.p + 1); omega
      · intro q; unfold isg_ at q; rw [sgw_d] at q; omega
  case c_lgB => intro d s l w e hl _ _ _; exact TS_no (by omega)
  case c_lg => intro d s l w s1 x hl _ _ _ _ _; exact TS_no (by omega)
  case c_letter =>
    intro d s k hk hd
    refine ⟨fun _ W M k0 f h1 h2 h3 h4 => ?_, fun q => by omega, fun q => by omega, fun q => by omega, fun q => by omega⟩
    have hpn := ca_some hk
    have hlt := lt_dg0 _ (hT.2.2 _ hpn.1).2 (by rw [hpn.2]; intro q; cases q)
    have hd0 : dg_ b n s.p = none := dg_no (by omega)
    have o1 := h1.1
    have o2 := h1.2.1
    rcases RFk_atom (k := k0) hT h4 (by omega) (by omega) (by omega) (by omega) with ⟨x, M', ⟨a1, a2⟩, a3, a4⟩ | ⟨i, M', ⟨a1, a2, a3, a4⟩, a5, a6⟩ | ⟨M', a1, a2, a3⟩ | ⟨M', ⟨a1, a2⟩, a3, a4⟩
    · rw [hk] at a1
      obtain rfl := Option.some.inj a1
      refine ⟨f, M', _, W, ?_, a4, rfl, ⟨?_, ?_, h1.2.2.1, h1.2.2.2⟩, ?_⟩
      · unfold FMx; rw [a3, Option.bind_some, if_neg rt_10]
      · show s.p + 1 ≤ n; omega
      · show s.c + 1 + W.length ≤ s.p + 1 + j; omega
      · show n < f + (s.p + 1); omega
    · exact absurd hd0 (a3 0 (by omega))
    · exact absurd hd0 (a1 0 (by omega))
    · rw [hk] at a1; cases a1
  case c_num =>
    intro d s k k1 k5 hk hk0 hd
    refine ⟨fun _ W M k0 f h1 h2 h3 h4 => ?_, fun q => by omega, fun q => by omega, fun q => by omega, fun q => by omega⟩
    have hd0 := dg_z (hk 0 (by omega))
    have hdl := dg_z (hk (k - 1) (by omega))
    have o1 := h1.1
    have o2 := h1.2.1
    rcases RFk_atom (k := k0) hT h4 (by omega) (by have : b (s.p + 0) = b s.p := rfl; omega) (by omega) (by omega) with ⟨x, M', ⟨a1, a2⟩, a3, a4⟩ | ⟨i, M', ⟨a1, a2, a3, a4⟩, a5, a6⟩ | ⟨M', a1, a2, a3⟩ | ⟨M', ⟨a1, a2⟩, a3, a4⟩
    · exact absurd a2 (hk 0 (by omega))
    · have hik : i = k := by
        rcases Nat.lt_trichotomy i k with q | q | q
        · exact absurd a4 (hk i q)
        · exact q
        · exact absurd hk0 (a3 k q)
      subst hik
      refine ⟨f, M', _, W, ?_, a6, rfl, ⟨?_, ?_, h1.2.2.1, h1.2.2.2⟩, ?_⟩
      · unfold FMx; rw [a5, Option.bind_some, if_neg rt_10]
      · show s.p + i ≤ n; omega
      · show s.c + 1 + W.length ≤ s.p + i + j; omega
      · show n < f + (s.p + i); omega
    · exact absurd hk0 (a1 k (by omega))
    · exact absurd a2 (hk 0 (by omega))
  case c_numB =>
    intro d s hk hd
    refine ⟨fun _ W M k0 f h1 h2 h3 h4 => ?_, fun q => by omega, fun q => by omega, fun q => by omega, fun q => by omega⟩
    have hd0 := dg_z (hk 0 (by omega))
    have o1 := h1.1
    have o2 := h1.2.1
    rcases RFk_atom (k := k0) hT h4 (by omega) (by have : b (s.p + 0) = b s.p := rfl; omega) (by omega) (by omega) with ⟨x, M', ⟨a1, a2⟩, a3, a4⟩ | ⟨i, M', ⟨a1, a2, a3, a4⟩, a5, a6⟩ | ⟨M', a1, a2, a3⟩ | ⟨M', ⟨a1, a2⟩, a3, a4⟩
    · exact absurd a2 (hk 0 (by omega))
    · exact absurd a4 (hk i (by omega))
    · exact ⟨M', by unfold FMx; rw [a2, Option.bind_some, if_pos rfl], a3⟩
    · exact absurd a2 (hk 0 (by omega))
  case c_factB =>
    intro d s hl hd0 hb hd
    refine ⟨fun _ W M k0 f h1 h2 h3 h4 => ?_, fun q => by omega, fun q => by omega, fun q => by omega, fun q => by omega⟩
    have o1 := h1.1
    have o2 := h1.2.1
    rcases RFk_atom (k := k0) hT h4 (by omega) hb (by omega) (by omega) with ⟨x, M', ⟨a1, a2⟩, a3, a4⟩ | ⟨i, M', ⟨a1, a2, a3, a4⟩, a5, a6⟩ | ⟨M', a1, a2, a3⟩ | ⟨M', ⟨a1, a2⟩, a3, a4⟩
    · rw [hl] at a1; cases a1
    · exact absurd hd0 (a3 0 (by omega))
    · exact absurd hd0 (a1 0 (by omega))
    · exact ⟨M', by unfold FMx; rw [a3, Option.bind_some, if_pos rfl], a4⟩
  case c_opD =>
    intro d s hb hd6 hd
    refine ⟨fun _ W M k0 f h1 h2 h3 h4 => ?_, fun q => by omega, fun q => by omega, fun q => by omega, fun q => by omega⟩
    have o1 := h1.1
    have o2 := h1.2.1
    obtain ⟨k1, rfl⟩ : ∃ k1, k0 = k1 + 1 := ⟨k0 - 1, by omega⟩
    rcases RFk_open (k := k1) hT h4 (by omega) hd (by omega) hb with ⟨c, _⟩ | ⟨_, M', a1, a2⟩
    · omega
    · exact ⟨M', by unfold FMx; rw [a1, Option.bind_some, if_pos rfl], a2⟩
  case c_opE =>
    intro d s e hb hd6 _ h hd
    refine ⟨fun _ W M k0 f h1 h2 h3 h4 => ?_, fun q => by omega, fun q => by omega, fun q => by omega, fun q => by omega⟩
    have o1 := h1.1
    have o2 := h1.2.1
    have o3 := h1.2.2.1
    obtain ⟨k1, rfl⟩ : ∃ k1, k0 = k1 + 1 := ⟨k0 - 1, by omega⟩
    rcases RFk_open (k := k1) hT h4 (by omega) hd (by omega) hb with ⟨c, M', a1, a2⟩ | ⟨c, _⟩
    · have e1 : FMx z (k1 + 1) f M = FMx z k1 f M' := by unfold FMx; rw [a1]
      rw [e1]
      have this := (h (by omega)).2.2.1 rfl _ M' k1 f ⟨?_, ?_, ?_, ?_⟩ ?_ ?_ (NT_cons W ?_) a2
      · exact this
      · show s.p + 1 ≤ n; omega
      · show s.c + (W.length + 1) ≤ s.p + 1 + j; omega
      · rw [List.length_cons]; omega
      · intro x hx
        rcases List.mem_cons.mp hx with q | q
        · rw [q]; decide
        · exact h1.2.2.2 x q
      · show n < k1 + (s.p + 1); omega
      · show n < f + (s.p + 1); omega
      · decide
    · omega
  case c_opC =>
    intro d s s1 hb hd6 hcb p1 h hd
    refine ⟨fun _ W M k0 f h1 h2 h3 h4 => ?_, fun q => by omega, fun q => by omega, fun q => by omega, fun q => by omega⟩
    have o1 := h1.1
    have o2 := h1.2.1
    have o3 := h1.2.2.1
    obtain ⟨k1, rfl⟩ : ∃ k1, k0 = k1 + 1 := ⟨k0 - 1, by omega⟩
    rcases RFk_open (k := k1) hT h4 (by omega) hd (by omega) hb with ⟨c, M', a1, a2⟩ | ⟨c, _⟩
    · have e1 : FMx z (k1 + 1) f M = FMx z k1 f M' := by unfold FMx; rw [a1]
      rw [e1]
      have this := (h (by omega)).2.2.1 rfl _ M' k1 f ⟨?_, ?_, ?_, ?_⟩ ?_ ?_ (NT_cons W ?_) a2
      · obtain ⟨f', M2, s2, W2, b1, b2, b3, b4, b5⟩ := this
        rw [b1]
        have ep2 := (cl_p 1 W2 s2).1
        rw [b3] at ep2
        have ep2 : s1.p = s2.p := ep2
        have hop : hOp z W2 := by
          rw [← hOp_cl (k := 1) W2 s2, b3]
          exact Or.inl ⟨o3, by decide⟩
        obtain ⟨f0, rfl⟩ : ∃ f0, f' = f0 + 1 := ⟨f' - 1, by have := b4.1; omega⟩
        have c1 := b4.1
        have c2 := b4.2.1
        have c3 := b4.2.2.1
        have hsg : ca_ b n sg_ s2.p = none := by rw [← ep2]; exact (Pr_end _ _ _ _ p1 s1 rfl).2.1 rfl
        rcases RLx_end (z := z) (f := f0) hT b2 (by omega) (by omega) (by omega) b4.2.2.2 hsg (by rw [← ep2]; exact fun q => hcb q.1) with ⟨_, M3, d1, d2⟩ | ⟨c0, _⟩
        · exact ⟨M3, d1, by rw [ep2]; exact d2⟩
        · exact absurd hop c0
      · show s.p + 1 ≤ n; omega
      · show s.c + (W.length + 1) ≤ s.p + 1 + j; omega
      · rw [List.length_cons]; omega
      · intro x hx
        rcases List.mem_cons.mp hx with q | q
        · rw [q]; decide
        · exact h1.2.2.2 x q
      · show n < k1 + (s.p + 1); omega
      · show n < f + (s.p + 1); omega
      · decide
    · omega
  case c_opn =>
    intro d s s1 hb hd6 hcb p1 h hd
    refine ⟨fun _ W M k0 f h1 h2 h3 h4 => ?_, fun q => by omega, fun q => by omega, fun q => by omega, fun q => by omega⟩
    have o1 := h1.1
    have o2 := h1.2.1
    have o3 := h1.2.2.1
    obtain ⟨k1, rfl⟩ : ∃ k1, k0 = k1 + 1 := ⟨k0 - 1, by omega⟩
    rcases RFk_open (k := k1) hT h4 (by omega) hd (by omega) hb with ⟨c, M', a1, a2⟩ | ⟨c, _⟩
    · have e1 : FMx z (k1 + 1) f M = FMx z k1 f M' := by unfold FMx; rw [a1]
      rw [e1]
      have this := (h (by omega)).2.2.1 rfl _ M' k1 f ⟨?_, ?_, ?_, ?_⟩ ?_ ?_ (NT_cons W ?_) a2
      · obtain ⟨f', M2, s2, W2, b1, b2, b3, b4, b5⟩ := this
        rw [b1]
        obtain ⟨ep2, _, es2⟩ := cl_p 1 W2 s2
        rw [b3] at ep2 es2
        have ep2 : s1.p = s2.p := ep2
        have es2 : s1.c + (W.length + 1) = s2.c + W2.length := es2
        have hop : hOp z W2 := by
          rw [← hOp_cl (k := 1) W2 s2, b3]
          exact Or.inl ⟨o3, by decide⟩
        obtain ⟨f0, rfl⟩ : ∃ f0, f' = f0 + 1 := ⟨f' - 1, by have := b4.1; omega⟩
        have c1 := b4.1
        have c2 := b4.2.1
        have c3 := b4.2.2.1
        obtain ⟨M3, d1, d2⟩ := RLx_close (z := z) (f := f0) hT b2 (by omega) (by omega) (by omega) b4.2.2.2 (by rw [← ep2]; exact hcb) hop b3
        refine ⟨f0, M3, _, W, d1, d2, rfl, ⟨?_, ?_, o3, h1.2.2.2⟩, ?_⟩
        · show s1.p + 1 ≤ n; omega
        · show s1.c + W.length ≤ s1.p + 1 + j; omega
        · show n < f0 + (s1.p + 1); omega
      · show s.p + 1 ≤ n; omega
      · show s.c + (W.length + 1) ≤ s.p + 1 + j; omega
      · rw [List.length_cons]; omega
      · intro x hx
        rcases List.mem_cons.mp hx with q | q
        · rw [q]; decide
        · exact h1.2.2.2 x q
      · show n < k1 + (s.p + 1); omega
      · show n < f + (s.p + 1); omega
      · decide
    · omega
  all_goals (intros; exact TS_no (by omega))
theorem rt_readsSum {d : Nat} {s : Sx} {r : Res} {W : List Nat} {M : ro_Mem} (hT : RT b n m) (hj : j ≤ 19) (hp : Pr b n 2 d s r) (hd : d ≤ 6) (hs : s.p ≤ n) (hc : s.c + W.length ≤ s.p + j) (hx : ∀ x, x ∈ W → x < 2 ^ 31) (hNT : NT 1 W) (h : RW m s W d M) : match r with
  | .inl e => ∃ M', fn_X12_readsSum M = some (0, M') ∧ RX m e M'
  | .inr s1 => ∃ M', fn_X12_readsSum M = some (1, M') ∧ RW m s1 W d M' := by
  have hn := hT.2.1
  have hfu := fu_gt
  have e0 : fn_X12_readsSum M = FMx W.length ro_FU ro_FU M := by
    unfold fn_X12_readsSum
    rw [h.2.2.2.1]
    rfl
  have g := (TS_all (z := W.length) hT hj 2 d s r hp hd).2.2.1 rfl W M ro_FU ro_FU ⟨hs, hc, Nat.le_refl _, hx⟩ (by omega) (by omega) hNT h
  rw [e0]
  cases r with
  | inl e => exact g
  | inr s1 =>
    obtain ⟨f', M2, s2, W2, b1, b2, b3, b4, b5⟩ := g
    have ep2 := (cl_p 1 W2 s2).1
    rw [b3] at ep2
    have ep2 : s1.p = s2.p := ep2
    have hop : ¬ hOp W.length W2 := by
      rw [← hOp_cl (k := 1) W2 s2, b3]
      exact hOp_no (Nat.le_refl _)
    obtain ⟨f0, rfl⟩ : ∃ f0, f' = f0 + 1 := ⟨f' - 1, by have := b4.1; omega⟩
    have c1 := b4.1
    have c2 := b4.2.1
    have c3 := b4.2.2.1
    have hsg : ca_ b n sg_ s2.p = none := by rw [← ep2]; exact (Pr_end _ _ _ _ hp s1 rfl).2.1 rfl
    rcases RLx_end (z := W.length) (f := f0) hT b2 (by omega) (by omega) (by omega) b4.2.2.2 hsg (fun q => hop q.2) with ⟨q, _⟩ | ⟨_, M3, d1, d2⟩
    · exact absurd q hop
    · rw [b3] at d2
      exact ⟨M3, by rw [b1]; exact d1, d2⟩
end
