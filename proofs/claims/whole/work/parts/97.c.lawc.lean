-- ===== the class reads the law =====
def FE (o0 : Nat) (m : ro_Mem) (e : Int32) (M : ro_Mem) : Prop := (∀ o, ¬ o = 60 → ¬ (o0 ≤ o ∧ o ≤ o0 + 2) → M o = m o) ∧ (∀ k, ¬ k = 2 → ¬ k = 4 → M 60 k = m 60 k) ∧ (∀ k, ¬ k = 2 → M o0 k = m o0 k) ∧ M 60 4 = e ∧ ∃ c, c ≤ 200 ∧ M o0 2 = nI c
def CL (o0 : Nat) (m : ro_Mem) (s : Sx) (M : ro_Mem) : Prop := FE o0 m 0 M ∧ M 60 2 = nI s.p ∧ M o0 2 = nI s.c ∧ ∀ k, k < s.c → M (o0 + 1) k = nI (s.op k) ∧ M (o0 + 2) k = nI (s.ar k)
/-- the spare law -/
def Sp0 (o0 : Nat) (m : ro_Mem) : Prop := (o0 = 21 ∨ o0 = 51) ∧ m 50 0 = nI o0
theorem Sp0.sh {o0 : Nat} {m : ro_Mem} (h : Sp0 o0 m) : ro_sh o0 = (0, 2) := by rcases h.1 with e | e <;> rw [e] <;> decide +kernel
theorem FE.rf {o0 : Nat} {m M : ro_Mem} {e : Int32} (h : FE o0 m e M) (hs : Sp0 o0 m) : ro_rf M 50 0 = o0 := by
  show (M 50 0).toNatClampNeg = o0
  have := hs.1
  rw [h.1 50 (by decide) (by omega), hs.2, nI_clamp (by omega)]
section
variable {b : Nat → Nat} {n o0 : Nat} {m M : ro_Mem}
theorem FE.tp {e : Int32} (h : FE o0 m e M) (hs : Sp0 o0 m) (hT : Tp b n m) : Tp b n M := by
  obtain ⟨h1, h2, h3⟩ := hT
  have := hs.1
  exact ⟨by rw [h.2.1 3 (by decide) (by decide)]; exact h1, h2, fun i hi => by rw [h.1 61 (by decide) (by omega)]; exact h3 i hi⟩
/-- a step that changes the tape's place or its fault alone -/
theorem FE.fm {e : Int32} {M' : ro_Mem} (hs : Sp0 o0 m) (h : FE o0 m e M) (g : Fm M M') : FE o0 m (M' 60 4) M' := by
  obtain ⟨h1, h2, h3, h4, h5⟩ := h
  have := hs.1
  exact ⟨fun o a c => (g.1 o a).trans (h1 o a c), fun k a c => (g.2 k a c).trans (h2 k a c), fun k a => by rw [g.1 o0 (by omega)]; exact h3 k a, rfl, by rw [g.1 o0 (by omega)]; exact h5⟩
theorem CL.fm {s : Sx} {q : Nat} {M' : ro_Mem} (hs : Sp0 o0 m) (h : CL o0 m s M) (g : CT M q M') : CL o0 m (s.to q) M' := by
  obtain ⟨h1, h2, h3, h4⟩ := h
  have h0 := hs.1
  have f := h1.fm hs g.1
  rw [g.2.2] at f
  exact ⟨f, g.2.1, by rw [g.1.1 o0 (by omega)]; exact h3, fun k hk => by rw [g.1.1 _ (by omega), g.1.1 _ (by omega)]; exact h4 k hk⟩
theorem CL.ct {s : Sx} (h : CL o0 m s M) : CT M s.p M := ⟨⟨fun _ _ => rfl, fun _ _ _ => rfl⟩, h.2.1, h.1.2.2.2.1⟩
theorem CL.adv {s : Sx} (hs : Sp0 o0 m) (h : CL o0 m s M) : CL o0 m s.adv (ro_set M 60 2 ((M 60 2) + 1)) := h.fm hs h.ct.next
theorem rt_emitC {s : Sx} {w v : Nat} (hs : Sp0 o0 m) (h : CL o0 m s M) (hc : s.c < 200) : ∃ M', fn_X2_emit o0 (nI w) (nI v) M = some (nI s.c, M') ∧ CL o0 m (s.emit w v) M' := by
  obtain ⟨⟨f1, f2, f3, f4, -⟩, h2, h3, h4⟩ := h
  have h0 := hs.1
  obtain ⟨A1, a1⟩ : ∃ A1, A1 = ro_set M (o0 + 1) s.c (nI w) := ⟨_, rfl⟩
  have n1 : ∀ o, ¬ o = o0 + 1 → A1 o = M o := fun o h => by rw [a1, ro_set_ne _ _ _ h]
  obtain ⟨A2, a2⟩ : ∃ A2, A2 = ro_set A1 (o0 + 2) s.c (nI v) := ⟨_, rfl⟩
  have n2 : ∀ o, ¬ o = o0 + 2 → A2 o = A1 o := fun o h => by rw [a2, ro_set_ne _ _ _ h]
  have z2 : A2 o0 = M o0 := by rw [n2 o0 (by omega), n1 o0 (by omega)]
  refine ⟨ro_set A2 o0 2 (nI (s.c + 1)), ?_, ⟨fun o x y => ?_, fun k x y => ?_, fun k x => ?_, ?_, s.c + 1, by omega, by rw [ro_set_same, pk_us]⟩, ?_, by rw [ro_set_same, pk_us]; rfl, fun k hk => ?_⟩
  · unfold fn_X2_emit
    rw [ro_lt, h3, if_neg (show ¬ (200 : Int32) ≤ nI s.c from nI_ge hc (by decide)), if_pos (rt_in hc (by decide)), nI_clamp (show s.c < 2 ^ 31 by omega), ro_lt, ← a1, ro_lt, ← a2, z2, h3, nI_1, ro_lt]
  · rw [ro_set_ne _ _ _ (by omega), n2 o (by omega), n1 o (by omega)]; exact f1 o x y
  · rw [ro_set_ne _ _ _ (by omega), n2 60 (by omega), n1 60 (by omega)]; exact f2 k x y
  · rw [ro_set_same, pk_un x, z2]; exact f3 k x
  · rw [ro_set_ne _ _ _ (by omega), n2 60 (by omega), n1 60 (by omega)]; exact f4
  · rw [ro_set_ne _ _ _ (by omega), n2 60 (by omega), n1 60 (by omega)]; exact h2
  · have hk : k < s.c + 1 := hk
    rw [ro_set_ne _ _ _ (by omega), n2 (o0 + 1) (by omega), a1, ro_set_same, ro_set_ne _ _ _ (by omega), a2, ro_set_same, n1 (o0 + 2) (by omega)]
    show _ = nI (updN s.op s.c w k) ∧ _ = nI (updN s.ar s.c v k)
    by_cases c : k = s.c
    · rw [c, pk_us, pk_us, updN_s, updN_s]; exact ⟨rfl, rfl⟩
    · rw [pk_un c, pk_un c, updN_n c, updN_n c]; exact h4 k (by omega)
theorem rt_emitF {e w v : Int32} (hs : Sp0 o0 m) (h : FE o0 m e M) : ∃ z M', fn_X2_emit o0 w v M = some (z, M') ∧ FE o0 m e M' := by
  have h' := h
  obtain ⟨f1, f2, f3, f4, c, hc, f5⟩ := h
  have h0 := hs.1
  unfold fn_X2_emit
  rw [ro_lt, f5]
  by_cases c2 : c < 200
  · obtain ⟨A1, a1⟩ : ∃ A1, A1 = ro_set M (o0 + 1) c w := ⟨_, rfl⟩
    have n1 : ∀ o, ¬ o = o0 + 1 → A1 o = M o := fun o h => by rw [a1, ro_set_ne _ _ _ h]
    obtain ⟨A2, a2⟩ : ∃ A2, A2 = ro_set A1 (o0 + 2) c v := ⟨_, rfl⟩
    have n2 : ∀ o, ¬ o = o0 + 2 → A2 o = A1 o := fun o h => by rw [a2, ro_set_ne _ _ _ h]
    have z2 : A2 o0 = M o0 := by rw [n2 o0 (by omega), n1 o0 (by omega)]
    rw [if_neg (show ¬ (200 : Int32) ≤ nI c from nI_ge c2 (by decide)), if_pos (rt_in c2 (by decide)), nI_clamp (show c < 2 ^ 31 by omega), ro_lt, ← a1, ro_lt, ← a2, z2, f5, nI_1, ro_lt]
    refine ⟨_, _, rfl, fun o x y => ?_, fun k x y => ?_, fun k x => ?_, ?_, c + 1, by omega, by rw [ro_set_same, pk_us]⟩
    · rw [ro_set_ne _ _ _ (by omega), n2 o (by omega), n1 o (by omega)]; exact f1 o x y
    · rw [ro_set_ne _ _ _ (by omega), n2 60 (by omega), n1 60 (by omega)]; exact f2 k x y
    · rw [ro_set_same, pk_un x, z2]; exact f3 k x
    · rw [ro_set_ne _ _ _ (by omega), n2 60 (by omega), n1 60 (by omega)]; exact f4
  · rw [if_pos (show (200 : Int32) ≤ nI c from nI_le (a := 200) (by omega) (by omega))]
    exact ⟨_, M, rfl, h'⟩
theorem rt_jumpC {s : Sx} {i : Nat} (hs : Sp0 o0 m) (h : CL o0 m s M) (hi : i < 200) : ∃ M', fn_X2_jumpFrom o0 (nI i) M = some M' ∧ CL o0 m (s.land i) M' := by
  obtain ⟨⟨f1, f2, f3, f4, f5⟩, h2, h3, h4⟩ := h
  have h0 := hs.1
  refine ⟨ro_set M (o0 + 2) i (nI s.c), ?_, ⟨fun o x y => ?_, fun k x y => ?_, fun k x => ?_, ?_, ?_⟩, ?_, ?_, fun k hk => ?_⟩
  · unfold fn_X2_jumpFrom
    rw [if_neg (nI_pos (by omega)), if_neg (show ¬ (200 : Int32) ≤ nI i from nI_ge hi (by decide)), if_pos (rt_in hi (by decide)), nI_clamp (show i < 2 ^ 31 by omega), h3, ro_lt]
  · rw [ro_set_ne _ _ _ (by omega)]; exact f1 o x y
  · rw [ro_set_ne _ _ _ (by omega)]; exact f2 k x y
  · rw [ro_set_ne _ _ _ (by omega)]; exact f3 k x
  · rw [ro_set_ne _ _ _ (by omega)]; exact f4
  · rw [ro_set_ne _ _ _ (by omega)]; exact f5
  · rw [ro_set_ne _ _ _ (by omega)]; exact h2
  · rw [ro_set_ne _ _ _ (by omega)]; exact h3
  · rw [ro_set_ne _ _ _ (by omega), ro_set_same]
    refine ⟨(h4 k hk).1, ?_⟩
    show _ = nI (updN s.ar i s.c k)
    by_cases c : k = i
    · rw [c, pk_us, updN_s]
    · rw [pk_un c, updN_n c]; exact (h4 k hk).2
theorem rt_jumpF {e v : Int32} (hs : Sp0 o0 m) (h : FE o0 m e M) : ∃ M', fn_X2_jumpFrom o0 v M = some M' ∧ FE o0 m e M' := by
  have h' := h
  obtain ⟨f1, f2, f3, f4, f5⟩ := h
  have h0 := hs.1
  unfold fn_X2_jumpFrom
  rcases rt_ix v 200 (by decide) with x | ⟨i, hi, rfl⟩
  · exact ⟨M, rt_else x, h'⟩
  · rw [if_neg (nI_pos (by omega)), if_neg (show ¬ (200 : Int32) ≤ nI i from nI_ge hi (by decide)), if_pos (rt_in hi (by decide)), ro_lt]
    exact ⟨_, rfl, fun o x y => by rw [ro_set_ne _ _ _ (by omega)]; exact f1 o x y, fun k x y => by rw [ro_set_ne _ _ _ (by omega)]; exact f2 k x y, fun k x => by rw [ro_set_ne _ _ _ (by omega)]; exact f3 k x, by rw [ro_set_ne _ _ _ (by omega)]; exact f4, by rw [ro_set_ne _ _ _ (by omega)]; exact f5⟩
theorem rt_failX {s : Sx} {k : Int32} (hs : Sp0 o0 m) (h : CL o0 m s M) : ∃ M', fn_X8_fail k (M 60 2) M = some M' ∧ FE o0 m (flt k s.p) M' := by
  obtain ⟨f1, f2⟩ := rt_failC (M := M) (k := k) (q := s.p) h.1.2.2.2.1
  have := h.1.fm hs f2.1
  rw [f2.2] at this
  exact ⟨_, by rw [h.2.1]; exact f1, this⟩
theorem rt_passX {s : Sx} {v : Nat} (hs : Sp0 o0 m) (hT : Tp b n m) (h : CL o0 m s M) (hp : s.p ≤ 200) (hv : v < 256) : ((s.p < n ∧ b s.p = v) ∧ ∃ M', fn_X8_pass (nI v) M = some M' ∧ CL o0 m s.adv M') ∨ (¬ (s.p < n ∧ b s.p = v) ∧ ∃ M', fn_X8_pass (nI v) M = some M' ∧ FE o0 m (flt 1 s.p) M') := by
  rcases rt_passC (h.1.tp hs hT) h.ct (by omega) hv with ⟨c, M', x1, x2⟩ | ⟨c, M', x1, x2⟩
  · exact Or.inl ⟨c, M', x1, h.fm hs x2⟩
  · have := h.1.fm hs x2.1
    rw [x2.2] at this
    exact Or.inr ⟨c, M', x1, this⟩
theorem rt_passXF {v e : Int32} (hs : Sp0 o0 m) (hT : Tp b n m) (h : FE o0 m e M) (he : ¬ e = 0) : ∃ M', fn_X8_pass v M = some M' ∧ FE o0 m e M' := by
  obtain ⟨M', x1, x2⟩ := rt_passF (v := v) (e := e) (M := M) (h.tp hs hT) ⟨⟨fun _ _ => rfl, fun _ _ _ => rfl⟩, h.2.2.2.1⟩ he
  have := h.fm hs x2.1
  rw [x2.2] at this
  exact ⟨M', x1, this⟩
end
def i2_ (c : Nat) : Option Nat := if c = 43 then some 0 else if c = 45 then some 1 else if c = 42 then some 2 else if c = 47 then some 3 else if c = 37 then some 4 else if c = 60 then some 5 else if c = 62 then some 6 else if c = 61 then some 7 else none
def i1_ (c : Nat) : Option Nat := if c = 100 then some 0 else if c = 115 then some 1 else if c = 109 then some 2 else if c = 113 then some 3 else none
theorem ix_1 : ∀ c, c < 256 → fn_J0_indexOf_0f7a4 1 (ro_i2c (nI c)) = some (on_ (i1_ c)) := by decide +kernel
theorem ix_2 : ∀ c, c < 256 → fn_J0_indexOf_0f7a4 2 (ro_i2c (nI c)) = some (on_ (i2_ c)) := by decide +kernel
theorem ix_3 : ∀ c, c < 256 → fn_J0_indexOf_0f7a4 3 (ro_i2c (nI c)) = some (on_ (lt_ c)) := by decide +kernel
def pj_ (v2 q1 q3 : Int32) : Int32 := if v2 = 0 then (if q1 = 124 then 12 else -1) else if v2 = 1 then (if q1 = 38 then 11 else -1) else if v2 = 2 then (if 1 < q3 then -1 else q3) else if q3 < 2 then -1 else if 4 < q3 then -1 else q3
theorem pj_t : ∀ c, c < 256 → ∀ l, l < 4 → pj_ (nI l) (nI c) (on_ (i2_ c)) = on_ (jt_ l c) := by decide +kernel
theorem pj_e : ∀ l, l < 4 → pj_ (nI l) (-1) (-1) = -1 := by decide +kernel
theorem cp_t : ∀ c, c < 256 → (4 < on_ (i2_ c) ↔ ¬ cp_ c = none) ∧ (¬ cp_ c = none → on_ (i2_ c) = on_ (cp_ c)) := by decide +kernel
theorem pj_fn {l : Int32} {M : ro_Mem} {q1 q3 : Int32} (h1 : fn_X8_peek M = some q1) (h3 : fn_X8_peekAmong 2 M = some q3) : fn_X3_peekJoint l M = some (pj_ l q1 q3) := by
  unfold fn_X3_peekJoint pj_
  rw [h1, Option.bind_some, h3, Option.bind_some]
  repeat' split
  all_goals rfl
section
variable {b : Nat → Nat} {n o0 : Nat} {m M : ro_Mem}
theorem rt_among {i p : Nat} {f : Nat → Option Nat} (hi : ∀ c, c < 256 → fn_J0_indexOf_0f7a4 i (ro_i2c (nI c)) = some (on_ (f c))) (hT : Tp b n M) (h2 : M 60 2 = nI p) (hp : p < 2 ^ 30) : fn_X8_peekAmong i M = some (on_ (ca_ b n f p)) := by
  unfold fn_X8_peekAmong
  rw [rt_peek hT h2 hp, Option.bind_some]
  unfold ch_ ca_
  by_cases c : p < n
  · have := (hT.2.2 p c).2
    rw [if_pos c, if_pos c, if_pos (nI_pos' (by omega)), hi _ this, Option.bind_some]
  · rw [if_neg c, if_neg c, if_neg (show ¬ (0 : Int32) ≤ -1 by decide)]
    rfl
theorem rt_amongF {i : Nat} {f : Nat → Option Nat} (hi : ∀ c, c < 256 → fn_J0_indexOf_0f7a4 i (ro_i2c (nI c)) = some (on_ (f c))) (hT : Tp b n M) : ∃ v, fn_X8_peekAmong i M = some v := by
  have ht := hT
  obtain ⟨t1, t2, t3⟩ := hT
  unfold fn_X8_peekAmong fn_X8_peek
  rw [t1]
  rcases rt_ix (M 60 2) n (by omega) with h | ⟨p, hp, h⟩
  · refine ⟨-1, ?_⟩
    rw [show (if M 60 2 < 0 then some (-1 : Int32) else if nI n ≤ M 60 2 then some (-1) else if ro_in (M 60 2) 220 then some (M 61 (M 60 2).toNatClampNeg) else none) = some (-1) from rt_else h, Option.bind_some, if_neg (show ¬ (0 : Int32) ≤ -1 by decide)]
  · rw [h, if_neg (nI_pos (by omega)), if_neg (nI_ge hp (by omega)), if_pos (rt_in (n := 220) (by omega) (by decide)), nI_clamp (show p < 2 ^ 31 by omega), (t3 p hp).1, Option.bind_some, if_pos (nI_pos' (by have := (t3 p hp).2; omega)), hi _ (t3 p hp).2, Option.bind_some]
    exact ⟨_, rfl⟩
theorem rt_joint {s : Sx} {l : Nat} (hs : Sp0 o0 m) (hT : Tp b n m) (h : CL o0 m s M) (hl : l < 4) (hp : s.p ≤ 200) : fn_X3_peekJoint (nI l) M = some (on_ (ca_ b n (jt_ l) s.p)) := by
  have hTM := h.1.tp hs hT
  rw [pj_fn (rt_peek hTM h.2.1 (by omega)) (rt_among ix_2 hTM h.2.1 (by omega))]
  unfold ch_ ca_
  by_cases c : s.p < n
  · rw [if_pos c, if_pos c, if_pos c, pj_t _ (hTM.2.2 _ c).2 l hl]
  · rw [if_neg c, if_neg c, if_neg c]
    exact congrArg some (pj_e l hl)
theorem rt_jointF {e l : Int32} (hs : Sp0 o0 m) (hT : Tp b n m) (h : FE o0 m e M) : ∃ v, fn_X3_peekJoint l M = some v := by
  obtain ⟨q1, e1⟩ := rt_peekF (h.tp hs hT)
  obtain ⟨q3, e3⟩ := rt_amongF ix_2 (h.tp hs hT)
  exact ⟨_, pj_fn e1 e3⟩
theorem rt_enter {s : Sx} {d : Nat} (hs : Sp0 o0 m) (h : CL o0 m s M) (hd : d ≤ 6) (hp : s.p ≤ 200) : (d < 6 ∧ ∃ M', fn_X3_enter (nI d) M = some (1, M') ∧ CL o0 m s.adv M') ∨ (¬ d < 6 ∧ ∃ M', fn_X3_enter (nI d) M = some (0, M') ∧ FE o0 m (flt 5 s.p) M') := by
  unfold fn_X3_enter fj_X3_enter_28
  by_cases c : d < 6
  · have ha := h.adv hs
    rw [if_pos (show nI d < 6 from nI_lt (b := 6) c (by decide)), ro_lt, if_pos ha.1.2.2.2.1]
    exact Or.inl ⟨c, _, rfl, ha⟩
  · obtain ⟨M', x1, x2⟩ := rt_failX (k := 5) hs h
    have he := (flt_ok s.p (by omega) 5 (by decide)).1
    rw [if_neg (show ¬ nI d < 6 from nI_nlt (b := 6) (by omega) (by omega)), x1, Option.bind_some, if_neg (by rw [x2.2.2.2.1]; exact he)]
    exact Or.inr ⟨c, M', rfl, x2⟩
end
