-- ===== the class's tape, as it is read =====
def Tp (b : Nat → Nat) (n : Nat) (m : ro_Mem) : Prop := m 60 3 = nI n ∧ n ≤ 200 ∧ ∀ i, i < n → m 61 i = nI (b i) ∧ b i < 256
def Fm (m M : ro_Mem) : Prop := (∀ o, ¬ o = 60 → M o = m o) ∧ ∀ k, ¬ k = 2 → ¬ k = 4 → M 60 k = m 60 k
def CT (m : ro_Mem) (p : Nat) (M : ro_Mem) : Prop := Fm m M ∧ M 60 2 = nI p ∧ M 60 4 = 0
def FT (m : ro_Mem) (e : Int32) (M : ro_Mem) : Prop := Fm m M ∧ M 60 4 = e
theorem Fm.trans {a b c : ro_Mem} (h : Fm a b) (g : Fm b c) : Fm a c := ⟨fun o ho => (g.1 o ho).trans (h.1 o ho), fun k h2 h4 => (g.2 k h2 h4).trans (h.2 k h2 h4)⟩
theorem Fm.set {m M : ro_Mem} (h : Fm m M) {k : Nat} (hk : k = 2 ∨ k = 4) (v : Int32) : Fm m (ro_set M 60 k v) := ⟨fun o ho => by rw [ro_set_ne _ _ _ ho]; exact h.1 o ho, fun j h2 h4 => by rw [ro_set_same, pk_un (by omega)]; exact h.2 j h2 h4⟩
theorem Tp.fm {b : Nat → Nat} {n : Nat} {m M : ro_Mem} (h : Tp b n m) (g : Fm m M) : Tp b n M := by
  obtain ⟨h1, h2, h3⟩ := h
  refine ⟨by rw [g.2 3 (by decide) (by decide)]; exact h1, h2, fun i hi => by rw [g.1 61 (by decide)]; exact h3 i hi⟩
section
variable {b : Nat → Nat} {n : Nat} {m M : ro_Mem}
theorem rt_peek {p : Nat} (hT : Tp b n M) (h2 : M 60 2 = nI p) (hp : p < 2 ^ 30) : fn_X8_peek M = some (ch_ b n p) := by
  obtain ⟨t1, t2, t3⟩ := hT
  unfold fn_X8_peek ch_
  rw [h2, t1, if_neg (nI_pos (by omega))]
  by_cases c : p < n
  · rw [if_neg (nI_ge c (by omega)), if_pos (rt_in (n := 220) (by omega) (by decide)), nI_clamp (show p < 2 ^ 31 by omega), (t3 p c).1, if_pos c]
  · rw [if_pos (nI_le (by omega) (by omega)), if_neg c]
theorem rt_peekF (hT : Tp b n M) : ∃ v, fn_X8_peek M = some v := by
  obtain ⟨t1, t2, t3⟩ := hT
  unfold fn_X8_peek
  rw [t1]
  rcases rt_ix (M 60 2) n (by omega) with h | ⟨p, hp, h⟩
  · exact ⟨-1, rt_else h⟩
  · rw [h, if_neg (nI_pos (by omega)), if_neg (nI_ge hp (by omega)), if_pos (rt_in (n := 220) (by omega) (by decide))]
    exact ⟨_, rfl⟩
theorem rt_peekAmong {p : Nat} (hT : Tp b n M) (h2 : M 60 2 = nI p) (hp : p < 2 ^ 30) : fn_X8_peekAmong 0 M = some (on_ (if p < n then vo_ (b p) else none)) := by
  unfold fn_X8_peekAmong
  rw [rt_peek hT h2 hp, Option.bind_some]
  unfold ch_
  by_cases c : p < n
  · have := (hT.2.2 p c).2
    rw [if_pos c, if_pos c, if_pos (nI_pos' (by omega)), vo_C _ this, Option.bind_some]
  · rw [if_neg c, if_neg c, if_neg (show ¬ (0 : Int32) ≤ -1 by decide)]
    rfl
theorem rt_peekDigit {p : Nat} (hT : Tp b n M) (h2 : M 60 2 = nI p) (hp : p < 2 ^ 30) : fn_X8_peekDigit M = some (on_ (dg_ b n p)) := by
  unfold fn_X8_peekDigit
  rw [rt_peek hT h2 hp, Option.bind_some]
  unfold ch_ dg_
  by_cases c : p < n
  · have hb := (hT.2.2 p c).2
    rw [if_pos c]
    by_cases c1 : 48 ≤ b p
    · rw [if_neg (show ¬ nI (b p) < 48 from nI_nlt (b := 48) c1 (by omega))]
      by_cases c2 : b p ≤ 57
      · rw [if_neg (show ¬ (57 : Int32) < nI (b p) from nI_nlt (a := 57) c2 (by decide)), if_pos ⟨c, c1, c2⟩]
        show some (nI (b p) - 48) = some (nI (b p - 48))
        rw [show nI (b p) - 48 = nI (b p - 48) from pk_sub (b := 48) c1]
      · rw [if_pos (show (57 : Int32) < nI (b p) from nI_lt (a := 57) (by omega) (by omega)), if_neg (fun q => c2 q.2.2)]
        rfl
    · rw [if_pos (show nI (b p) < 48 from nI_lt (b := 48) (by omega) (by decide)), if_neg (fun q => c1 q.2.1)]
      rfl
  · rw [if_neg c, if_pos (show (-1 : Int32) < 48 by decide), if_neg (fun q => c q.1)]
    rfl
theorem rt_peekDigitF (hT : Tp b n M) : ∃ v, fn_X8_peekDigit M = some v := by
  obtain ⟨v, e⟩ := rt_peekF hT
  unfold fn_X8_peekDigit
  rw [e, Option.bind_some]
  by_cases c1 : v < 48
  · exact ⟨-1, if_pos c1⟩
  · rw [if_neg c1]
    by_cases c2 : 57 < v
    · exact ⟨-1, if_pos c2⟩
    · exact ⟨v - 48, if_neg c2⟩
theorem rt_failC {k : Int32} {q : Nat} (h4 : M 60 4 = 0) : fn_X8_fail k (nI q) M = some (ro_set M 60 4 (flt k q)) ∧ FT M (flt k q) (ro_set M 60 4 (flt k q)) := by
  refine ⟨?_, (Fm.set ⟨fun _ _ => rfl, fun _ _ _ => rfl⟩ (Or.inr rfl) _), by rw [ro_set_same, pk_us]⟩
  unfold fn_X8_fail
  rw [if_pos h4, ro_lt]
  rfl
theorem rt_failF {k x : Int32} (h4 : ¬ M 60 4 = 0) : fn_X8_fail k x M = some M := by
  unfold fn_X8_fail
  rw [if_neg h4]
theorem CT.next {p : Nat} (h : CT m p M) : CT m (p + 1) (ro_set M 60 2 ((M 60 2) + 1)) := by
  obtain ⟨h1, h2, h4⟩ := h
  refine ⟨h1.set (Or.inl rfl) _, by rw [ro_set_same, pk_us, h2, nI_1], by rw [ro_set_same, pk_un (by decide)]; exact h4⟩
theorem rt_readPitch {o0 p : Nat} (hT : Tp b n m) (h : CT m p M) (hp : p ≤ 210) : (dg_ b n p = none ∧ ∃ v M', fn_X5_readPitch o0 M = some (v, M') ∧ FT m (flt 1 p) M') ∨ ((∃ d, dg_ b n p = some d) ∧ 47 < (pp_ b n p).1 ∧ ∃ v M', fn_X5_readPitch o0 M = some (v, M') ∧ FT m (flt 3 p) M') ∨ ((∃ d, dg_ b n p = some d) ∧ ¬ 47 < (pp_ b n p).1 ∧ ∃ M', fn_X5_readPitch o0 M = some (nI (pp_ b n p).1, M') ∧ CT m (pp_ b n p).2 M') := by
  have hTM := hT.fm h.1
  unfold fn_X5_readPitch
  rw [ro_lt, rt_peekDigit hTM h.2.1 (by omega), Option.bind_some, h.2.1]
  cases e : dg_ b n p with
  | none =>
    obtain ⟨f1, f2⟩ := rt_failC (k := 1) (q := p) h.2.2
    refine Or.inl ⟨rfl, 0, ro_set M 60 4 (flt 1 p), ?_, h.1.trans f2.1, f2.2⟩
    show (if (0 : Int32) ≤ -1 then _ else _) = _
    rw [if_neg (show ¬ (0 : Int32) ≤ -1 by decide), f1, Option.bind_some]
  | some d =>
    have hd := (dg_lt e).1
    have hn := h.next
    rw [h.2.1] at hn
    refine Or.inr ?_
    have key : ∃ M'', CT m (pp_ b n p).2 M'' ∧ (if (0 : Int32) ≤ nI d then (ro_lt (ro_set M 60 2 (nI p + 1)) fun m6 => (fn_X8_peekDigit m6).bind fun q8 => if q8 < 0 then (fj_X5_readPitch_61 (nI p) (nI d) m6) else (ro_lt (ro_set m6 60 2 ((m6 60 2) + 1)) fun m14 => ro_lt ((10 * nI d) + q8) fun z16 => fj_X5_readPitch_61 (nI p) z16 m14)) else ((fn_X8_fail 1 (nI p) M).bind fun q18 => some (0, q18))) = fj_X5_readPitch_61 (nI p) (nI (pp_ b n p).1) M'' := by
      rw [if_pos (nI_pos' (by omega)), ro_lt, rt_peekDigit (hT.fm hn.1) hn.2.1 (by omega), Option.bind_some]
      cases e2 : dg_ b n (p + 1) with
      | none =>
        have hpp : pp_ b n p = (d, p + 1) := by unfold pp_; rw [e2, e]; rfl
        rw [hpp]
        refine ⟨_, hn, ?_⟩
        show (if (-1 : Int32) < 0 then _ else _) = _
        rw [if_pos (show (-1 : Int32) < 0 by decide)]
      | some d2 =>
        have hd2 := (dg_lt e2).1
        have hpp : pp_ b n p = (10 * d + d2, p + 2) := by unfold pp_; rw [e2, e]; rfl
        rw [hpp]
        refine ⟨_, hn.next, ?_⟩
        show (if nI d2 < 0 then _ else _) = _
        rw [if_neg (nI_pos (by omega)), ro_lt, ro_lt]
        show fj_X5_readPitch_61 (nI p) (nI 10 * nI d + nI d2) _ = _
        rw [pk_mul, nI_add]
    obtain ⟨M'', k1, k2⟩ := key
    have hpp := pp_le (b := b) (n := n) (p := p)
    have k2 : ∀ x, x = fj_X5_readPitch_61 (nI p) (nI (pp_ b n p).1) M'' → (47 < (pp_ b n p).1 ∧ ∃ v M', x = some (v, M') ∧ FT m (flt 3 p) M') ∨ (¬ 47 < (pp_ b n p).1 ∧ ∃ M', x = some (nI (pp_ b n p).1, M') ∧ CT m (pp_ b n p).2 M') := fun x hx => by
      rw [hx]
      unfold fj_X5_readPitch_61
      by_cases c : 47 < (pp_ b n p).1
      · obtain ⟨f1, f2⟩ := rt_failC (k := 3) (q := p) k1.2.2
        rw [if_neg (show ¬ nI (pp_ b n p).1 < 48 from nI_nlt (b := 48) (by omega) (by omega)), f1, Option.bind_some]
        exact Or.inl ⟨c, _, _, rfl, k1.1.trans f2.1, f2.2⟩
      · rw [if_pos (show nI (pp_ b n p).1 < 48 from nI_lt (b := 48) (by omega) (by decide))]
        exact Or.inr ⟨c, _, rfl, k1⟩
    rcases k2 _ (by assumption) with ⟨c, h⟩ | ⟨c, h⟩
    · exact Or.inl ⟨⟨d, rfl⟩, c, h⟩
    · exact Or.inr ⟨⟨d, rfl⟩, c, h⟩
theorem rt_passC {q : Nat} {v : Nat} (hT : Tp b n m) (h : CT m q M) (hq : q ≤ 210) (hv : v < 256) : ((q < n ∧ b q = v) ∧ ∃ M', fn_X8_pass (nI v) M = some M' ∧ CT m (q + 1) M') ∨ (¬ (q < n ∧ b q = v) ∧ ∃ M', fn_X8_pass (nI v) M = some M' ∧ FT m (flt 1 q) M') := by
  have hTM := hT.fm h.1
  unfold fn_X8_pass
  rw [rt_peek hTM h.2.1 (by omega), Option.bind_some]
  unfold ch_
  by_cases c : q < n ∧ b q = v
  · have e : (if q < n then nI (b q) else (-1 : Int32)) = nI v := by rw [if_pos c.1, c.2]
    rw [if_pos e, ro_lt]
    exact Or.inl ⟨c, _, rfl, h.next⟩
  · obtain ⟨f1, f2⟩ := rt_failC (k := 1) (q := q) h.2.2
    rw [h.2.1, f1]
    refine Or.inr ⟨c, _, ?_, h.1.trans f2.1, f2.2⟩
    by_cases c1 : q < n
    · have hb := (hTM.2.2 q c1).2
      rw [if_pos c1, if_neg (fun e => c ⟨c1, (nI_eq (by omega) (by omega)).mp e⟩), Option.bind_some]
    · rw [if_neg c1, if_neg (fun e => rt_m1 (show v < 2 ^ 31 by omega) e.symm), Option.bind_some]
theorem rt_passF {v : Int32} {e : Int32} (hT : Tp b n m) (h : FT m e M) (he : ¬ e = 0) : ∃ M', fn_X8_pass v M = some M' ∧ FT m e M' := by
  obtain ⟨x, ex⟩ := rt_peekF (hT.fm h.1)
  have h4 : ¬ M 60 4 = 0 := by rw [h.2]; exact he
  unfold fn_X8_pass
  rw [ex, Option.bind_some]
  by_cases c : x = v
  · rw [if_pos c, ro_lt]
    exact ⟨_, rfl, h.1.set (Or.inl rfl) _, by rw [ro_set_same, pk_un (by decide)]; exact h.2⟩
  · rw [if_neg c, rt_failF h4, Option.bind_some]
    exact ⟨M, rfl, h⟩
/-- what is left once a note has been read -/
def Nx (o0 : Nat) (m : ro_Mem) (N q : Nat) (x : Nat → Nat) (M : ro_Mem) : Prop := (∀ o, ¬ o = 60 → ¬ (o0 ≤ o ∧ o ≤ o0 + 5) → M o = m o) ∧ (∀ k, ¬ k = 2 → ¬ k = 4 → M 60 k = m 60 k) ∧ M 60 2 = nI q ∧ M 60 4 = 0 ∧ M o0 = upd (m o0) 5 (nI (N + 1)) ∧ ∀ j, 1 ≤ j → j ≤ 5 → M (o0 + j) = upd (m (o0 + j)) N (nI (x j))
theorem rt_noteEnd {o0 N q v pt l B A : Nat} (ho : o0 + 5 < 60) (h : CT m q M) (hN : N < 32) (h5 : m o0 5 = nI N) (h6 : m o0 6 = nI B) (h7 : m o0 7 = nI A) (hB : 1 ≤ B) (hA : 1 ≤ A) : ∃ M', fj_X5_readNote_92 o0 (nI v) (nI pt) (nI l) M = some M' ∧ Nx o0 m N (q + 1) (nx_ v pt l B A) M' := by
  obtain ⟨⟨f1, f2⟩, h2, h4⟩ := h
  obtain ⟨M0, e0⟩ : ∃ M0, M0 = ro_set M 60 2 (M 60 2 + 1) := ⟨_, rfl⟩
  have n0 : ∀ o, ¬ o = 60 → M0 o = m o := fun o h => by rw [e0, ro_set_ne _ _ _ h]; exact f1 o h
  obtain ⟨M1, e1⟩ : ∃ M1, M1 = ro_set M0 (o0 + 1) N (nI v) := ⟨_, rfl⟩
  have n1 : ∀ o, ¬ o = o0 + 1 → M1 o = M0 o := fun o h => by rw [e1, ro_set_ne _ _ _ h]
  obtain ⟨M2, e2⟩ : ∃ M2, M2 = ro_set M1 (o0 + 2) N (nI pt) := ⟨_, rfl⟩
  have n2 : ∀ o, ¬ o = o0 + 2 → M2 o = M1 o := fun o h => by rw [e2, ro_set_ne _ _ _ h]
  obtain ⟨M3, e3⟩ : ∃ M3, M3 = ro_set M2 (o0 + 3) N (nI l) := ⟨_, rfl⟩
  have n3 : ∀ o, ¬ o = o0 + 3 → M3 o = M2 o := fun o h => by rw [e3, ro_set_ne _ _ _ h]
  obtain ⟨M4, e4⟩ : ∃ M4, M4 = ro_set M3 (o0 + 4) N (nI (B - 1)) := ⟨_, rfl⟩
  have n4 : ∀ o, ¬ o = o0 + 4 → M4 o = M3 o := fun o h => by rw [e4, ro_set_ne _ _ _ h]
  obtain ⟨M5, e5⟩ : ∃ M5, M5 = ro_set M4 (o0 + 5) N (nI (A - 1)) := ⟨_, rfl⟩
  have n5 : ∀ o, ¬ o = o0 + 5 → M5 o = M4 o := fun o h => by rw [e5, ro_set_ne _ _ _ h]
  have z0 : M0 o0 = m o0 := n0 o0 (by omega)
  have z1 : M1 o0 = m o0 := by rw [n1 o0 (by omega), z0]
  have z2 : M2 o0 = m o0 := by rw [n2 o0 (by omega), z1]
  have z3 : M3 o0 = m o0 := by rw [n3 o0 (by omega), z2]
  have z4 : M4 o0 = m o0 := by rw [n4 o0 (by omega), z3]
  have z5 : M5 o0 = m o0 := by rw [n5 o0 (by omega), z4]
  refine ⟨ro_set M5 o0 5 (nI (N + 1)), ?_, fun o h60 hr => ?_, fun k k2 k4 => ?_, ?_, ?_, ?_, fun j j1 j5 => ?_⟩
  · unfold fj_X5_readNote_92
    rw [if_pos h4, ro_lt, ← e0, z0, h5, if_pos (rt_in hN (by decide)), nI_clamp (show N < 2 ^ 31 by omega), ro_lt, ← e1, z1, h5, if_pos (rt_in hN (by decide)), nI_clamp (show N < 2 ^ 31 by omega), ro_lt, ← e2, z2, h5, if_pos (rt_in hN (by decide)), nI_clamp (show N < 2 ^ 31 by omega), ro_lt, ← e3, z3, h5, if_pos (rt_in hN (by decide)), nI_clamp (show N < 2 ^ 31 by omega), h6, show nI B - 1 = nI (B - 1) from pk_sub (b := 1) hB, ro_lt, ← e4, z4, h5, if_pos (rt_in hN (by decide)), nI_clamp (show N < 2 ^ 31 by omega), h7, show nI A - 1 = nI (A - 1) from pk_sub (b := 1) hA, ro_lt, ← e5, z5, h5, nI_1, ro_lt]
  · rw [ro_set_ne _ _ _ (by omega), n5 o (by omega), n4 o (by omega), n3 o (by omega), n2 o (by omega), n1 o (by omega), n0 o h60]
  · rw [ro_set_ne _ _ _ (by omega), n5 60 (by omega), n4 60 (by omega), n3 60 (by omega), n2 60 (by omega), n1 60 (by omega), e0, ro_set_same, pk_un k2]
    exact f2 k k2 k4
  · rw [ro_set_ne _ _ _ (by omega), n5 60 (by omega), n4 60 (by omega), n3 60 (by omega), n2 60 (by omega), n1 60 (by omega), e0, ro_set_same, pk_us, h2, nI_1]
  · rw [ro_set_ne _ _ _ (by omega), n5 60 (by omega), n4 60 (by omega), n3 60 (by omega), n2 60 (by omega), n1 60 (by omega), e0, ro_set_same, pk_un (by decide)]
    exact h4
  · rw [ro_set_same, z5]
  · rw [ro_set_ne _ _ _ (by omega)]
    have hj : j = 1 ∨ j = 2 ∨ j = 3 ∨ j = 4 ∨ j = 5 := by omega
    rcases hj with rfl | rfl | rfl | rfl | rfl
    · rw [n5 _ (by omega), n4 _ (by omega), n3 _ (by omega), n2 _ (by omega), e1, ro_set_same, n0 _ (by omega)]; rfl
    · rw [n5 _ (by omega), n4 _ (by omega), n3 _ (by omega), e2, ro_set_same, n1 _ (by omega), n0 _ (by omega)]; rfl
    · rw [n5 _ (by omega), n4 _ (by omega), e3, ro_set_same, n2 _ (by omega), n1 _ (by omega), n0 _ (by omega)]; rfl
    · rw [n5 _ (by omega), e4, ro_set_same, n3 _ (by omega), n2 _ (by omega), n1 _ (by omega), n0 _ (by omega)]; rfl
    · rw [e5, ro_set_same, n4 _ (by omega), n3 _ (by omega), n2 _ (by omega), n1 _ (by omega), n0 _ (by omega)]; rfl
theorem rt_noteEndF {o0 : Nat} {v x y e : Int32} (h : FT m e M) (he : ¬ e = 0) : fj_X5_readNote_92 o0 v x y M = some M := by
  unfold fj_X5_readNote_92
  rw [if_neg (by rw [h.2]; exact he)]
theorem rt_readNote {o0 N p B A : Nat} (ho : o0 + 5 < 60) (hT : Tp b n m) (h2 : m 60 2 = nI p) (h4 : m 60 4 = 0) (hp : p ≤ 200) (hN : N ≤ 32) (h5 : m o0 5 = nI N) (h6 : m o0 6 = nI B) (h7 : m o0 7 = nI A) (hB : 1 ≤ B) (hA : 1 ≤ A) : (∃ e M', pn_ b n N p = .inl e ∧ fn_X5_readNote o0 m = some M' ∧ FT m e M') ∨ ∃ v pt l q M', pn_ b n N p = .inr (v, pt, l, q) ∧ fn_X5_readNote o0 m = some M' ∧ Nx o0 m N q (nx_ v pt l B A) M' := by
  have hn := hT.2.1
  have hb := fun e => pn_bad (b := b) (N := N) (e := e) hn hp
  have c0 : CT m p m := ⟨⟨fun _ _ => rfl, fun _ _ _ => rfl⟩, h2, h4⟩
  have e41F : ∀ {M' : ro_Mem} {e v : Int32}, FT m e M' → ¬ e = 0 → fj_X5_readNote_41 o0 v M' = some M' := fun h he => by
    unfold fj_X5_readNote_41
    rw [if_neg (by rw [h.2]; exact he)]
  unfold fn_X5_readNote
  rw [rt_peekAmong hT h2 (by omega), Option.bind_some]
  cases e1 : (if p < n then vo_ (b p) else none) with
  | none =>
    have epn : pn_ b n N p = .inl (flt 1 p) := by unfold pn_; rw [e1]
    obtain ⟨f1, f2⟩ := rt_failC (M := m) (k := 1) (q := p) h4
    refine Or.inl ⟨flt 1 p, ro_set m 60 4 (flt 1 p), epn, ?_, f2⟩
    show (if (0 : Int32) ≤ -1 then _ else _) = _
    rw [if_neg (show ¬ (0 : Int32) ≤ -1 by decide), h2, f1, Option.bind_some, e41F f2 (hb _ epn).1]
  | some v =>
    have hv : v < 4 := by
      by_cases c : p < n
      · rw [if_pos c] at e1; exact vo_lt e1
      · rw [if_neg c] at e1; cases e1
    rw [show on_ (some v) = nI v from rfl, if_pos (nI_pos' (by omega)), h5]
    by_cases cN : N = 32
    · have epn : pn_ b n N p = .inl (flt 4 p) := by unfold pn_; rw [e1]; exact if_pos cN
      obtain ⟨f1, f2⟩ := rt_failC (M := m) (k := 4) (q := p) h4
      refine Or.inl ⟨flt 4 p, ro_set m 60 4 (flt 4 p), epn, ?_, f2⟩
      rw [if_neg (show ¬ nI N < 32 from nI_nlt (b := 32) (by omega) (by omega)), h2, f1, Option.bind_some]
      exact e41F f2 (hb _ epn).1
    · rw [if_pos (show nI N < 32 from nI_lt (b := 32) (by omega) (by decide))]
      have c1 : CT m (p + 1) (ro_set m 60 2 (m 60 2 + 1)) := c0.next
      have e41 : fj_X5_readNote_41 o0 (nI v) m = ((fn_X5_readPitch o0 (ro_set m 60 2 (m 60 2 + 1))).bind fun q8 => (fn_X8_pass 120 q8.2).bind fun q10 => (fn_X8_peekDigit q10).bind fun q12 => if 1 ≤ q12 then (fj_X5_readNote_92 o0 (nI v) q8.1 q12 q10) else ((fn_X8_fail 1 (q10 60 2) q10).bind fun q35 => fj_X5_readNote_92 o0 (nI v) q8.1 q12 q35)) := by
        unfold fj_X5_readNote_41
        rw [if_pos h4, ro_lt]
      -- once there is a fault, it stays
      have tail : ∀ {M' : ro_Mem} {e w : Int32}, FT m e M' → ¬ e = 0 → ∃ M'', ((fn_X8_pass 120 M').bind fun q10 => (fn_X8_peekDigit q10).bind fun q12 => if 1 ≤ q12 then (fj_X5_readNote_92 o0 (nI v) w q12 q10) else ((fn_X8_fail 1 (q10 60 2) q10).bind fun q35 => fj_X5_readNote_92 o0 (nI v) w q12 q35)) = some M'' ∧ FT m e M'' := fun {M'} {e} {w} hF he => by
        obtain ⟨Y, y1, y2⟩ := rt_passF (v := 120) hT hF he
        obtain ⟨d, ed⟩ := rt_peekDigitF (hT.fm y2.1)
        refine ⟨Y, ?_, y2⟩
        rw [y1, Option.bind_some, ed, Option.bind_some]
        by_cases c : 1 ≤ d
        · rw [if_pos c]; exact rt_noteEndF y2 he
        · rw [if_neg c, rt_failF (by rw [y2.2]; exact he), Option.bind_some]; exact rt_noteEndF y2 he
      have hpp := pp_le (b := b) (n := n) (p := p + 1)
      rcases rt_readPitch (o0 := o0) hT c1 (by omega) with ⟨d0, w, M', x1, x2⟩ | ⟨⟨d, d0⟩, d1, w, M', x1, x2⟩ | ⟨⟨d, d0⟩, d1, M', x1, x2⟩
      · have epn : pn_ b n N p = .inl (flt 1 (p + 1)) := by
          unfold pn_; rw [e1]
          show (if N = 32 then _ else _) = _
          rw [if_neg cN, d0]
        obtain ⟨M'', t1, t2⟩ := tail (w := w) x2 (hb _ epn).1
        exact Or.inl ⟨_, M'', epn, by rw [e41, x1, Option.bind_some]; exact t1, t2⟩
      · have epn : pn_ b n N p = .inl (flt 3 (p + 1)) := by
          unfold pn_; rw [e1]
          show (if N = 32 then _ else _) = _
          rw [if_neg cN, d0]
          exact if_pos d1
        obtain ⟨M'', t1, t2⟩ := tail (w := w) x2 (hb _ epn).1
        exact Or.inl ⟨_, M'', epn, by rw [e41, x1, Option.bind_some]; exact t1, t2⟩
      · have epn0 : pn_ b n N p = if ¬ ((pp_ b n (p + 1)).2 < n ∧ b (pp_ b n (p + 1)).2 = 120) then .inl (flt 1 (pp_ b n (p + 1)).2) else match dg_ b n ((pp_ b n (p + 1)).2 + 1) with
            | none => .inl (flt 1 ((pp_ b n (p + 1)).2 + 1))
            | some l => if l = 0 then .inl (flt 1 ((pp_ b n (p + 1)).2 + 1)) else .inr (v, (pp_ b n (p + 1)).1, l, (pp_ b n (p + 1)).2 + 2) := by
          unfold pn_; rw [e1]
          show (if N = 32 then _ else _) = _
          rw [if_neg cN, d0]
          exact if_neg d1
        rw [e41, x1, Option.bind_some]
        generalize pp_ b n (p + 1) = P at *
        obtain ⟨pt, q⟩ := P
        dsimp only at *
        rcases rt_passC (v := 120) hT x2 (by omega) (by decide) with ⟨c3, Y, y1, y2⟩ | ⟨c3, Y, y1, y2⟩
        · have y1 : fn_X8_pass 120 M' = some Y := y1
          rw [if_neg (fun h => h c3)] at epn0
          rw [y1, Option.bind_some, rt_peekDigit (hT.fm y2.1) y2.2.1 (by omega), Option.bind_some]
          obtain ⟨f1, f2⟩ := rt_failC (M := Y) (k := 1) (q := q + 1) y2.2.2
          have f2 : FT m (flt 1 (q + 1)) (ro_set Y 60 4 (flt 1 (q + 1))) := ⟨y2.1.trans f2.1, f2.2⟩
          cases e3 : dg_ b n (q + 1) with
          | none =>
            rw [e3] at epn0
            have epn : pn_ b n N p = .inl (flt 1 (q + 1)) := epn0
            refine Or.inl ⟨_, _, epn, ?_, f2⟩
            show (if (1 : Int32) ≤ -1 then _ else _) = _
            rw [if_neg (show ¬ (1 : Int32) ≤ -1 by decide), y2.2.1, f1, Option.bind_some]
            exact rt_noteEndF f2 (hb _ epn).1
          | some l =>
            rw [e3] at epn0
            have hl := (dg_lt e3).1
            by_cases c4 : l = 0
            · have epn : pn_ b n N p = .inl (flt 1 (q + 1)) := epn0.trans (if_pos c4)
              refine Or.inl ⟨_, _, epn, ?_, f2⟩
              show (if (1 : Int32) ≤ nI l then _ else _) = _
              rw [c4, if_neg (show ¬ (1 : Int32) ≤ nI 0 by decide), y2.2.1, f1, Option.bind_some]
              exact rt_noteEndF f2 (hb _ epn).1
            · have epn := epn0.trans (if_neg c4)
              obtain ⟨Z, z1, z2⟩ := rt_noteEnd (v := v) (pt := pt) (l := l) ho y2 (show N < 32 by omega) h5 h6 h7 hB hA
              refine Or.inr ⟨_, _, _, _, Z, epn, ?_, z2⟩
              show (if (1 : Int32) ≤ nI l then _ else _) = _
              rw [if_pos (show (1 : Int32) ≤ nI l from nI_le (a := 1) (by omega) (by omega))]
              exact z1
        · have y1 : fn_X8_pass 120 M' = some Y := y1
          have epn : pn_ b n N p = .inl (flt 1 q) := epn0.trans (if_pos c3)
          obtain ⟨dd, ed⟩ := rt_peekDigitF (hT.fm y2.1)
          refine Or.inl ⟨_, Y, epn, ?_, y2⟩
          rw [y1, Option.bind_some, ed, Option.bind_some]
          by_cases c : 1 ≤ dd
          · rw [if_pos c]; exact rt_noteEndF y2 (hb _ epn).1
          · rw [if_neg c, rt_failF (by rw [y2.2]; exact (hb _ epn).1), Option.bind_some]; exact rt_noteEndF y2 (hb _ epn).1
end
