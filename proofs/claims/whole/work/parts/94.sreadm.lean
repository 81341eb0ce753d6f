-- ===== the reference's score, read through =====
def RF (m M : ro_Mem) : Prop := (∀ o, ¬ o = 207 → ¬ (223 ≤ o ∧ o ≤ 227) → M o = m o) ∧ ∀ k, ¬ k = 14 → ¬ k = 16 → ¬ k = 17 → ¬ (21 ≤ k ∧ k ≤ 23) → M 207 k = m 207 k
def RT (b : Nat → Nat) (n : Nat) (m : ro_Mem) : Prop := m 207 15 = nI n ∧ n ≤ 200 ∧ ∀ i, i < n → (m 217 i &&& 255) = nI (b i) ∧ b i < 256
theorem RF.trans {a b c : ro_Mem} (h : RF a b) (g : RF b c) : RF a c := ⟨fun o h1 h2 => (g.1 o h1 h2).trans (h.1 o h1 h2), fun k h1 h2 h3 h4 => (g.2 k h1 h2 h3 h4).trans (h.2 k h1 h2 h3 h4)⟩
theorem RF.rfl' {a : ro_Mem} : RF a a := ⟨fun _ _ _ => rfl, fun _ _ _ _ _ => rfl⟩
theorem RF.set {m M : ro_Mem} (h : RF m M) {k : Nat} (hk : k = 14 ∨ k = 16 ∨ k = 17 ∨ (21 ≤ k ∧ k ≤ 23)) (v : Int32) : RF m (ro_set M 207 k v) := ⟨fun o ho h2 => by rw [ro_set_ne _ _ _ ho]; exact h.1 o ho h2, fun j h1 h2 h3 h4 => by rw [ro_set_same, pk_un (by omega)]; exact h.2 j h1 h2 h3 h4⟩
theorem RF.rt {b : Nat → Nat} {n : Nat} {m M : ro_Mem} (h : RF m M) (hT : RT b n m) : RT b n M := by
  obtain ⟨h1, h2, h3⟩ := hT
  exact ⟨by rw [h.2 15 (by decide) (by decide) (by decide) (by omega)]; exact h1, h2, fun i hi => by rw [h.1 217 (by decide) (by omega)]; exact h3 i hi⟩
/-- what stays while a note is read: all but 14, 16, 17 -/
def RN (m M : ro_Mem) : Prop := (∀ o, ¬ o = 207 → M o = m o) ∧ ∀ k, ¬ k = 14 → ¬ k = 16 → ¬ k = 17 → M 207 k = m 207 k
theorem RN.rf {m M : ro_Mem} (h : RN m M) : RF m M := ⟨fun o h1 _ => h.1 o h1, fun k h1 h2 h3 _ => h.2 k h1 h2 h3⟩
theorem RN.trans {a b c : ro_Mem} (h : RN a b) (g : RN b c) : RN a c := ⟨fun o h1 => (g.1 o h1).trans (h.1 o h1), fun k h1 h2 h3 => (g.2 k h1 h2 h3).trans (h.2 k h1 h2 h3)⟩
theorem RN.set {m M : ro_Mem} (h : RN m M) {k : Nat} (hk : k = 14 ∨ k = 16 ∨ k = 17) (v : Int32) : RN m (ro_set M 207 k v) := ⟨fun o ho => by rw [ro_set_ne _ _ _ ho]; exact h.1 o ho, fun j h1 h2 h3 => by rw [ro_set_same, pk_un (by omega)]; exact h.2 j h1 h2 h3⟩
theorem RN.rfl' {a : ro_Mem} : RN a a := ⟨fun _ _ => rfl, fun _ _ _ _ => rfl⟩
section
variable {b : Nat → Nat} {n : Nat} {m M : ro_Mem}
theorem rt_here {p : Nat} (hT : RT b n M) (h : M 207 14 = nI p) (hp : p < 2 ^ 30) : fn_X12_here M = some (ch_ b n p) := by
  obtain ⟨t1, t2, t3⟩ := hT
  unfold fn_X12_here ch_
  rw [h, t1]
  by_cases c : p < n
  · rw [if_neg (nI_ge c (by omega)), if_pos (rt_in (n := 220) (by omega) (by decide)), nI_clamp (show p < 2 ^ 31 by omega), (t3 p c).1, if_pos c]
  · rw [if_pos (nI_le (by omega) (by omega)), if_neg c]
theorem rt_isDigit {p : Nat} (hT : RT b n M) (h : M 207 14 = nI p) (hp : p < 2 ^ 30) : fn_X12_isDigit M = some (match dg_ b n p with
    | none => 0
    | some _ => 1) := by
  unfold fn_X12_isDigit
  rw [rt_here hT h hp, Option.bind_some, Option.bind_some]
  unfold ch_ dg_
  by_cases c : p < n
  · have hb := (hT.2.2 p c).2
    rw [if_pos c]
    by_cases c1 : 48 ≤ b p
    · rw [if_neg (show ¬ nI (b p) < 48 from nI_nlt (b := 48) c1 (by omega))]
      by_cases c2 : b p ≤ 57
      · rw [if_neg (show ¬ (57 : Int32) < nI (b p) from nI_nlt (a := 57) c2 (by decide)), if_pos ⟨c, c1, c2⟩]
      · rw [if_pos (show (57 : Int32) < nI (b p) from nI_lt (a := 57) (by omega) (by omega)), if_neg (fun q => c2 q.2.2)]
    · rw [if_pos (show nI (b p) < 48 from nI_lt (b := 48) (by omega) (by decide)), if_neg (fun q => c1 q.2.1)]
  · rw [if_neg c, if_pos (show (-1 : Int32) < 48 by decide), if_neg (fun q => c q.1)]
theorem rt_wrong {k : Int32} {q : Nat} : fn_X12_wrongAt k (nI q) M = some (0, ro_set M 207 16 (flt k q)) := by
  unfold fn_X12_wrongAt
  rw [ro_lt]
  rfl
theorem rt_pitchStep {p s x d : Nat} {rec : ro_Mem → Option ro_Mem} (hT : RT b n M) (h : M 207 14 = nI p) (hp : p ≤ 210) (hs : p < s + 2) (h17 : M 207 17 = nI x) (hd : dg_ b n p = some d) (hs2 : s ≤ 210) : fb_X12_readsPitch_10 (nI s) rec M = rec (ro_set (ro_set M 207 17 (nI (10 * x + d))) 207 14 (nI (p + 1))) := by
  obtain ⟨d1, d2, d3⟩ := dg_lt hd
  unfold fb_X12_readsPitch_10
  rw [rt_isDigit hT h (by omega), Option.bind_some, hd]
  show (if (1 : Int32) = 0 then _ else _) = _
  rw [if_neg rt_10, h, show nI s + 2 = nI (s + 2) from nI_add s 2, if_neg (nI_ge hs (by omega)), rt_here hT h (by omega), Option.bind_some]
  unfold ch_
  rw [if_pos d2, d3, h17, ro_lt, ro_set_same, pk_un (show ¬ 14 = 17 by decide), h, nI_1, ro_lt]
  have e : (10 : Int32) * nI x + nI (48 + d) - 48 = nI (10 * x + d) := by
    show nI 10 * nI x + nI (48 + d) - nI 48 = _
    rw [pk_mul, nI_add, pk_sub (by omega)]
    congr 1
    omega
  rw [e]
theorem rt_pitchEnd {p s : Nat} {rec : ro_Mem → Option ro_Mem} (hT : RT b n M) (h : M 207 14 = nI p) (hp : p ≤ 220) (hs : s ≤ 210) (hd : dg_ b n p = none ∨ s + 2 ≤ p) : fb_X12_readsPitch_10 (nI s) rec M = some M := by
  unfold fb_X12_readsPitch_10
  rw [rt_isDigit hT h (by omega), Option.bind_some]
  cases e : dg_ b n p with
  | none => exact if_pos rfl
  | some d =>
    rcases hd with hd | hd
    · rw [hd] at e; cases e
    · show (if (1 : Int32) = 0 then _ else _) = _
      rw [if_neg rt_10, h, show nI s + 2 = nI (s + 2) from nI_add s 2, if_pos (nI_le hd (by omega))]
theorem rt_readsPitch {p : Nat} (hT : RT b n M) (h : M 207 14 = nI p) (hp : p ≤ 205) : (dg_ b n p = none ∧ ∃ M', fn_X12_readsPitch M = some (0, M') ∧ RN M M' ∧ M' 207 16 = flt 1 p) ∨ ((∃ d, dg_ b n p = some d) ∧ 47 < (pp_ b n p).1 ∧ ∃ M', fn_X12_readsPitch M = some (0, M') ∧ RN M M' ∧ M' 207 16 = flt 3 p) ∨ ((∃ d, dg_ b n p = some d) ∧ ¬ 47 < (pp_ b n p).1 ∧ ∃ M', fn_X12_readsPitch M = some (1, M') ∧ RN M M' ∧ M' 207 17 = nI (pp_ b n p).1 ∧ M' 207 14 = nI (pp_ b n p).2) := by
  obtain ⟨m3, e3⟩ : ∃ m3, m3 = ro_set M 207 17 0 := ⟨_, rfl⟩
  have r3 : RN M m3 := by rw [e3]; exact RN.rfl'.set (Or.inr (Or.inr rfl)) _
  have h3 : m3 207 14 = nI p := by rw [e3, ro_set_same, pk_un (by decide)]; exact h
  have x3 : m3 207 17 = nI 0 := by rw [e3, ro_set_same, pk_us]; rfl
  have hT3 := r3.rf.rt hT
  have hhd : fn_X12_readsPitch M = (fl_X12_readsPitch_10 (nI p) m3).bind fun q15 => fj_X12_readsPitch_59 (nI p) q15 := by
    unfold fn_X12_readsPitch
    rw [ro_lt, ro_lt, ← e3, h]
  have hpp := pp_le (b := b) (n := n) (p := p)
  cases e : dg_ b n p with
  | none =>
    have hl : fl_X12_readsPitch_10 (nI p) m3 = some m3 := rt_pitchEnd (b := b) (n := n) hT3 h3 (by omega) (by omega) (Or.inl e)
    refine Or.inl ⟨rfl, ro_set m3 207 16 (flt 1 p), ?_, r3.set (Or.inr (Or.inl rfl)) _, by rw [ro_set_same, pk_us]⟩
    rw [hhd, hl, Option.bind_some]
    unfold fj_X12_readsPitch_59
    rw [h3, if_pos rfl, rt_wrong, Option.bind_some, if_pos (Or.inl rfl)]
  | some d =>
    obtain ⟨d1, d2, -⟩ := dg_lt e
    obtain ⟨m4, e4⟩ : ∃ m4, m4 = ro_set (ro_set m3 207 17 (nI d)) 207 14 (nI (p + 1)) := ⟨_, rfl⟩
    have r4 : RN M m4 := by rw [e4]; exact (r3.set (Or.inr (Or.inr rfl)) _).set (Or.inl rfl) _
    have h4 : m4 207 14 = nI (p + 1) := by rw [e4, ro_set_same, pk_us]
    have x4 : m4 207 17 = nI d := by rw [e4, ro_set_same, pk_un (by decide), ro_set_same, pk_us]
    have hT4 := r4.rf.rt hT
    have key : ∃ M', fl_X12_readsPitch_10 (nI p) m3 = some M' ∧ RN M M' ∧ M' 207 17 = nI (pp_ b n p).1 ∧ M' 207 14 = nI (pp_ b n p).2 := by
      have s1 : ∀ rec, fb_X12_readsPitch_10 (nI p) rec m3 = rec m4 := fun rec => by
        rw [rt_pitchStep hT3 h3 (by omega) (by omega) x3 e (by omega), e4, Nat.mul_zero, Nat.zero_add]
      obtain ⟨f, hf⟩ : ∃ f, ro_FU = f + 3 := ⟨ro_FU - 3, by decide⟩
      unfold fl_X12_readsPitch_10
      rw [hf, show ro_loop (fun rec s => fb_X12_readsPitch_10 (nI p) rec s) (f + 3) m3 = fb_X12_readsPitch_10 (nI p) (ro_loop (fun rec s => fb_X12_readsPitch_10 (nI p) rec s) (f + 2)) m3 from rfl, s1, show ro_loop (fun rec s => fb_X12_readsPitch_10 (nI p) rec s) (f + 2) m4 = fb_X12_readsPitch_10 (nI p) (ro_loop (fun rec s => fb_X12_readsPitch_10 (nI p) rec s) (f + 1)) m4 from rfl]
      cases e2 : dg_ b n (p + 1) with
      | none =>
        have hppe : pp_ b n p = (d, p + 1) := by unfold pp_; rw [e2, e]; rfl
        rw [hppe]
        exact ⟨m4, rt_pitchEnd hT4 h4 (by omega) (by omega) (Or.inl e2), r4, x4, h4⟩
      | some d' =>
        have hppe : pp_ b n p = (10 * d + d', p + 2) := by unfold pp_; rw [e2, e]; rfl
        rw [hppe, rt_pitchStep hT4 h4 (by omega) (by omega) x4 e2 (by omega)]
        obtain ⟨m5, e5⟩ : ∃ m5, m5 = ro_set (ro_set m4 207 17 (nI (10 * d + d'))) 207 14 (nI (p + 1 + 1)) := ⟨_, rfl⟩
        have r5 : RN M m5 := by rw [e5]; exact (r4.set (Or.inr (Or.inr rfl)) _).set (Or.inl rfl) _
        have h5 : m5 207 14 = nI (p + 2) := by rw [e5, ro_set_same, pk_us]
        rw [← e5, show ro_loop (fun rec s => fb_X12_readsPitch_10 (nI p) rec s) (f + 1) m5 = fb_X12_readsPitch_10 (nI p) (ro_loop (fun rec s => fb_X12_readsPitch_10 (nI p) rec s) f) m5 from rfl]
        exact ⟨m5, rt_pitchEnd (r5.rf.rt hT) h5 (by omega) (by omega) (Or.inr (Nat.le_refl _)), r5, by rw [e5, ro_set_same, pk_un (by decide), ro_set_same, pk_us], h5⟩
    obtain ⟨M', k1, k2, k3, k4⟩ := key
    rw [hhd, k1, Option.bind_some]
    unfold fj_X12_readsPitch_59
    rw [k4, if_neg (fun z => by have := (nI_eq (by omega) (by omega)).mp z; omega), k3]
    by_cases c : 47 < (pp_ b n p).1
    · rw [if_neg (show ¬ nI (pp_ b n p).1 ≤ 47 from nI_ge (a := 47) c (by omega)), rt_wrong, Option.bind_some, if_pos rfl]
      exact Or.inr (Or.inl ⟨⟨d, rfl⟩, c, ro_set M' 207 16 (flt 3 p), rfl, k2.set (Or.inr (Or.inl rfl)) _, by rw [ro_set_same, pk_us]⟩)
    · rw [if_pos (show nI (pp_ b n p).1 ≤ 47 from nI_le (b := 47) (by omega) (by decide))]
      exact Or.inr (Or.inr ⟨⟨d, rfl⟩, c, M', rfl, k2, k3, k4⟩)
theorem rt_takes {q v : Nat} (hT : RT b n M) (h : M 207 14 = nI q) (hq : q ≤ 220) (hv : v < 256) : ((q < n ∧ b q = v) ∧ fn_X12_takes (nI v) M = some (1, ro_set M 207 14 (nI (q + 1)))) ∨ (¬ (q < n ∧ b q = v) ∧ fn_X12_takes (nI v) M = some (0, ro_set M 207 16 (flt 1 q))) := by
  unfold fn_X12_takes
  rw [rt_here hT h (by omega), Option.bind_some]
  unfold ch_
  by_cases c : q < n ∧ b q = v
  · have e : (if q < n then nI (b q) else (-1 : Int32)) = nI v := by rw [if_pos c.1, c.2]
    rw [if_pos e, h, nI_1, ro_lt]
    exact Or.inl ⟨c, rfl⟩
  · refine Or.inr ⟨c, ?_⟩
    rw [h, rt_wrong, Option.bind_some, if_pos (Or.inl rfl)]
    by_cases c1 : q < n
    · have hb := (hT.2.2 q c1).2
      rw [if_pos c1, if_neg (fun e => c ⟨c1, (nI_eq (by omega) (by omega)).mp e⟩)]
    · rw [if_neg c1, if_neg (fun e => rt_m1 (show v < 2 ^ 31 by omega) e.symm)]
/-- what is left once a note has been read -/
def NxM (m : ro_Mem) (N q : Nat) (x : Nat → Nat) (M : ro_Mem) : Prop := RF m M ∧ M 207 14 = nI q ∧ M 207 21 = nI (N + 1) ∧ M 207 22 = m 207 22 ∧ M 207 23 = m 207 23 ∧ ∀ j, 1 ≤ j → j ≤ 5 → M (222 + j) = upd (m (222 + j)) N (nI (x j))
theorem rt_readsNote {N p B A : Nat} (hT : RT b n m) (h : m 207 14 = nI p) (hp : p ≤ 200) (hN : N ≤ 32) (h21 : m 207 21 = nI N) (h22 : m 207 22 = nI B) (h23 : m 207 23 = nI A) (hB : 1 ≤ B) (hA : 1 ≤ A) : (∃ e M', pn_ b n N p = .inl e ∧ fn_X12_readsNote m = some (0, M') ∧ RF m M' ∧ M' 207 16 = e) ∨ ∃ v pt l q M', pn_ b n N p = .inr (v, pt, l, q) ∧ fn_X12_readsNote m = some (1, M') ∧ NxM m N q (nx_ v pt l B A) M' := by
  have hn := hT.2.1
  have hvo : ((fn_X12_here m).bind fun q1 => fn_X12_voice q1) = some (on_ (if p < n then vo_ (b p) else none)) := by
    rw [rt_here hT h (by omega), Option.bind_some]
    unfold ch_
    by_cases c : p < n
    · rw [if_pos c, if_pos c, vo_M _ (hT.2.2 p c).2]
    · rw [if_neg c, if_neg c]; decide +kernel
  have hhd : fn_X12_readsNote m = (((fn_X12_here m).bind fun q1 => fn_X12_voice q1).bind fun q3 => if q3 = (-1) then ((fn_X12_wrongAt 1 (m 207 14) m).bind fun q48 => if q48.1 = 0 ∨ q48.1 = 1 then (some (q48.1, q48.2)) else none) else (if (m 207 21) = 32 then ((fn_X12_wrongAt 4 (m 207 14) m).bind fun q45 => if q45.1 = 0 ∨ q45.1 = 1 then (some (q45.1, q45.2)) else none) else (ro_lt (ro_set m 207 14 ((m 207 14) + 1)) fun m7 => (fn_X12_readsPitch m7).bind fun q9 => if q9.1 = 0 then (some (0, q9.2)) else ((fn_X12_takes 120 q9.2).bind fun q12 => if q12.1 = 0 then (some (0, q12.2)) else ((fn_X12_isDigit q12.2).bind fun q15 => if q15 = 0 then (fj_X12_readsNote_86 q12.2) else ((fn_X12_here q12.2).bind fun q21 => if q21 = 48 then (fj_X12_readsNote_86 q12.2) else (if ro_in (q12.2 207 21) 32 then (ro_lt (ro_set q12.2 223 (q12.2 207 21).toNatClampNeg q3) fun m25 => if ro_in (m25 207 21) 32 then (ro_lt (ro_set m25 224 (m25 207 21).toNatClampNeg (m25 207 17)) fun m28 => (fn_X12_here m28).bind fun q30 => if ro_in (m28 207 21) 32 then (ro_lt (ro_set m28 225 (m28 207 21).toNatClampNeg (q30 - 48)) fun m33 => if ro_in (m33 207 21) 32 then (ro_lt (ro_set m33 226 (m33 207 21).toNatClampNeg ((m33 207 22) - 1)) fun m36 => if ro_in (m36 207 21) 32 then (ro_lt (ro_set m36 227 (m36 207 21).toNatClampNeg ((m36 207 23) - 1)) fun m39 => ro_lt (ro_set m39 207 21 ((m39 207 21) + 1)) fun m41 => ro_lt (ro_set m41 207 14 ((m41 207 14) + 1)) fun m43 => some (1, m43)) else none) else none) else none) else none) else none))))))) := by
    unfold fn_X12_readsNote
    rw [Option.bind_assoc]
  rw [hvo, Option.bind_some] at hhd
  have bad : ∀ (k : Int32) (q : Nat) (X : ro_Mem), X 207 14 = nI q → ((fn_X12_wrongAt k (X 207 14) X).bind fun q48 => if q48.1 = 0 ∨ q48.1 = 1 then (some (q48.1, q48.2)) else none) = some (0, ro_set X 207 16 (flt k q)) := fun k q X hX => by
    rw [hX, rt_wrong, Option.bind_some, if_pos (Or.inl rfl)]
  cases e1 : (if p < n then vo_ (b p) else none) with
  | none =>
    have epn : pn_ b n N p = .inl (flt 1 p) := by unfold pn_; rw [e1]
    rw [e1] at hhd
    refine Or.inl ⟨flt 1 p, ro_set m 207 16 (flt 1 p), epn, ?_, RF.rfl'.set (Or.inr (Or.inl rfl)) _, by rw [ro_set_same, pk_us]⟩
    rw [hhd, show on_ none = -1 from rfl, if_pos rfl, bad 1 p m h]
  | some v =>
    have hv : v < 4 := by
      by_cases c : p < n
      · rw [if_pos c] at e1; exact vo_lt e1
      · rw [if_neg c] at e1; cases e1
    rw [e1, show on_ (some v) = nI v from rfl, if_neg (rt_m1 (by omega)), h21] at hhd
    by_cases cN : N = 32
    · have epn : pn_ b n N p = .inl (flt 4 p) := by unfold pn_; rw [e1]; exact if_pos cN
      refine Or.inl ⟨flt 4 p, ro_set m 207 16 (flt 4 p), epn, ?_, RF.rfl'.set (Or.inr (Or.inl rfl)) _, by rw [ro_set_same, pk_us]⟩
      rw [hhd, cN, if_pos (show nI 32 = 32 from rfl), bad 4 p m h]
    · obtain ⟨m7, e7⟩ : ∃ m7, m7 = ro_set m 207 14 (m 207 14 + 1) := ⟨_, rfl⟩
      have r7 : RN m m7 := by rw [e7]; exact RN.rfl'.set (Or.inl rfl) _
      have h7 : m7 207 14 = nI (p + 1) := by rw [e7, ro_set_same, pk_us, h, nI_1]
      rw [if_neg (show ¬ nI N = 32 from fun z => cN ((nI_eq (b := 32) (by omega) (by decide)).mp z)), ro_lt, ← e7] at hhd
      have hpp := pp_le (b := b) (n := n) (p := p + 1)
      rcases rt_readsPitch (r7.rf.rt hT) h7 (by omega) with ⟨d0, M', x1, x2, x3⟩ | ⟨⟨d, d0⟩, d1, M', x1, x2, x3⟩ | ⟨⟨d, d0⟩, d1, M', x1, x2, x3, x4⟩
      · have epn : pn_ b n N p = .inl (flt 1 (p + 1)) := by
          unfold pn_; rw [e1]
          show (if N = 32 then _ else _) = _
          rw [if_neg cN, d0]
        rw [x1, Option.bind_some, if_pos rfl] at hhd
        exact Or.inl ⟨_, M', epn, hhd, (r7.trans x2).rf, x3⟩
      · have epn : pn_ b n N p = .inl (flt 3 (p + 1)) := by
          unfold pn_; rw [e1]
          show (if N = 32 then _ else _) = _
          rw [if_neg cN, d0]
          exact if_pos d1
        rw [x1, Option.bind_some, if_pos rfl] at hhd
        exact Or.inl ⟨_, M', epn, hhd, (r7.trans x2).rf, x3⟩
      · have epn0 : pn_ b n N p = if ¬ ((pp_ b n (p + 1)).2 < n ∧ b (pp_ b n (p + 1)).2 = 120) then .inl (flt 1 (pp_ b n (p + 1)).2) else match dg_ b n ((pp_ b n (p + 1)).2 + 1) with
            | none => .inl (flt 1 ((pp_ b n (p + 1)).2 + 1))
            | some l => if l = 0 then .inl (flt 1 ((pp_ b n (p + 1)).2 + 1)) else .inr (v, (pp_ b n (p + 1)).1, l, (pp_ b n (p + 1)).2 + 2) := by
          unfold pn_; rw [e1]
          show (if N = 32 then _ else _) = _
          rw [if_neg cN, d0]
          exact if_neg d1
        rw [x1, Option.bind_some, if_neg rt_10] at hhd
        have r8 := r7.trans x2
        generalize pp_ b n (p + 1) = P at *
        obtain ⟨pt, q⟩ := P
        dsimp only at *
        have hT8 := r8.rf.rt hT
        rcases rt_takes (v := 120) hT8 x4 (by omega) (by decide) with ⟨c3, y1⟩ | ⟨c3, y1⟩
        · have y1 : fn_X12_takes 120 M' = some (1, ro_set M' 207 14 (nI (q + 1))) := y1
          rw [if_neg (fun h => h c3)] at epn0
          obtain ⟨Y, eY⟩ : ∃ Y, Y = ro_set M' 207 14 (nI (q + 1)) := ⟨_, rfl⟩
          have rY : RN m Y := by rw [eY]; exact r8.set (Or.inl rfl) _
          have hY : Y 207 14 = nI (q + 1) := by rw [eY, ro_set_same, pk_us]
          have xY : Y 207 17 = nI pt := by rw [eY, ro_set_same, pk_un (by decide)]; exact x3
          have hTY := rY.rf.rt hT
          rw [y1, Option.bind_some, if_neg rt_10, ← eY, rt_isDigit hTY hY (by omega), Option.bind_some] at hhd
          have e86 : fj_X12_readsNote_86 Y = some (0, ro_set Y 207 16 (flt 1 (q + 1))) := bad 1 (q + 1) Y hY
          have rF : RF m (ro_set Y 207 16 (flt 1 (q + 1))) := (rY.set (Or.inr (Or.inl rfl)) _).rf
          have zF : ro_set Y 207 16 (flt 1 (q + 1)) 207 16 = flt 1 (q + 1) := by rw [ro_set_same, pk_us]
          cases e3 : dg_ b n (q + 1) with
          | none =>
            rw [e3] at epn0 hhd
            exact Or.inl ⟨flt 1 (q + 1), _, epn0, hhd.trans ((if_pos rfl).trans e86), rF, zF⟩
          | some l =>
            rw [e3] at epn0 hhd
            obtain ⟨l1, l2, l3⟩ := dg_lt e3
            have hhd := hhd.trans (if_neg rt_10)
            have hch : ch_ b n (q + 1) = nI (48 + l) := by unfold ch_; rw [if_pos l2, l3]
            rw [rt_here hTY hY (by omega), Option.bind_some, hch] at hhd
            by_cases c4 : l = 0
            · rw [if_pos (show nI (48 + l) = 48 by rw [c4]; rfl), e86] at hhd
              exact Or.inl ⟨flt 1 (q + 1), _, epn0.trans (if_pos c4), hhd, rF, zF⟩
            · rw [if_neg (show ¬ nI (48 + l) = 48 from fun z => by have := (nI_eq (a := 48 + l) (b := 48) (by omega) (by decide)).mp z; omega)] at hhd
              refine Or.inr ⟨v, pt, l, q + 2, ?_⟩
              have hN32 : N < 32 := by omega
              have y21 : Y 207 21 = nI N := by rw [rY.2 21 (by decide) (by decide) (by decide)]; exact h21
              have y22 : Y 207 22 = nI B := by rw [rY.2 22 (by decide) (by decide) (by decide)]; exact h22
              have y23 : Y 207 23 = nI A := by rw [rY.2 23 (by decide) (by decide) (by decide)]; exact h23
              obtain ⟨A1, a1⟩ : ∃ A1, A1 = ro_set Y 223 N (nI v) := ⟨_, rfl⟩
              have n1 : ∀ o, ¬ o = 223 → A1 o = Y o := fun o h => by rw [a1, ro_set_ne _ _ _ h]
              obtain ⟨A2, a2⟩ : ∃ A2, A2 = ro_set A1 224 N (nI pt) := ⟨_, rfl⟩
              have n2 : ∀ o, ¬ o = 224 → A2 o = A1 o := fun o h => by rw [a2, ro_set_ne _ _ _ h]
              obtain ⟨A3, a3⟩ : ∃ A3, A3 = ro_set A2 225 N (nI l) := ⟨_, rfl⟩
              have n3 : ∀ o, ¬ o = 225 → A3 o = A2 o := fun o h => by rw [a3, ro_set_ne _ _ _ h]
              obtain ⟨A4, a4⟩ : ∃ A4, A4 = ro_set A3 226 N (nI (B - 1)) := ⟨_, rfl⟩
              have n4 : ∀ o, ¬ o = 226 → A4 o = A3 o := fun o h => by rw [a4, ro_set_ne _ _ _ h]
              obtain ⟨A5, a5⟩ : ∃ A5, A5 = ro_set A4 227 N (nI (A - 1)) := ⟨_, rfl⟩
              have n5 : ∀ o, ¬ o = 227 → A5 o = A4 o := fun o h => by rw [a5, ro_set_ne _ _ _ h]
              have s1 : A1 207 = Y 207 := n1 207 (by decide)
              have s2 : A2 207 = Y 207 := by rw [n2 207 (by decide), s1]
              have s3 : A3 207 = Y 207 := by rw [n3 207 (by decide), s2]
              have s4 : A4 207 = Y 207 := by rw [n4 207 (by decide), s3]
              have s5 : A5 207 = Y 207 := by rw [n5 207 (by decide), s4]
              have hT2 : RT b n A2 := by
                refine ⟨by rw [s2]; exact hTY.1, hn, fun i hi => by rw [n2 217 (by decide), n1 217 (by decide)]; exact hTY.2.2 i hi⟩
              have tailE : (if ro_in (Y 207 21) 32 then (ro_lt (ro_set Y 223 (Y 207 21).toNatClampNeg (nI v)) fun m25 => if ro_in (m25 207 21) 32 then (ro_lt (ro_set m25 224 (m25 207 21).toNatClampNeg (m25 207 17)) fun m28 => (fn_X12_here m28).bind fun q30 => if ro_in (m28 207 21) 32 then (ro_lt (ro_set m28 225 (m28 207 21).toNatClampNeg (q30 - 48)) fun m33 => if ro_in (m33 207 21) 32 then (ro_lt (ro_set m33 226 (m33 207 21).toNatClampNeg ((m33 207 22) - 1)) fun m36 => if ro_in (m36 207 21) 32 then (ro_lt (ro_set m36 227 (m36 207 21).toNatClampNeg ((m36 207 23) - 1)) fun m39 => ro_lt (ro_set m39 207 21 ((m39 207 21) + 1)) fun m41 => ro_lt (ro_set m41 207 14 ((m41 207 14) + 1)) fun m43 => some ((1 : Int32), m43)) else none) else none) else none) else none) else none) = some (1, ro_set (ro_set A5 207 21 (nI (N + 1))) 207 14 (nI (q + 2))) := by
                rw [y21, if_pos (rt_in hN32 (by decide)), nI_clamp (show N < 2 ^ 31 by omega), ro_lt, ← a1, s1, y21, if_pos (rt_in hN32 (by decide)), nI_clamp (show N < 2 ^ 31 by omega), xY, ro_lt, ← a2, rt_here hT2 (show A2 207 14 = nI (q + 1) by rw [s2]; exact hY) (by omega), Option.bind_some, hch, show nI (48 + l) - 48 = nI l by rw [show nI (48 + l) - 48 = nI (48 + l - 48) from pk_sub (b := 48) (by omega), Nat.add_sub_cancel_left], s2, y21, if_pos (rt_in hN32 (by decide)), nI_clamp (show N < 2 ^ 31 by omega), ro_lt, ← a3, s3, y21, y22, if_pos (rt_in hN32 (by decide)), nI_clamp (show N < 2 ^ 31 by omega), show nI B - 1 = nI (B - 1) from pk_sub (b := 1) hB, ro_lt, ← a4, s4, y21, y23, if_pos (rt_in hN32 (by decide)), nI_clamp (show N < 2 ^ 31 by omega), show nI A - 1 = nI (A - 1) from pk_sub (b := 1) hA, ro_lt, ← a5, s5, y21, nI_1, ro_lt, ro_set_same, pk_un (show ¬ 14 = 21 by decide), s5, hY, nI_1, ro_lt]
              refine ⟨ro_set (ro_set A5 207 21 (nI (N + 1))) 207 14 (nI (q + 2)), epn0.trans (if_neg c4), hhd.trans tailE, ⟨fun o h1 h2 => ?_, fun k k1 k2 k3 k4 => ?_⟩, ?_, ?_, ?_, ?_, fun j j1 j5 => ?_⟩
              · rw [ro_set_ne _ _ _ h1, ro_set_ne _ _ _ h1, n5 o (by omega), n4 o (by omega), n3 o (by omega), n2 o (by omega), n1 o (by omega)]
                exact rY.1 o h1
              · rw [ro_set_same, pk_un k1, ro_set_same, pk_un (by omega), s5]
                exact rY.2 k k1 k2 k3
              · rw [ro_set_same, pk_us]
              · rw [ro_set_same, pk_un (by decide), ro_set_same, pk_us]
              · rw [ro_set_same, pk_un (by decide), ro_set_same, pk_un (by decide), s5, y22, h22]
              · rw [ro_set_same, pk_un (by decide), ro_set_same, pk_un (by decide), s5, y23, h23]
              · rw [ro_set_ne _ _ _ (by omega), ro_set_ne _ _ _ (by omega)]
                have hj : j = 1 ∨ j = 2 ∨ j = 3 ∨ j = 4 ∨ j = 5 := by omega
                rcases hj with rfl | rfl | rfl | rfl | rfl
                · show A5 223 = _
                  rw [n5 _ (by decide), n4 _ (by decide), n3 _ (by decide), n2 _ (by decide), a1, ro_set_same, rY.1 _ (by decide)]; rfl
                · show A5 224 = _
                  rw [n5 _ (by decide), n4 _ (by decide), n3 _ (by decide), a2, ro_set_same, n1 _ (by decide), rY.1 _ (by decide)]; rfl
                · show A5 225 = _
                  rw [n5 _ (by decide), n4 _ (by decide), a3, ro_set_same, n2 _ (by decide), n1 _ (by decide), rY.1 _ (by decide)]; rfl
                · show A5 226 = _
                  rw [n5 _ (by decide), a4, ro_set_same, n3 _ (by decide), n2 _ (by decide), n1 _ (by decide), rY.1 _ (by decide)]; rfl
                · show A5 227 = _
                  rw [a5, ro_set_same, n4 _ (by decide), n3 _ (by decide), n2 _ (by decide), n1 _ (by decide), rY.1 _ (by decide)]; rfl
        · have y1 : fn_X12_takes 120 M' = some (0, ro_set M' 207 16 (flt 1 q)) := y1
          rw [y1, Option.bind_some, if_pos rfl] at hhd
          exact Or.inl ⟨flt 1 q, ro_set M' 207 16 (flt 1 q), epn0.trans (if_pos c3), hhd, (r8.set (Or.inr (Or.inl rfl)) _).rf, by rw [ro_set_same, pk_us]⟩
end
