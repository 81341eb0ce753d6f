-- ===== the reference's law: where it stands, what it has noted, what waits =====
def StW (f : Nat → Int32) : List Nat → Prop
  | [] => True
  | x :: W => f W.length = nI x ∧ StW f W
theorem StW_cg {f g : Nat → Int32} : ∀ {W : List Nat}, (∀ i, i < W.length → g i = f i) → StW f W → StW g W := by
  intro W
  induction W with
  | nil => intro _ _; trivial
  | cons x W ih =>
    intro h hW
    exact ⟨by rw [h W.length (by rw [List.length_cons]; omega)]; exact hW.1, ih (fun i hi => h i (by rw [List.length_cons]; omega)) hW.2⟩
def RFr (m M : ro_Mem) : Prop := (∀ o, ¬ o = 207 → ¬ o = 228 → ¬ o = 229 → M o = m o) ∧ ∀ k, ¬ k = 14 → ¬ k = 16 → ¬ k = 17 → ¬ (34 ≤ k ∧ k ≤ 36) → M 207 k = m 207 k
theorem RFr.trans {a b c : ro_Mem} (h : RFr a b) (g : RFr b c) : RFr a c := ⟨fun o h1 h2 h3 => (g.1 o h1 h2 h3).trans (h.1 o h1 h2 h3), fun k h1 h2 h3 h4 => (g.2 k h1 h2 h3 h4).trans (h.2 k h1 h2 h3 h4)⟩
theorem RFr.set {m M : ro_Mem} (h : RFr m M) {k : Nat} (hk : k = 14 ∨ k = 16 ∨ k = 17 ∨ (34 ≤ k ∧ k ≤ 36)) (v : Int32) : RFr m (ro_set M 207 k v) := ⟨fun o ho h2 h3 => by rw [ro_set_ne _ _ _ ho]; exact h.1 o ho h2 h3, fun j h1 h2 h3 h4 => by rw [ro_set_same, pk_un (by omega)]; exact h.2 j h1 h2 h3 h4⟩
theorem RFr.arr {m M : ro_Mem} (h : RFr m M) {o : Nat} (ho : o = 228 ∨ o = 229) (k : Nat) (v : Int32) : RFr m (ro_set M o k v) := ⟨fun o' h1 h2 h3 => by rw [ro_set_ne _ _ _ (by omega)]; exact h.1 o' h1 h2 h3, fun j h1 h2 h3 h4 => by rw [ro_set_ne _ _ _ (by omega)]; exact h.2 j h1 h2 h3 h4⟩
theorem RFr.rt {b : Nat → Nat} {n : Nat} {m M : ro_Mem} (h : RFr m M) (hT : RT b n m) : RT b n M := by
  obtain ⟨h1, h2, h3⟩ := hT
  exact ⟨by rw [h.2 15 (by decide) (by decide) (by decide) (by omega)]; exact h1, h2, fun i hi => by rw [h.1 217 (by decide) (by decide) (by decide)]; exact h3 i hi⟩
def cw_ (w v : Nat) : Nat := 1048576 * iv_mop w + v
/-- memory M holds s, with W waiting (the latest first) and d open -/
def RW (m : ro_Mem) (s : Sx) (W : List Nat) (d : Nat) (M : ro_Mem) : Prop := RFr m M ∧ M 207 14 = nI s.p ∧ M 207 35 = nI s.c ∧ M 207 36 = nI W.length ∧ M 207 34 = nI d ∧ (∀ k, k < s.c → M 228 k = nI (cw_ (s.op k) (s.ar k))) ∧ StW (M 229) W
def RX (m : ro_Mem) (e : Int32) (M : ro_Mem) : Prop := RFr m M ∧ M 207 16 = e
section
variable {b : Nat → Nat} {n : Nat} {m M : ro_Mem} {s : Sx} {W : List Nat} {d : Nat}
theorem rt_notesM {w v : Nat} (h : RW m s W d M) (hc : s.c < 220) : ∃ M', fn_X12_notes (nI (iv_mop w)) (nI v) M = some M' ∧ RW m (s.emit w v) W d M' := by
  obtain ⟨h1, h2, h3, h4, h5, h6, h7⟩ := h
  refine ⟨ro_set (ro_set M 228 s.c (nI (cw_ w v))) 207 35 (nI (s.c + 1)), ?_, (h1.arr (Or.inl rfl) _ _).set (Or.inr (Or.inr (Or.inr (by omega)))) _, ?_, by rw [ro_set_same, pk_us]; rfl, ?_, ?_, fun k hk => ?_, ?_⟩
  · unfold fn_X12_notes
    rw [h3, if_pos (rt_in hc (by decide)), nI_clamp (show s.c < 2 ^ 31 by omega), show (1048576 : Int32) * nI (iv_mop w) + nI v = nI (cw_ w v) by show nI 1048576 * nI (iv_mop w) + nI v = _; rw [pk_mul, nI_add]; rfl, ro_lt, ro_set_ne _ _ _ (show ¬ 207 = 228 by decide), h3, nI_1, ro_lt]
  · rw [ro_set_same, pk_un (by decide), ro_set_ne _ _ _ (by decide)]; exact h2
  · rw [ro_set_same, pk_un (by decide), ro_set_ne _ _ _ (by decide)]; exact h4
  · rw [ro_set_same, pk_un (by decide), ro_set_ne _ _ _ (by decide)]; exact h5
  · have hk : k < s.c + 1 := hk
    rw [ro_set_ne _ _ _ (by decide), ro_set_same]
    show _ = nI (cw_ (updN s.op s.c w k) (updN s.ar s.c v k))
    by_cases c : k = s.c
    · rw [c, pk_us, updN_s, updN_s]
    · rw [pk_un c, updN_n c, updN_n c]; exact h6 k (by omega)
  · rw [ro_set_ne _ _ _ (by decide), ro_set_ne _ _ _ (by decide)]; exact h7
theorem rt_top0 (h : RW m s [] d M) : fn_X12_waitTop M = some (-1) := by
  unfold fn_X12_waitTop
  rw [h.2.2.2.1, if_pos (show nI ([] : List Nat).length = 0 from rfl)]
theorem rt_top {x : Nat} (h : RW m s (x :: W) d M) (hW : W.length < 220) (hx : x < 2 ^ 31) : fn_X12_waitTop M = some (nI (x / 1048576)) := by
  unfold fn_X12_waitTop
  rw [h.2.2.2.1, List.length_cons, if_neg (nI_ne0 (by omega) (by omega)), show nI (W.length + 1) - 1 = nI W.length from by rw [show nI (W.length + 1) - 1 = nI (W.length + 1 - 1) from pk_sub (b := 1) (by omega), Nat.add_sub_cancel], if_pos (rt_in hW (by decide)), nI_clamp (show W.length < 2 ^ 31 by omega), h.2.2.2.2.2.2.1]
  congr 1
  exact pk_div (d := 1048576) hx (by decide) (by decide)
theorem RW.pop {x : Nat} (h : RW m s (x :: W) d M) : RW m s W d (ro_set M 207 36 ((M 207 36) - 1)) := by
  obtain ⟨h1, h2, h3, h4, h5, h6, h7⟩ := h
  refine ⟨h1.set (Or.inr (Or.inr (Or.inr (by omega)))) _, ?_, ?_, ?_, ?_, fun k hk => by rw [ro_set_ne _ _ _ (by decide)]; exact h6 k hk, by rw [ro_set_ne _ _ _ (by decide)]; exact h7.2⟩
  · rw [ro_set_same, pk_un (by decide)]; exact h2
  · rw [ro_set_same, pk_un (by decide)]; exact h3
  · rw [ro_set_same, pk_us, h4, List.length_cons, show nI (W.length + 1) - 1 = nI (W.length + 1 - 1) from pk_sub (b := 1) (by omega), Nat.add_sub_cancel]
  · rw [ro_set_same, pk_un (by decide)]; exact h5
theorem RW.push {x : Nat} (h : RW m s W d M) : RW m s (x :: W) d (ro_set (ro_set M 229 W.length (nI x)) 207 36 (nI (W.length + 1))) := by
  obtain ⟨h1, h2, h3, h4, h5, h6, h7⟩ := h
  refine ⟨(h1.arr (Or.inr rfl) _ _).set (Or.inr (Or.inr (Or.inr (by omega)))) _, ?_, ?_, ?_, ?_, fun k hk => by rw [ro_set_ne _ _ _ (by decide), ro_set_ne _ _ _ (by decide)]; exact h6 k hk, ?_, ?_⟩
  · rw [ro_set_same, pk_un (by decide), ro_set_ne _ _ _ (by decide)]; exact h2
  · rw [ro_set_same, pk_un (by decide), ro_set_ne _ _ _ (by decide)]; exact h3
  · rw [ro_set_same, pk_us, List.length_cons]
  · rw [ro_set_same, pk_un (by decide), ro_set_ne _ _ _ (by decide)]; exact h5
  · rw [ro_set_ne _ _ _ (by decide), ro_set_same, pk_us]
  · rw [ro_set_ne _ _ _ (by decide), ro_set_same]
    exact StW_cg (fun i hi => pk_un (by omega)) h7
theorem RW.to {q : Nat} (h : RW m s W d M) : RW m (s.to q) W d (ro_set M 207 14 (nI q)) := by
  obtain ⟨h1, h2, h3, h4, h5, h6, h7⟩ := h
  refine ⟨h1.set (Or.inl rfl) _, by rw [ro_set_same, pk_us]; rfl, ?_, ?_, ?_, fun k hk => by rw [ro_set_ne _ _ _ (by decide)]; exact h6 k hk, by rw [ro_set_ne _ _ _ (by decide)]; exact h7⟩
  · rw [ro_set_same, pk_un (by decide)]; exact h3
  · rw [ro_set_same, pk_un (by decide)]; exact h4
  · rw [ro_set_same, pk_un (by decide)]; exact h5
theorem RW.dep {d' : Nat} (h : RW m s W d M) : RW m s W d' (ro_set M 207 34 (nI d')) := by
  obtain ⟨h1, h2, h3, h4, h5, h6, h7⟩ := h
  refine ⟨h1.set (Or.inr (Or.inr (Or.inr (by omega)))) _, ?_, ?_, ?_, by rw [ro_set_same, pk_us], fun k hk => by rw [ro_set_ne _ _ _ (by decide)]; exact h6 k hk, by rw [ro_set_ne _ _ _ (by decide)]; exact h7⟩
  · rw [ro_set_same, pk_un (by decide)]; exact h2
  · rw [ro_set_same, pk_un (by decide)]; exact h3
  · rw [ro_set_same, pk_un (by decide)]; exact h4
theorem RW.adv (h : RW m s W d M) : RW m s.adv W d (ro_set M 207 14 ((M 207 14) + 1)) := by
  rw [h.2.1, nI_1]; exact h.to
/-- what is opened -/
theorem rt_opens {k : Nat} (h : RW m s W d M) (hd : d ≤ 6) (hW : W.length < 220) : (d < 6 ∧ ∃ M', fn_X12_opens (nI k) M = some (1, M') ∧ RW m s.adv (1048576 * k :: W) (d + 1) M') ∨ (¬ d < 6 ∧ ∃ M', fn_X12_opens (nI k) M = some (0, M') ∧ RX m (flt 5 s.p) M') := by
  unfold fn_X12_opens
  rw [h.2.2.2.2.1]
  by_cases c : d < 6
  · refine Or.inl ⟨c, ?_⟩
    have h1 := ((h.dep (d' := d + 1)).push (x := 1048576 * k)).adv
    refine ⟨_, ?_, h1⟩
    have e36 : ro_set M 207 34 (nI (d + 1)) 207 36 = nI W.length := h.dep.2.2.2.1
    rw [if_neg (show ¬ nI d = 6 from fun z => by have := (nI_eq (a := d) (b := 6) (by omega) (by decide)).mp z; omega), nI_1, ro_lt, e36, if_pos (rt_in hW (by decide)), nI_clamp (show W.length < 2 ^ 31 by omega), show (1048576 : Int32) * nI k = nI (1048576 * k) from pk_mul 1048576 k, ro_lt, ro_set_ne _ _ _ (show ¬ 207 = 229 by decide), e36, nI_1, ro_lt, ro_lt]
  · refine Or.inr ⟨c, ro_set M 207 16 (flt 5 s.p), ?_, h.1.set (Or.inr (Or.inl rfl)) _, by rw [ro_set_same, pk_us]⟩
    rw [if_pos (show nI d = 6 by rw [show d = 6 by omega]; rfl), h.2.1, rt_wrong, Option.bind_some, if_pos (Or.inl rfl)]
end
