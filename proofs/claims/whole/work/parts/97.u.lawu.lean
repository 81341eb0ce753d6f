-- ===== the class reads clauses and the law =====
def FK (o0 : Nat) (m : ro_Mem) (e : Int32) (M : ro_Mem) : Prop := (∀ o, ¬ o = 60 → ¬ (o0 ≤ o ∧ o ≤ o0 + 6) → M o = m o) ∧ (∀ k, ¬ k = 2 → ¬ k = 4 → M 60 k = m 60 k) ∧ M 60 4 = e
def TabC (o0 C : Nat) (T : Nat → Nat → Nat) (M : ro_Mem) : Prop := ∀ j c, j < 4 → c < C → M (o0 + 3 + j) c = nI (T j c)
def CK (o0 : Nat) (m : ro_Mem) (s : Sx) (C : Nat) (T : Nat → Nat → Nat) (M : ro_Mem) : Prop := FK o0 m 0 M ∧ M 60 2 = nI s.p ∧ M o0 2 = nI s.c ∧ (∀ k, k < s.c → M (o0 + 1) k = nI (s.op k) ∧ M (o0 + 2) k = nI (s.ar k)) ∧ M o0 3 = nI C ∧ TabC o0 C T M
section
variable {b : Nat → Nat} {n o0 : Nat} {m M M' : ro_Mem} {s : Sx} {C : Nat} {T : Nat → Nat → Nat}
theorem FK.sp {e : Int32} (h : FK o0 m e M) (hs : Sp0 o0 m) : Sp0 o0 M := ⟨hs.1, by rw [h.1 50 (by decide) (by have := hs.1; omega)]; exact hs.2⟩
theorem FK.tp {e : Int32} (h : FK o0 m e M) (hs : Sp0 o0 m) (hT : Tp b n m) : Tp b n M := ⟨by rw [h.2.1 3 (by decide) (by decide)]; exact hT.1, hT.2.1, fun i hi => by rw [h.1 61 (by decide) (by have := hs.1; omega)]; exact hT.2.2 i hi⟩
theorem FK.trans {e e' : Int32} (h : FK o0 m e M) (g : FK o0 M e' M') : FK o0 m e' M' := ⟨fun o h1 h2 => (g.1 o h1 h2).trans (h.1 o h1 h2), fun k h1 h2 => (g.2.1 k h1 h2).trans (h.2.1 k h1 h2), g.2.2⟩
theorem FK.fe {e e' : Int32} (h : FK o0 m e M) (g : FE o0 M e' M') : FK o0 m e' M' := ⟨fun o h1 h2 => (g.1 o h1 (by omega)).trans (h.1 o h1 h2), fun k h1 h2 => (g.2.1 k h1 h2).trans (h.2.1 k h1 h2), g.2.2.2.1⟩
theorem FK.set {e : Int32} {o : Nat} (ho : o0 ≤ o ∧ o ≤ o0 + 6) (ho2 : o0 + 6 < 60) (h : FK o0 m e M) (k : Nat) (v : Int32) : FK o0 m e (ro_set M o k v) := by
  refine ⟨fun o' h1 h2 => by rw [ro_set_ne _ _ _ (by omega)]; exact h.1 o' h1 h2, fun k h1 h2 => by rw [ro_set_ne _ _ _ (by omega)]; exact h.2.1 k h1 h2, by rw [ro_set_ne _ _ _ (by omega)]; exact h.2.2⟩
theorem CK.cl (hs : Sp0 o0 m) (h : CK o0 m s C T M) (hc : s.c ≤ 200) : CL o0 M s M := ⟨⟨fun _ _ _ => rfl, fun _ _ _ => rfl, fun _ _ => rfl, h.1.2.2, s.c, hc, h.2.2.1⟩, h.2.1, h.2.2.1, h.2.2.2.1⟩
theorem CK.of {s1 : Sx} (ho : o0 + 6 < 60) (h : CK o0 m s C T M) (g : CL o0 M s1 M') : CK o0 m s1 C T M' := by
  refine ⟨h.1.fe g.1, g.2.1, g.2.2.1, g.2.2.2, by rw [g.1.2.2.1 3 (by decide)]; exact h.2.2.2.2.1, fun j c hj hc => ?_⟩
  rw [g.1.1 _ (by omega) (by omega)]
  exact h.2.2.2.2.2 j c hj hc
theorem CL.keep {s1 : Sx} {j : Nat} (ho : o0 + 6 < 60) (g : CL o0 M s1 M') (hj : j < 4) : M' (o0 + 3 + j) = M (o0 + 3 + j) := g.1.1 _ (by omega) (by omega)
/-- a table's new row does not touch what stands -/
theorem CK.tab {j : Nat} {v : Int32} (ho : o0 + 6 < 60) (hj : j < 4) (h : CK o0 m s C T M) : CK o0 m s C T (ro_set M (o0 + 3 + j) C v) := by
  obtain ⟨h1, h2, h3, h4, h5, h6⟩ := h
  refine ⟨h1.set (by omega) ho _ _, ?_, ?_, fun k hk => ?_, ?_, fun i c hi hc => ?_⟩
  · rw [ro_set_ne _ _ _ (by omega)]; exact h2
  · rw [ro_set_ne _ _ _ (by omega)]; exact h3
  · rw [ro_set_ne _ _ _ (by omega), ro_set_ne _ _ _ (by omega)]; exact h4 k hk
  · rw [ro_set_ne _ _ _ (by omega)]; exact h5
  · by_cases q : i = j
    · rw [q, ro_set_same, pk_un (by omega), ← q]; exact h6 i c hi hc
    · rw [ro_set_ne _ _ _ (by omega)]; exact h6 i c hi hc
theorem FK.rf {e : Int32} (hs : Sp0 o0 m) (h : FK o0 m e M) : ro_rf M 50 0 = o0 := by
  show (M 50 0).toNatClampNeg = o0
  rw [(h.sp hs).2, nI_clamp (by have := hs.1; omega)]
theorem Sp0.lt (hs : Sp0 o0 m) : o0 + 6 < 60 := by have := hs.1; omega
theorem rt_chain2 (hs : Sp0 o0 m) (hT : Tp b n m) : GoodF b n o0 m 2 0 (fn_X3_readChain 2 0) := (rt_X3 hs hT 194 0 (by decide)).2.2.1 (by decide)
theorem rt_chain0 (hs : Sp0 o0 m) (hT : Tp b n m) : GoodF b n o0 m 0 1 (fn_X3_readChain 0 1) := (rt_X3 hs hT 194 1 (by decide)).2.2.2.2.2.2.1 (by decide)
theorem rt_chainE {v2 v3 e : Int32} (hs : Sp0 o0 m) (hT : Tp b n m) (h : FE o0 m e M) (he : ¬ e = 0) : fn_X3_readChain v2 v3 M = some M := (rt_X3 hs hT 194 0 (by decide)).2.2.2.2.2.2.2 (by decide) v2 v3 e M h he
end
