-- ===== calls =====
def ro_MV (y : MethodName) (b : ByteArray) (mL : Nat) (rt : Option FieldType) (n : Nat) : Prop :=
  Cond.instanceMethod y ∈ ro_WT ∧ Cond.selects y.cls y y ∈ ro_WT ∧ Cond.initialized y.cls ∈ ro_WT ∧ Cond.code y b mL rt ∈ ro_WT ∧ (y.cls ≠ "java/lang/invoke/MethodHandle" ∧ y.cls ≠ "java/lang/invoke/VarHandle" ∧ (parseMethodDescriptor y.desc).map (fun d => d.parameters.length) = some n) ∧ mL ≤ 31
def ro_MS (y : MethodName) (b : ByteArray) (mL : Nat) (rt : Option FieldType) (n : Nat) : Prop :=
  Cond.static y ∈ ro_WT ∧ Cond.initialized y.cls ∈ ro_WT ∧ Cond.code y b mL rt ∈ ro_WT ∧ (y.cls ≠ "java/lang/invoke/MethodHandle" ∧ y.cls ≠ "java/lang/invoke/VarHandle" ∧ (parseMethodDescriptor y.desc).map (fun d => d.parameters.length) = some n) ∧ mL ≤ 31
section CAL
variable {K : ro_K} {own : String} {cc : ByteArray} {nL h pc : Nat} {L : List (Nat × Value)} {st : List Value} {μ : ro_Mem}
theorem ro_after {H : Heap} {lo : List Loc} {ls : Array Slot} {stk : List Value} {a : Array Value} {v : Option Value} {μ' : ro_Mem} (hr : va_Run (kp K) (kl K) (ke K) (kR K) (ks K) (km K) (ka K) (kb K) (kt K) (kc K) H lo (kC K) (kS K) 0 0 (F0 (km K) pc ls stk) st (ro_Qc (kG K) (fun v' m' => v' = v ∧ m' = μ') a) (ro_A (kG K))) (hS : va_S (ro_A (kG K)) (ks K).heap H lo) (hl : lv_has ls (kn K) L) (kk : ro_X K (pc + 3) L (v.toList ++ st) μ') : W (kp K) (kl K) (ke K) (kR K) (ks K) (km K) (ka K) (kb K) (kt K) (kc K) H lo (kC K) (kS K) (kZ K) (F0 (km K) pc ls stk) := by
  intro T hT X
  obtain ⟨v1, st₀, t, T', Lc, h0, X', hL, e1, e2, ⟨⟨v2, m2, hv, ⟨hv2, hm2⟩, hPW⟩, hz, hk⟩, stp⟩ := hr T hT X
  subst hv2
  subst hm2
  cases hv
  rw [h0] at hz hk
  obtain ⟨t2, a1, b1⟩ := kk T'.heap (lo ++ Lc) ls (by rw [e1]; exact hPW.1) ⟨Nat.le_trans hS.1 (by rw [e1]; exact hz), fun q h1 h2 => by rw [e1, hk q (Nat.lt_of_lt_of_le h1 hS.1) h2]; exact hS.2.1 q h1 h2, fun q hq => by
      rcases List.mem_append.mp hq with h | h
      · exact hS.2.2 q h
      · exact hL q h⟩ hl T' rfl X'
  exact ⟨t2, stp t2 a1, b1⟩
theorem ro_fit (hK : ro_C K own cc nL h) {h' mL : Nat} (hh : h' + 1 ≤ h) (hm : mL ≤ 31) : (ro_rm h').frames + 1 ≤ (kR K).frames ∧ 8 + (mL + 11) + (ro_rm h').locals ≤ (kR K).locals := by
  have hfr := hK.2.2.2.2.2.2.2.2.2.1
  have hlo := hK.2.2.2.2.2.2.2.2.2.2.1
  simp only [ro_rm]
  omega
theorem ro_callv (hK : ro_C K own cc nL h) {idx : Nat} {y : MethodName} {b : ByteArray} {mL : Nat} {rt : Option FieldType} {n h' id c : Nat} {av : List Value} {v : Option Value} {μ' : ro_Mem} {stk : List Value} (hl : Cond.methodLink own idx y ∈ ro_WT) (hw : ro_MV y b mL rt n) (hm : ro_MX (kl K) (kG K) y b mL rt h' (.ref (ro_ad (kG K) id) :: av) μ v μ') (hs : ro_sh id = (0, c)) (hc : ∃ q, cls[c]? = some q ∧ q.1 = y.cls) (hh : h' + 1 ≤ h) (hn : av.length = n) (hst : stk = av.reverse ++ .ref (ro_ad (kG K) id) :: st) (hr : (st.map fun v => v.category).sum ≤ 8) (d : decode cc pc = .ok (.invokevirtual idx, 3)) (kk : ro_X K (pc + 3) L (v.toList ++ st) μ') : ro_X K pc L stk μ := by
  intro H lo ls hP hS hls
  obtain ⟨w1, w2, w3, w4, w5, w6⟩ := hw
  obtain ⟨q, hq, hqc⟩ := hc
  have hid := ro_sh_lt hs (by decide)
  have hrec := va_recv hK.2.2.2.2.2.1 hP hq (by rw [ro_wl_at hid, ro_ent_obj hs])
  rw [hqc] at hrec
  refine ro_after (a := (Value.ref (ro_ad (kG K) id) :: av).toArray) (va_runV (As := av) (rest := st) (b := ro_ad (kG K) id) (C := y.cls) (Ts := ro_WT) (own := own) (index := idx) ⟨hK.1, hK.2.1, hK.2.2.1, hK.2.2.2.1, hK.2.2.2.2.1⟩ hm (cwV n hK.2.2.2.2.1 (ro_good ?_) rfl rfl rfl ⟨rfl, w5⟩ (ro_fit hK hh w6)) ⟨ro_blind, hrec, fun U hU hW => ⟨rfl, ro_PW.of hK hP hS U hU hW⟩⟩ rfl hn hls.1 hst (lv_room hr) d ⟨hK.2.2.2.2.2.2.2.2.2.2.2.1, hK.2.2.2.2.2.2.2.2.2.2.2.2.1⟩) hS hls kk
  intro w hw
  simp only [wsV, ro_ws, List.cons_append, List.nil_append, List.mem_cons] at hw
  rcases hw with rfl | rfl | rfl | rfl | rfl | hw
  · exact hl
  · exact w1
  · exact w2
  · exact w3
  · exact w4
  · exact hw
theorem ro_calls (hK : ro_C K own cc nL h) {idx : Nat} {y : MethodName} {b : ByteArray} {mL : Nat} {rt : Option FieldType} {n h' : Nat} {av : List Value} {v : Option Value} {μ' : ro_Mem} {stk : List Value} (hl : Cond.methodLink own idx y ∈ ro_WT) (hw : ro_MS y b mL rt n) (hm : ro_MX (kl K) (kG K) y b mL rt h' av μ v μ') (hh : h' + 1 ≤ h) (hn : av.length = n) (hst : stk = av.reverse ++ st) (hr : (st.map fun v => v.category).sum ≤ 8) (d : decode cc pc = .ok (.invokestatic idx, 3)) (kk : ro_X K (pc + 3) L (v.toList ++ st) μ') : ro_X K pc L stk μ := by
  intro H lo ls hP hS hls
  obtain ⟨w1, w2, w3, w4, w5⟩ := hw
  refine ro_after (a := av.toArray) (va_runS (As := av) (rest := st) (Ts := ro_WT) (own := own) (index := idx) ⟨hK.1, hK.2.1, hK.2.2.1, hK.2.2.2.1, hK.2.2.2.2.1⟩ hm ⟨callB_of n hK.2.2.2.2.1 (ro_good ?_) rfl rfl rfl (hK.2.2.2.2.1 _ w2) (hK.2.2.2.2.1 _ hl) w4 (ro_fit hK hh w5), hK.2.2.2.2.1 _ w1⟩ ⟨ro_blind, fun U hU hW => ⟨rfl, ro_PW.of hK hP hS U hU hW⟩⟩ rfl hn hls.1 hst (lv_room hr) d ⟨hK.2.2.2.2.2.2.2.2.2.2.2.1, hK.2.2.2.2.2.2.2.2.2.2.2.2.1⟩) hS hls kk
  intro w hw
  simp only [ro_ws, List.mem_cons] at hw
  rcases hw with rfl | hw
  · exact w3
  · exact hw
theorem ro_callvi (hK : ro_C K own cc nL h) {idx : Nat} {y : MethodName} {b : ByteArray} {mL : Nat} {rt : Option FieldType} {n h' id c : Nat} (av : List Value) {r : Int32} {μ' : ro_Mem} {stk : List Value} (hl : Cond.methodLink own idx y ∈ ro_WT) (hw : ro_MV y b mL rt n) (hm : ro_MX (kl K) (kG K) y b mL rt h' (.ref (ro_ad (kG K) id) :: av) μ (some (.int r)) μ') (hs : ro_sh id = (0, c)) (hc : ∃ q, cls[c]? = some q ∧ q.1 = y.cls) (hh : h' + 1 ≤ h) (hn : av.length = n) (hst : stk = av.reverse ++ .ref (ro_ad (kG K) id) :: st) (hr : (st.map fun v => v.category).sum ≤ 8) (d : decode cc pc = .ok (.invokevirtual idx, 3)) (kk : ro_X K (pc + 3) L (.int r :: st) μ') : ro_X K pc L stk μ := ro_callv hK hl hw hm hs hc hh hn hst hr d kk
theorem ro_callvv (hK : ro_C K own cc nL h) {idx : Nat} {y : MethodName} {b : ByteArray} {mL : Nat} {rt : Option FieldType} {n h' id c : Nat} (av : List Value) {μ' : ro_Mem} {stk : List Value} (hl : Cond.methodLink own idx y ∈ ro_WT) (hw : ro_MV y b mL rt n) (hm : ro_MX (kl K) (kG K) y b mL rt h' (.ref (ro_ad (kG K) id) :: av) μ none μ') (hs : ro_sh id = (0, c)) (hc : ∃ q, cls[c]? = some q ∧ q.1 = y.cls) (hh : h' + 1 ≤ h) (hn : av.length = n) (hst : stk = av.reverse ++ .ref (ro_ad (kG K) id) :: st) (hr : (st.map fun v => v.category).sum ≤ 8) (d : decode cc pc = .ok (.invokevirtual idx, 3)) (kk : ro_X K (pc + 3) L st μ') : ro_X K pc L stk μ := ro_callv hK hl hw hm hs hc hh hn hst hr d kk
theorem ro_callsi (hK : ro_C K own cc nL h) {idx : Nat} {y : MethodName} {b : ByteArray} {mL : Nat} {rt : Option FieldType} {n h' : Nat} (av : List Value) {r : Int32} {μ' : ro_Mem} {stk : List Value} (hl : Cond.methodLink own idx y ∈ ro_WT) (hw : ro_MS y b mL rt n) (hm : ro_MX (kl K) (kG K) y b mL rt h' av μ (some (.int r)) μ') (hh : h' + 1 ≤ h) (hn : av.length = n) (hst : stk = av.reverse ++ st) (hr : (st.map fun v => v.category).sum ≤ 8) (d : decode cc pc = .ok (.invokestatic idx, 3)) (kk : ro_X K (pc + 3) L (.int r :: st) μ') : ro_X K pc L stk μ := ro_calls hK hl hw hm hh hn hst hr d kk
theorem ro_callsv (hK : ro_C K own cc nL h) {idx : Nat} {y : MethodName} {b : ByteArray} {mL : Nat} {rt : Option FieldType} {n h' : Nat} (av : List Value) {μ' : ro_Mem} {stk : List Value} (hl : Cond.methodLink own idx y ∈ ro_WT) (hw : ro_MS y b mL rt n) (hm : ro_MX (kl K) (kG K) y b mL rt h' av μ none μ') (hh : h' + 1 ≤ h) (hn : av.length = n) (hst : stk = av.reverse ++ st) (hr : (st.map fun v => v.category).sum ≤ 8) (d : decode cc pc = .ok (.invokestatic idx, 3)) (kk : ro_X K (pc + 3) L st μ') : ro_X K pc L stk μ := ro_calls hK hl hw hm hh hn hst hr d kk
end CAL
/-- a method's contract out of its walk -/
theorem ro_MX.of {l : Launch} {G : ro_G} {y : MethodName} {b : ByteArray} {mL : Nat} {rt : Option FieldType} {h : Nat} {av : List Value} {μ : ro_Mem} {v : Option Value} {μ' : ro_Mem} (hy : plainName y.cls = true) (hlen : (lg_sl av).length ≤ mL) (body : ∀ K : ro_K, kG K = G → kl K = l → kQ K v μ' → ro_C K y.cls b mL h → ro_R K rt → ro_X K 0 (lv_args 0 av) [] μ) : ro_MX l G y b mL rt h av μ v μ' := by
  refine Met.ofW (cc := b) (maxL := mL) (ret := rt) (ws' := ro_WT) hy rfl ?_
  intro p e s m args below meth c s₁ B hml hv
  obtain ⟨rfl, qP, qK, qs, qt, qD⟩ := hv
  have hts := atoms_spec (ws := ro_ws y b mL rt) B.pre
  have hl := lv_entry av (n := mL) hlen
  rw [lg_entry_eq]
  refine body (G, p, l, e, ro_rm h, s, m, av.toArray, below, meth, c, mL, 0, 0, MQ below (ro_Qc G (fun v' m' => v' = v ∧ m' = μ')) av.toArray s 0 0 (ro_A G), fun v' m' => v' = v ∧ m' = μ') rfl rfl ⟨rfl, rfl⟩ ⟨B.exec, B.bytes, hml, findClass_of_methodNamed B.named, fun w hw => hts w (List.mem_cons_of_mem _ hw), qK, qD, qs, qt, Nat.le_refl _, Nat.le_refl _, Nat.le_refl _, Nat.le_refl _, rfl⟩ ⟨B.returns, B.notSynchronized, rfl⟩ s.heap [] _ qP va_S.rf hl
-- ===== answers of the functions =====
theorem ro_gd {α : Type} {P : Prop} {hP : Decidable P} {x : Option α} {y : α} (h : (if P then x else none) = some y) : P ∧ x = some y := by
  by_cases hp : P
  · rw [if_pos hp] at h; exact ⟨hp, h⟩
  · rw [if_neg hp] at h; cases h
theorem ro_it {α : Type} {P : Prop} {hP : Decidable P} {x z : Option α} {y : α} (h : (if P then x else z) = some y) (hp : P) : x = some y := by
  rw [if_pos hp] at h; exact h
theorem ro_ie {α : Type} {P : Prop} {hP : Decidable P} {x z : Option α} {y : α} (h : (if P then x else z) = some y) (hp : ¬ P) : z = some y := by
  rw [if_neg hp] at h; exact h
theorem ro_bd {α β : Type} {x : Option α} {f : α → Option β} {y : β} (h : x.bind f = some y) : ∃ q, x = some q ∧ f q = some y := by
  cases x with
  | none => cases h
  | some q => exact ⟨q, rfl, h⟩
