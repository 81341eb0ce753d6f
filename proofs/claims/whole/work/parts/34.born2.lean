section YROW2
variable {K : ro_K} {own : String} {cc : ByteArray} {nL h mc ms c sl pc : Nat} {L : List (Nat × Value)} {st : List Value} {n : Nat} {μ : ro_Mem}
theorem ry_fs_set {G : ro_G} {μ μ' : ro_Mem} {id ci k : Nat} {v : Value} (hv : ry_fv G ci id μ' k = v) (ho : ∀ j, j ≠ k → μ' id j = μ id j) : ((List.range (ro_nf ci)).map (ry_fv G ci id μ)).set k v = (List.range (ro_nf ci)).map (ry_fv G ci id μ') := by
  apply List.ext_getElem?
  intro j
  by_cases hj : j < ro_nf ci
  · by_cases hjk : j = k
    · subst hjk
      rw [List.getElem?_set]
      simp [hj, hv]
    · rw [List.getElem?_set_ne (fun q => hjk q.symm)]
      simp only [List.getElem?_map, List.getElem?_range hj, Option.map_some, ry_fv, ho j hjk]
  · rw [List.getElem?_eq_none (by simp; omega), List.getElem?_eq_none (by simp; omega)]
/-- putfield in a constructor, final or not: v is what the place x of the memory stands for -/
theorem ry_put (hK : ry_C K own cc nL h mc ms) (hin : (kt K).name = "<init>") {idx ci k id : Nat} {ty : FieldType} {kd : Nat × Nat} {x : Int32} {v : Value} (hF : ro_FL own idx ci k ty kd) (hown : ∀ q, cls[ci]? = some q → (q.2.1 k).1 = own) (hs : ro_sh id = (0, ci)) (hid : id < n) (hv : ry_fv (kG K) ci id (ro_set μ id k x) k = v) (hn : narrow ty v = v) (hf : fits ty v = true) (d : decode cc pc = .ok (.putfield idx, 3)) (kk : ry_Y K c sl (pc + 3) L st n (ro_set μ id k x)) : ry_Y K c sl pc L (v :: .ref (ro_ad (kG K) id) :: st) n μ := by
  intro H lo ls hP hz hS hl
  obtain ⟨C, T, N, ty0, h1, h2, h3, h4, h5, h6, h7, h8, h9, h10⟩ := hF
  have had := hK.2.2.2.2.2.2.1
  have hdecl : (T k).1 = own := hown _ h1
  have hap := va_apart (own := own) hK.2.2.2.2.1 h5 ty0 h6 h7 hK.2.2.2.2.2.1 h1
  have hat := hP id hid
  rw [ry_ent_obj hs] at hat
  obtain ⟨r, g1, cell, q1, q2, q3, q4⟩ := hat
  have hr : r = (C, T, N) := Option.some.inj (g1.symm.trans h1)
  subst hr
  obtain ⟨hSl, hfc, kC, hkC, hkind⟩ := hK.2.2.2.2.2.1.1 ci _ h1
  obtain ⟨cf, kf, fi, f, hi, hsl⟩ := hSl k h3
  have hst := (u_facts hfc hkC (u_lays hK.2.2.2.2.1 h5 h3) hi).1
  have hd : parseFieldDescriptor (T k).2.2.1 = some ty := by rw [← h8]; exact h6 k h3
  have hnew : ∀ H' : Heap, H'[ro_ad (kG K) id]? = some (cell.setSlot f.slot v) → va_at (ro_D (kG K)) cls (ro_ad (kG K) id, ry_ent (kG K) (ro_set μ id k x) id) H' := by
    intro H' e1
    rw [ry_ent_obj hs, ← ry_fs_set (μ := μ) hv (fun j hj => by simp [ro_set_same, upd, hj])]
    rw [hsl] at e1
    exact ⟨_, h1, t_OB.to (V := updV (vp_V ((List.range (ro_nf ci)).map (ry_fv (kG K) ci id μ))) k v) ⟨_, e1, q2, q3, t_set q4 hap h3 v⟩ (fun j _ => vp_updV_set (by simp [h2, h3]) v j)⟩
  have hA : ro_A (kG K) (ro_ad (kG K) id) := by show ro_sz (kG K) ≤ _; rw [had]; omega
  by_cases hfin : (T k).2.2.2 = true
  · have hlay := hK.2.2.2.2.1 _ (h5 _ (u_in_lay h3))
    unfold u_lay at hlay
    rw [if_pos hfin] at hlay
    have hcf : (km K).cls = cf := by
      obtain ⟨_, _, c', _, _, _, -, -, hf', -, -, -, hown2, -⟩ := Cond.laysFinal_spec hlay
      have e1 : c' = cf := by have := hi.symm.trans hf'; simp at this; exact this.1.symm
      rw [hdecl] at hown2
      rw [← e1]; exact Option.some.inj (hK.2.2.2.1.symm.trans hown2)
    have h6' := u_fits hfc hkC hkind (Or.inr hlay) hi hd hn hf
    refine W.putFinK hK.1 hK.2.1 hK.2.2.2.1 (hK.2.2.2.2.1 _ h10) hi hst hcf hin (by rw [q2]; exact h6') q1 q3 (by rw [hsl]; exact k2_hasslot (q4 k h3)) rfl rfl d fun H' e1 e2 e3 => ?_
    exact kk H' _ ls (hP.put had (fun o ho => ro_set_ne μ k x ho) e3 (hnew H' e1)) (by omega) (hS.put e2 e3 hA) hl
  · have hlay := hK.2.2.2.2.1 _ (h5 _ (u_in_lay h3))
    unfold u_lay at hlay
    rw [if_neg hfin] at hlay
    have h6' := u_store hfc hkC hkind hlay hi hd hn hf
    refine W.putK hK.1 hK.2.1 (f := f) ⟨hK.2.2.2.1, hK.2.2.2.2.1 _ h10, ⟨_, _, _, hi⟩, hst⟩ (by rw [q2]; exact h6') q1 q3 (by rw [hsl]; exact k2_hasslot (q4 k h3)) rfl rfl d fun H' e1 e2 e3 => ?_
    exact kk H' _ ls (hP.put had (fun o ho => ro_set_ne μ k x ho) e3 (hnew H' e1)) (by omega) (hS.put e2 e3 hA) hl
theorem ry_get (hK : ry_C K own cc nL h mc ms) {idx ci k id : Nat} {ty : FieldType} {kd : Nat × Nat} {v : Value} (hF : ro_FL own idx ci k ty kd) (hs : ro_sh id = (0, ci)) (hid : id < n) (hv : ry_fv (kG K) ci id μ k = v) (d : decode cc pc = .ok (.getfield idx, 3)) (kk : ry_Y K c sl (pc + 3) L (v :: st) n μ) : ry_Y K c sl pc L (.ref (ro_ad (kG K) id) :: st) n μ := by
  intro H lo ls hP hz hS hl
  obtain ⟨C, T, N, ty0, h1, h2, h3, h4, h5, h6, h7, h8, h9, h10⟩ := hF
  have hat := hP id hid
  have hP1 : va_P (ro_D (kG K)) cls [(ro_ad (kG K) id, ry_ent (kG K) μ id)] H := by
    intro j q hq
    have hj : j < 1 := (List.getElem?_eq_some_iff.mp hq).1
    rw [show j = 0 by omega] at hq
    cases hq
    exact hat
  exact va_get (own := own) (ref := (T k).1) (Ts := ro_WT) hK.1 hK.2.1 hK.2.2.2.2.1 h5 hK.2.2.2.1 hK.2.2.2.2.2.1 hP1 0 (by rw [ry_ent_obj hs]; rfl) h1 k h3 (hK.2.2.2.2.1 _ h10) (fun _ q => q) (v := v) (by simp [h2, h3, hv]) d (kk H lo ls hP hz hS hl)
theorem ry_alen (hK : ry_C K own cc nL h mc ms) {id len : Nat} (hs : ro_sh id = (1, len)) (hid : id < n) (d : decode cc pc = .ok (.arraylength, 1)) (kk : ry_Y K c sl (pc + 1) L (.int (nI len) :: st) n μ) : ry_Y K c sl pc L (.ref (ro_ad (kG K) id) :: st) n μ := by
  intro H lo ls hP hz hS hl
  have hat := hP id hid
  rw [ry_ent_arr hs (Or.inl rfl)] at hat
  exact W.alen (n := nI len) hK.1 hK.2.1 hat ((hK.2.2.2.2.2.1.2 0 _ rfl).1 len (fun j => .int (μ id j))) (by rw [vp_cell_i, arrV_size] <;> rfl) rfl rfl d (kk H lo ls hP hz hS hl)
theorem ry_iast (hK : ry_C K own cc nL h mc ms) {id len : Nat} {i x : Int32} (hs : ro_sh id = (1, len)) (hid : id < n) (hi : ro_in i len) (d : decode cc pc = .ok (.iastore, 1)) (kk : ry_Y K c sl (pc + 1) L st n (ro_set μ id i.toNatClampNeg x)) : ry_Y K c sl pc L (.int x :: .int i :: .ref (ro_ad (kG K) id) :: st) n μ := by
  intro H lo ls hP hz hS hl
  have had := hK.2.2.2.2.2.2.1
  have hat := hP id hid
  rw [ry_ent_arr hs (Or.inl rfl)] at hat
  have hA : ro_A (kG K) (ro_ad (kG K) id) := by show ro_sz (kG K) ≤ _; rw [had]; omega
  refine W.iast hK.1 hK.2.1 hat ((hK.2.2.2.2.2.1.2 0 _ rfl).1 len (fun j => .int (μ id j))) (fun q => by cases q) (by show ¬ (i < 0 ∨ (arrV _ _ _).slots.size ≤ _); rw [arrV_size]; exact ro_in_vp hi) rfl rfl d fun H1 e z oq => ?_
  refine kk H1 _ ls (hP.put had (fun o ho => ro_set_ne μ _ x ho) oq ?_) (by omega) (hS.put z oq hA) hl
  rw [ry_ent_arr hs (Or.inl rfl), ro_set_same]
  show H1[ro_ad (kG K) id]? = some (vp_cell _ _)
  rw [e, vp_cell_i, vp_cell_i, arrV_store]
  congr 2
  funext q
  by_cases hq : q = i.toNatClampNeg
  · subst hq
    simp [updV, upd]
  · simp [updV, upd, hq]
theorem ry_aast (hK : ry_C K own cc nL h mc ms) {id len r : Nat} {i : Int32} (hs : ro_sh id = (4, len)) (hid : id < n) (hsr : ro_sh r = (0, 10)) (hr : r < n) (hi : ro_in i len) (hr2 : r + 1 < 2 ^ 31) (d : decode cc pc = .ok (.aastore, 1)) (kk : ry_Y K c sl (pc + 1) L st n (ro_set μ id i.toNatClampNeg (nI (r + 1)))) : ry_Y K c sl pc L (.ref (ro_ad (kG K) r) :: .int i :: .ref (ro_ad (kG K) id) :: st) n μ := by
  intro H lo ls hP hz hS hl
  have had := hK.2.2.2.2.2.2.1
  have hat := hP id hid
  rw [ry_ent_q hs] at hat
  have hatr := hP r hr
  rw [ry_ent_obj hsr] at hatr
  obtain ⟨r', hr', cellV, g1, g2, g3, -⟩ := hatr
  have hin := ro_in_vp hi
  have hcls := (hK.2.2.2.2.2.1.1 10 _ rfl).2
  obtain ⟨kA, comp, k1, k2, k3, -⟩ := (hK.2.2.2.2.2.1.2 3 _ rfl).2
  have hcomp : comp = (ro_D (kG K)).1 10 := Option.some.inj (k3.symm.trans hcls.1)
  subst hcomp
  obtain ⟨kC, hkC, -⟩ := hcls.2
  have hA : ro_A (kG K) (ro_ad (kG K) id) := by show ro_sz (kG K) ≤ _; rw [had]; omega
  refine W.aast hK.1 hK.2.1 hat (fun q h => by cases h) (fun h => by cases h) k1 k2 rfl hkC ⟨fun q => hin (Or.inl q), by show _ < (arrV _ _ _).slots.size; rw [arrV_size]; exact hi.2⟩ g1 (fun q h => by rw [g3] at h; cases h) (by rw [g2]; exact hkC) (by rw [g2]; exact va_assign hcls) rfl rfl d fun H1 e z oq => ?_
  refine kk H1 _ ls (hP.put had (fun o ho => ro_set_ne μ _ _ ho) oq ?_) (by omega) (hS.put z oq hA) hl
  rw [ry_ent_q hs, ro_set_same]
  show H1[ro_ad (kG K) id]? = some (vp_cell _ _)
  rw [e, vp_cell_q, vp_cell_q, arrV_store]
  congr 2
  funext q
  by_cases hq : q = i.toNatClampNeg
  · subst hq
    have hne : ¬ nI (r + 1) = 0 := nI_ne0 (by omega) hr2
    simp [updV, upd, va_rf, hne, nI_clamp hr2]
  · simp [updV, upd, hq]
theorem ry_obj (hK : ry_C K own cc nL h mc ms) {idx : Nat} {a : Nat} (hl : Cond.methodLink own idx objectInit ∈ ro_WT) (hin : Cond.instanceMethod objectInit ∈ ro_WT) (hcd : Cond.code objectInit ⟨#[0xb1]⟩ 1 none ∈ ro_WT) (hr : (st.map fun v => v.category).sum ≤ 8) (d : decode cc pc = .ok (.invokespecial idx, 3)) (kk : ry_Y K c sl (pc + 3) L st n μ) : ry_Y K c sl pc L (.ref a :: st) n μ := by
  intro H lo ls hP hz hS hls
  have hfr := hK.2.2.2.2.2.2.2.2.2.1
  have hlo := hK.2.2.2.2.2.2.2.2.2.2.1
  have hroom : 2 * (F0 (km K) pc ls (.ref a :: st)).monitorRoom + (st.map fun v => v.category).sum ≤ 8 := lv_room hr
  exact W.objInit hK.1 hK.2.1 hK.2.2.2.1 (hK.2.2.2.2.1 _ hl) (hK.2.2.2.2.1 _ hin) (hK.2.2.2.2.1 _ hcd) rfl (hls.1.trans hK.2.2.1.symm) rfl d (by omega) (by omega) (kk H lo ls hP hz hS hls)
theorem ry_max (hK : ry_C K own cc nL h mc ms) {idx : Nat} {x y v : Int32} (hl : Cond.methodLink own idx Lib.Math.max.name ∈ ro_WT) (hv : ro_mx x y = v) (h1 : c ≤ mc) (h2 : sl ≤ ms) (hr : (st.map fun v => v.category).sum ≤ 8) (d : decode cc pc = .ok (.invokestatic idx, 3)) (kk : ry_Y K c sl (pc + 3) L (.int v :: st) n μ) : ry_Y K c sl pc L (.int y :: .int x :: st) n μ := by
  intro H lo ls hP hz hS hls
  subst hv
  have hfr := hK.2.2.2.2.2.2.2.2.2.1
  have hlo := hK.2.2.2.2.2.2.2.2.2.2.1
  exact va_mmax hK.1 hK.2.1 (hK.2.2.1.trans hls.1.symm) hK.2.2.2.1 (hK.2.2.2.2.1 _ hl) (hK.2.2.2.2.1 _ kn_max.1) (hK.2.2.2.2.1 _ kn_math) (hK.2.2.2.2.1 _ kn_max.2) (by omega) (by omega) (Nat.le_trans h1 hK.2.2.2.2.2.2.2.2.2.2.2.1) (Nat.le_trans h2 hK.2.2.2.2.2.2.2.2.2.2.2.2.1) d (kk H lo ls hP hz hS hls)
theorem ry_blind {G : ro_G} {av : List Value} : FrameBlind (va_Pc av (ry_PY G n μ)) := by
  intro a U g mk hq
  obtain ⟨q0, qP, qz, qK, qN, qd⟩ := hq
  exact ⟨q0, qP, qz, va_K.moved (u := U) (U := U.calling g mk a) (Vm.Alike.refl U.vm) qK, ⟨fun q hq => va_Nw.same rfl (u := U) (U := U.calling g mk a) rfl (qN.1 q hq), va_AO.moved (u := U) (U := U.calling g mk a) (Vm.Alike.refl U.vm) qN.2⟩, qd⟩
theorem ry_PY.of (hK : ry_C K own cc nL h mc ms) {H : Heap} (hP : ry_P (kG K) n μ H) (hz : H.size = ro_sz (kG K) + n) (U : State) (hU : U.heap = H) (hW : (ks K).WarmedH U.vm) : ry_PY (kG K) n μ U :=
  ⟨by rw [hU]; exact hP, by rw [hU]; exact hz, va_K.moved hW.alike hK.2.2.2.2.2.1, ⟨fun q hq => va_Nw.warmM hW (hK.2.2.2.2.2.2.2.1.1 q hq), va_AO.moved hW.alike hK.2.2.2.2.2.2.2.1.2⟩, hK.2.2.2.2.2.2.1⟩
theorem ry_after {H : Heap} {lo : List Loc} {ls : Array Slot} {stk : List Value} {a : Array Value} {n' dc ds : Nat} {μ' : ro_Mem} (hr : va_Run (kp K) (kl K) (ke K) (kR K) (ks K) (km K) (ka K) (kb K) (kt K) (kc K) H lo c sl dc ds (F0 (km K) pc ls stk) st (ry_Qc (kG K) n' μ' a) (ro_A (kG K))) (hS : va_S (ro_A (kG K)) (ks K).heap H lo) (hl : lv_has ls (kn K) L) (kk : ry_Y K (c + dc) (sl + ds) (pc + 3) L st n' μ') : W (kp K) (kl K) (ke K) (kR K) (ks K) (km K) (ka K) (kb K) (kt K) (kc K) H lo c sl (kZ K) (F0 (km K) pc ls stk) := by
  intro T hT X
  obtain ⟨v1, st₀, t, T', Lc, h0, X', hL, e1, e2, ⟨⟨hv, hPY⟩, hz, hk⟩, stp⟩ := hr T hT X
  cases hv
  rw [h0] at hz hk
  obtain ⟨t2, a1, b1⟩ := kk T'.heap (lo ++ Lc) ls (by rw [e1]; exact hPY.1) (by rw [e1]; exact hPY.2.1) ⟨Nat.le_trans hS.1 (by rw [e1]; exact hz), fun q h1 h2 => by rw [e1, hk q (Nat.lt_of_lt_of_le h1 hS.1) h2]; exact hS.2.1 q h1 h2, fun q hq => by
      rcases List.mem_append.mp hq with h | h
      · exact hS.2.2 q h
      · exact hL q h⟩ hl T' rfl X'
  exact ⟨t2, stp t2 a1, b1⟩
def ry_MW (y : MethodName) (b : ByteArray) (mL k : Nat) : Prop := Cond.initialized y.cls ∈ ro_WT ∧ Cond.code y b mL none ∈ ro_WT ∧ (y.cls ≠ "java/lang/invoke/MethodHandle" ∧ y.cls ≠ "java/lang/invoke/VarHandle" ∧ (parseMethodDescriptor y.desc).map (fun d => d.parameters.length) = some k) ∧ mL ≤ 31
theorem ry_fit (hK : ry_C K own cc nL h mc ms) {h' mL dc ds : Nat} (hh : h' + 1 ≤ h) (hm : mL ≤ 31) : (ry_rm h' dc ds).frames + 1 ≤ (kR K).frames ∧ 8 + (mL + 11) + (ry_rm h' dc ds).locals ≤ (kR K).locals := by
  have hfr := hK.2.2.2.2.2.2.2.2.2.1
  have hlo := hK.2.2.2.2.2.2.2.2.2.2.1
  simp only [ry_rm]
  omega
theorem ry_wsin {y : MethodName} {b : ByteArray} {mL : Nat} (w : Cond.code y b mL none ∈ ro_WT) : ∀ x ∈ ro_ws y b mL none, x ∈ ro_WT := by
  intro x hx
  simp only [ro_ws, List.mem_cons] at hx
  rcases hx with rfl | hx
  · exact w
  · exact hx
/-- a constructor's call -/
theorem ry_calli (hK : ry_C K own cc nL h mc ms) {idx : Nat} {y : MethodName} {b : ByteArray} {mL k h' dc ds id n' : Nat} (av : List Value) {μ' : ro_Mem} {stk : List Value} (hl : Cond.methodLink own idx y ∈ ro_WT) (hin : Cond.instanceMethod y ∈ ro_WT) (hy : y.name = "<init>") (hw : ry_MW y b mL k) (hm : ry_MY (kl K) (kG K) y b mL h' dc ds (.ref (ro_ad (kG K) id) :: av) n μ n' μ') (hh : h' + 1 ≤ h) (hn : av.length = k) (hst : stk = av.reverse ++ .ref (ro_ad (kG K) id) :: st) (hr : (st.map fun v => v.category).sum ≤ 8) (h1 : c + dc ≤ mc) (h2 : sl + ds ≤ ms) (d : decode cc pc = .ok (.invokespecial idx, 3)) (kk : ry_Y K (c + dc) (sl + ds) (pc + 3) L st n' μ') : ry_Y K c sl pc L stk n μ := by
  intro H lo ls hP hz hS hls
  obtain ⟨w1, w2, w3, w4⟩ := hw
  exact ry_after (a := (Value.ref (ro_ad (kG K) id) :: av).toArray) (va_runI (As := av) (rest := st) (b := ro_ad (kG K) id) (Ts := ro_WT) (own := own) (index := idx) ⟨hK.1, hK.2.1, hK.2.2.1, hK.2.2.2.1, hK.2.2.2.2.1⟩ hm (cwI k hK.2.2.2.2.1 (ro_good (ry_wsin w2)) rfl rfl rfl (hK.2.2.2.2.1 _ w1) (hK.2.2.2.2.1 _ hl) (hK.2.2.2.2.1 _ hin) hy w3 (ry_fit hK hh w4)) ⟨ry_blind, fun U hU hW => ⟨rfl, ry_PY.of hK hP hz U hU hW⟩⟩ rfl hn hls.1 hst (lv_room hr) d ⟨Nat.le_trans h1 hK.2.2.2.2.2.2.2.2.2.2.2.1, Nat.le_trans h2 hK.2.2.2.2.2.2.2.2.2.2.2.2.1⟩) hS hls kk
theorem ry_callin (hK : ry_C K own cc nL h mc ms) {idx : Nat} {y : MethodName} {b : ByteArray} {mL k h' dc ds id n' : Nat} (av : List Value) {μ' : ro_Mem} {stk : List Value} (hl : (own, idx, y) ∈ ry_nl) (hin : Cond.instanceMethod y ∈ ro_WT) (hy : y.name = "<init>") (hw : ry_MW y b mL k) (hm : ry_MY (kl K) (kG K) y b mL h' dc ds (.ref (ro_ad (kG K) id) :: av) n μ n' μ') (hh : h' + 1 ≤ h) (hn : av.length = k) (hst : stk = av.reverse ++ .ref (ro_ad (kG K) id) :: st) (hr : (st.map fun v => v.category).sum ≤ 8) (h1 : c + dc ≤ mc) (h2 : sl + ds ≤ ms) (d : decode cc pc = .ok (.invokespecial idx, 3)) (kk : ry_Y K (c + dc) (sl + ds) (pc + 3) L st n' μ') : ry_Y K c sl pc L stk n μ := by
  intro H lo ls hP hz hS hls
  obtain ⟨w1, w2, w3, w4⟩ := hw
  exact ry_after (a := (Value.ref (ro_ad (kG K) id) :: av).toArray) (va_runIN (As := av) (rest := st) (b := ro_ad (kG K) id) (Ts := ro_WT) (own := own) (index := idx) (host := "RainOpera") ⟨hK.1, hK.2.1, hK.2.2.1, hK.2.2.2.1, hK.2.2.2.2.1⟩ hm ⟨va_cnB k hK.2.2.2.2.1 (ro_good (ry_wsin w2)) rfl rfl rfl (hK.2.2.2.2.2.2.2.1.1 _ hl) (hK.2.2.2.2.1 _ w1) w3 (ry_fit hK hh w4), hy, hK.2.2.2.2.1 _ hin⟩ ⟨ry_blind, fun U hU hW => ⟨rfl, ry_PY.of hK hP hz U hU hW⟩⟩ rfl hn hls.1 hst (lv_room hr) d ⟨Nat.le_trans h1 hK.2.2.2.2.2.2.2.2.2.2.2.1, Nat.le_trans h2 hK.2.2.2.2.2.2.2.2.2.2.2.2.1⟩) hS hls kk
theorem ry_calls (hK : ry_C K own cc nL h mc ms) {idx : Nat} {y : MethodName} {b : ByteArray} {mL k h' dc ds n' : Nat} (av : List Value) {μ' : ro_Mem} {stk : List Value} (hl : Cond.methodLink own idx y ∈ ro_WT) (hin : Cond.static y ∈ ro_WT) (hw : ry_MW y b mL k) (hm : ry_MY (kl K) (kG K) y b mL h' dc ds av n μ n' μ') (hh : h' + 1 ≤ h) (hn : av.length = k) (hst : stk = av.reverse ++ st) (hr : (st.map fun v => v.category).sum ≤ 8) (h1 : c + dc ≤ mc) (h2 : sl + ds ≤ ms) (d : decode cc pc = .ok (.invokestatic idx, 3)) (kk : ry_Y K (c + dc) (sl + ds) (pc + 3) L st n' μ') : ry_Y K c sl pc L stk n μ := by
  intro H lo ls hP hz hS hls
  obtain ⟨w1, w2, w3, w4⟩ := hw
  exact ry_after (a := av.toArray) (va_runS (As := av) (rest := st) (Ts := ro_WT) (own := own) (index := idx) ⟨hK.1, hK.2.1, hK.2.2.1, hK.2.2.2.1, hK.2.2.2.2.1⟩ hm ⟨callB_of k hK.2.2.2.2.1 (ro_good (ry_wsin w2)) rfl rfl rfl (hK.2.2.2.2.1 _ w1) (hK.2.2.2.2.1 _ hl) w3 (ry_fit hK hh w4), hK.2.2.2.2.1 _ hin⟩ ⟨ry_blind, fun U hU hW => ⟨rfl, ry_PY.of hK hP hz U hU hW⟩⟩ rfl hn hls.1 hst (lv_room hr) d ⟨Nat.le_trans h1 hK.2.2.2.2.2.2.2.2.2.2.2.1, Nat.le_trans h2 hK.2.2.2.2.2.2.2.2.2.2.2.2.1⟩) hS hls kk
/-- a constructor's end -/
def ry_R (K : ro_K) (c sl n : Nat) (μ : ro_Mem) : Prop := (kt K).sig.returnType = none ∧ (kt K).locks = false ∧ kZ K = MQ (kb K) (ry_Qc (kG K) n μ) (ka K) (ks K) c sl (ro_A (kG K))
theorem ry_ret (hK : ry_C K own cc nL h mc ms) (hR : ry_R K c sl n μ) (d : decode cc pc = .ok (.return_, 1)) : ry_Y K c sl pc L [] n μ := by
  intro H lo ls hP hz hS hl
  rw [hR.2.2]
  exact W.vret hK.1 hK.2.1 hR.1 (fun t ht hW => ⟨⟨rfl, ry_PY.of hK hP hz t ht hW⟩, hS.F ht⟩) hS.2.2 d hR.2.1
end YROW2
theorem ry_MY.of {l : Launch} {G : ro_G} {y : MethodName} {b : ByteArray} {mL h mc ms : Nat} {av : List Value} {n n' : Nat} {μ μ' : ro_Mem} (hy : plainName y.cls = true) (hlen : (lg_sl av).length ≤ mL) (body : ∀ K : ro_K, kG K = G → kl K = l → ry_C K y.cls b mL h mc ms → ry_R K mc ms n' μ' → (kt K).name = y.name → ry_Y K 0 0 0 (lv_args 0 av) [] n μ) : ry_MY l G y b mL h mc ms av n μ n' μ' := by
  refine Met.ofW (cc := b) (maxL := mL) (ret := none) (ws' := ro_WT) hy rfl ?_
  intro p e s m args below meth c s₁ B hml hv
  obtain ⟨rfl, qP, qz, qK, qN, qd⟩ := hv
  have hts := atoms_spec (ws := ro_ws y b mL none) B.pre
  have hl := lv_entry av (n := mL) hlen
  rw [lg_entry_eq]
  refine body (G, p, l, e, ry_rm h mc ms, s, m, av.toArray, below, meth, c, mL, 0, 0, MQ below (ry_Qc G n' μ') av.toArray s mc ms (ro_A G), fun _ _ => True) rfl rfl ⟨B.exec, B.bytes, hml, findClass_of_methodNamed B.named, fun w hw => hts w (List.mem_cons_of_mem _ hw), qK, qd, qN, (by show G.2.2.2.1 ≤ s.heap.size; rw [qz]; exact Nat.le_add_right _ _), Nat.le_refl _, Nat.le_refl _, Nat.le_refl _, Nat.le_refl _, rfl⟩ ⟨B.returns, B.notSynchronized, rfl⟩ (name_of_methodNamed B.named B.method).1 s.heap [] _ qP qz va_S.rf hl
