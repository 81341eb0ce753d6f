-- ===== the five text constants and their bytes =====
section STR
variable {K : ro_K} {own : String} {cc : ByteArray} {nL h pc : Nat} {L : List (Nat × Value)} {st : List Value} {μ : ro_Mem}
def ro_sn (k : Nat) : Nat := ro_sl.getD k 0
def ro_sc (k j : Nat) : Int32 := (ro_sb.getD k []).getD j 0
theorem ro_sval (hK : ro_C K own cc nL h) {k idx : Nat} (hk : k < 4) (hl : Cond.fieldLink own idx "java/lang/String" "value" "[B" ∈ ro_WT) (d : decode cc pc = .ok (.getfield idx, 3)) (kk : ro_X K (pc + 3) L (.ref (ro_aV (kG K) k) :: st) μ) : ro_X K pc L (.ref (ro_aK (kG K) k) :: st) μ := fun H lo ls hP hS hls =>
  va_getX (o := "java/lang/String") (ref := "java/lang/String") (N := 4) (v := fun i => .ref (ro_aV (kG K) i)) hK.1 hK.2.1 (fun i hi => (hK.2.2.2.2.2.2.2.2.1.1.1 i hi).2.2.1) hk hS hK.2.2.2.1 (hK.2.2.2.2.1 _ hl) (fun _ q => q) d (kk H lo ls hP hS hls)
theorem ro_scod (hK : ro_C K own cc nL h) {k idx : Nat} (hk : k < 4) (hl : Cond.fieldLink own idx "java/lang/String" "coder" "B" ∈ ro_WT) (d : decode cc pc = .ok (.getfield idx, 3)) (kk : ro_X K (pc + 3) L (.int 0 :: st) μ) : ro_X K pc L (.ref (ro_aK (kG K) k) :: st) μ := fun H lo ls hP hS hls =>
  va_getX (o := "java/lang/String") (ref := "java/lang/String") (N := 4) (v := fun _ => .int 0) hK.1 hK.2.1 (fun i hi => (hK.2.2.2.2.2.2.2.2.1.1.1 i hi).2.1) hk hS hK.2.2.2.1 (hK.2.2.2.2.1 _ hl) (fun _ q => q) d (kk H lo ls hP hS hls)
theorem ro_comp (hK : ro_C K own cc nL h) {idx : Nat} (hl : Cond.fieldLink own idx "java/lang/String" "COMPACT_STRINGS" "Z" ∈ ro_WT) (d : decode cc pc = .ok (.getstatic idx, 3)) (kk : ro_X K (pc + 3) L (.int 1 :: st) μ) : ro_X K pc L st μ := fun H lo ls hP hS hls =>
  va_gets (C := "java/lang/String") (ref := "java/lang/String") hK.1 hK.2.1 hK.2.2.2.2.2.2.2.2.1.2 hS hK.2.2.2.1 (hK.2.2.2.2.1 _ hl) (fun _ q => q) d (kk H lo ls hP hS hls)
theorem ro_sbyt (hK : ro_C K own cc nL h) {k : Nat} {i : Int32} (hk : k < 4) (hi : ro_in i (ro_sn k)) (d : decode cc pc = .ok (.baload, 1)) (kk : ro_X K (pc + 1) L (.int (ro_sc k i.toNatClampNeg) :: st) μ) : ro_X K pc L (.int i :: .ref (ro_aV (kG K) k) :: st) μ := fun H lo ls hP hS hls =>
  va_tb hK.1 hK.2.1 (hK.2.2.2.2.2.2.2.2.1.1.1 k hk).2.2.2 hS (ro_in_vp hi) rfl d (kk H lo ls hP hS hls)
theorem ro_slen (hK : ro_C K own cc nL h) {k : Nat} (hk : k < 4) (d : decode cc pc = .ok (.arraylength, 1)) (kk : ro_X K (pc + 1) L (.int (nI (ro_sn k)) :: st) μ) : ro_X K pc L (.ref (ro_aV (kG K) k) :: st) μ := fun H lo ls hP hS hls => by
  obtain ⟨cell, h1, h2, h3, h4, h5, h6, h7⟩ := (hK.2.2.2.2.2.2.2.2.1.1.1 k hk).2.2.2.kept hS.2.1
  exact W.alen hK.1 hK.2.1 h1 h2 h5 rfl rfl d (kk H lo ls hP hS hls)
theorem ro_callst (hK : ro_C K own cc nL h) {idx : Nat} {y : MethodName} {b : ByteArray} {mL : Nat} {rt : Option FieldType} {n h' k : Nat} (av : List Value) {r : Int32} {stk : List Value} (hl : Cond.methodLink own idx y ∈ ro_WT) (hw : ro_MV y b mL rt n) (hm : ro_MX (kl K) (kG K) y b mL rt h' (.ref (ro_aK (kG K) k) :: av) μ (some (.int r)) μ) (hk : k < 4) (hc : y.cls = "java/lang/String") (hh : h' + 1 ≤ h) (hn : av.length = n) (hst : stk = av.reverse ++ .ref (ro_aK (kG K) k) :: st) (hr : (st.map fun v => v.category).sum ≤ 8) (d : decode cc pc = .ok (.invokevirtual idx, 3)) (kk : ro_X K (pc + 3) L (.int r :: st) μ) : ro_X K pc L stk μ := by
  intro H lo ls hP hS hls
  obtain ⟨w1, w2, w3, w4, w5, w6⟩ := hw
  obtain ⟨cell, g1, g2, g3, g4⟩ := (hK.2.2.2.2.2.2.2.2.1.1.1 k hk).1.kept hS.2.1
  refine ro_after (a := (Value.ref (ro_aK (kG K) k) :: av).toArray) (v := some (.int r)) (va_runV (As := av) (rest := st) (b := ro_aK (kG K) k) (C := y.cls) (Ts := ro_WT) (own := own) (index := idx) ⟨hK.1, hK.2.1, hK.2.2.1, hK.2.2.2.1, hK.2.2.2.2.1⟩ hm (cwV n hK.2.2.2.2.1 (ro_good ?_) rfl rfl rfl ⟨rfl, w5⟩ (ro_fit hK hh w6)) ⟨ro_blind, ⟨cell, g1, g2, by rw [hc]; exact g3⟩, fun U hU hW => ⟨rfl, ro_PW.of hK hP hS U hU hW⟩⟩ rfl hn hls.1 hst (lv_room hr) d ⟨hK.2.2.2.2.2.2.2.2.2.2.2.1, hK.2.2.2.2.2.2.2.2.2.2.2.2.1⟩) hS hls kk
  intro w hw
  simp only [wsV, ro_ws, List.cons_append, List.nil_append, List.mem_cons] at hw
  rcases hw with rfl | rfl | rfl | rfl | rfl | hw
  · exact hl
  · exact w1
  · exact w2
  · exact w3
  · exact w4
  · exact hw
theorem ro_bret (hK : ro_C K own cc nL h) (hR : ro_R K (some .byte)) {v : Int32} (d : decode cc pc = .ok (.ireturn, 1)) (hv : v = 0 ∨ v = 1) (hq : kQ K (some (.int v)) μ) : ro_X K pc L [.int v] μ := by
  intro H lo ls hP hS hl
  rw [hR.2.2]
  exact W.zret hK.1 hK.2.1 hR.1 (by rcases hv with rfl | rfl <;> rfl) (fun t ht hW => ⟨⟨_, μ, rfl, hq, ro_PW.of hK hP hS t ht hW⟩, hS.F ht⟩) hS.2.2 d hR.2.1
theorem ro_putz (hK : ro_C K own cc nL h) {idx c k id : Nat} {z : Nat} {v : Int32} (hF : ro_FL own idx c k .boolean (0, z)) (hs : ro_sh id = (0, c)) (hv : v = 0 ∨ v = 1) (d : decode cc pc = .ok (.putfield idx, 3)) (kk : ro_X K (pc + 3) L st (ro_set μ id k v)) : ro_X K pc L (.int v :: .ref (ro_ad (kG K) id) :: st) μ := ro_puti hK hF hs (by rcases hv with rfl | rfl <;> rfl) (by rcases hv with rfl | rfl <;> rfl) d kk
theorem ro_mv {μ' : ro_Mem} (e : μ' = μ) (k : ro_X K pc L st μ') : ro_X K pc L st μ := e ▸ k
theorem ro_iv {x x' : Int32} (e : x' = x) (k : ro_X K pc L (.int x' :: st) μ) : ro_X K pc L (.int x :: st) μ := e ▸ k
end STR
def ro_lt {α β : Type} (a : α) (f : α → Option β) : Option β := f a
theorem ro_ld {α β : Type} {a : α} {f : α → Option β} {y : β} (h : ro_lt a f = some y) : ∃ q, q = a ∧ f q = some y := ⟨a, rfl, h⟩
abbrev ro_rem (x y : Int32) : Int32 := x - x / y * y
abbrev ro_rf (μ : ro_Mem) (o k : Nat) : Nat := (μ o k).toNatClampNeg
theorem ro_inw {ws : List Cond} (ps : List Nat) (hp : ws = ps.filterMap (fun i => tables_1[i]?)) (hg : ws.all goodWord = true) : ∀ w ∈ ws, w ∈ ro_WT := by
  intro w hw
  have h1 := List.all_eq_true.mp hg w hw
  rw [hp] at hw
  obtain ⟨i, -, hi⟩ := List.mem_filterMap.mp hw
  exact ro_tb i hi h1
