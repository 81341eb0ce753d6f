-- ===== the words that hold everywhere: the tables' good words =====
def ro_WT : List Cond := lw_tbl.filter goodWord
theorem ro_good {ws : List Cond} (h : ∀ w ∈ ws, w ∈ ro_WT) : GoodIn ro_WT ws := fun w hw => ⟨h w hw, good_of_word (List.mem_filter.mp (h w hw)).2⟩
theorem ro_tb {w : Cond} (i : Nat) (h : tables_1[i]? = some w) (hg : goodWord w = true) : w ∈ ro_WT := List.mem_filter.mpr ⟨List.mem_append_right _ (List.mem_of_getElem? h), hg⟩
theorem ro_tp {w : Cond} (i : Nat) (h : (k2_sels lw_privs)[i]? = some w) (hg : goodWord w = true) : w ∈ ro_WT := List.mem_filter.mpr ⟨List.mem_append_left _ (List.mem_of_getElem? h), hg⟩
-- ===== memory: a number for each id and place =====
abbrev ro_Mem : Type := Nat → Nat → Int32
def ro_set (μ : ro_Mem) (o k : Nat) (v : Int32) : ro_Mem := fun o' => if o' = o then upd (μ o) k v else μ o'
def ro_arr (μ : ro_Mem) (o : Nat) (f : Nat → Int32) : ro_Mem := fun o' => if o' = o then f else μ o'
theorem ro_set_same (μ : ro_Mem) (o k : Nat) (v : Int32) : ro_set μ o k v o = upd (μ o) k v := by simp [ro_set]
theorem ro_set_ne (μ : ro_Mem) {o o' : Nat} (k : Nat) (v : Int32) (h : o' ≠ o) : ro_set μ o k v o' = μ o' := by simp [ro_set, h]
theorem ro_arr_same (μ : ro_Mem) (o : Nat) (f : Nat → Int32) : ro_arr μ o f o = f := by simp [ro_arr]
theorem ro_arr_ne (μ : ro_Mem) {o o' : Nat} (f : Nat → Int32) (h : o' ≠ o) : ro_arr μ o f o' = μ o' := by simp [ro_arr, h]
theorem ro_set_arr (μ : ro_Mem) (o k : Nat) (v : Int32) : ro_set μ o k v = ro_arr μ o (upd (μ o) k v) := rfl
-- ===== shapes =====
def ro_sh (id : Nat) : Nat × Nat := SHL.getD id (9, 0)
def ro_len (id : Nat) : Nat := (ro_sh id).2
def ro_fk (c k : Nat) : Nat × Nat := (FKL.getD c []).getD k (0, 0)
def ro_nf (c : Nat) : Nat := (FKL.getD c []).length
theorem ro_sh_lt {id t n : Nat} (h : ro_sh id = (t, n)) (hq : t < 9) : id < NID := by
  have hl : SHL.length = NID := by decide +kernel
  rcases Nat.lt_or_ge id NID with h1 | h1
  · exact h1
  · exfalso
    have h2 : SHL.getD id (9, 0) = (9, 0) := by
      rw [List.getD_eq_getElem?_getD, List.getElem?_eq_none (by omega)]
      rfl
    rw [ro_sh, h2] at h
    have h3 : 9 = t := congrArg Prod.fst h
    omega
-- ===== a run's fixed part: what is where =====
/-- tables of slots, addresses of the ids, classes of arrays, the size at the start, addresses of the strings and of their bytes -/
abbrev ro_G : Type := va_G × (Nat → Nat) × (Nat → ClassId) × Nat × (Nat → Nat) × (Nat → Nat)
abbrev ro_D (G : ro_G) : va_G := G.1
abbrev ro_ad (G : ro_G) : Nat → Nat := G.2.1
abbrev ro_cs (G : ro_G) : Nat → ClassId := G.2.2.1
abbrev ro_sz (G : ro_G) : Nat := G.2.2.2.1
abbrev ro_aK (G : ro_G) : Nat → Nat := G.2.2.2.2.1
abbrev ro_aV (G : ro_G) : Nat → Nat := G.2.2.2.2.2
def ro_A (G : ro_G) : Nat → Prop := fun q => ro_sz G ≤ q
def ro_fv (G : ro_G) (c id : Nat) (μ : ro_Mem) (k : Nat) : Value := match (ro_fk c k).1 with
  | 0 => .int (μ id k)
  | 1 => .ref (ro_ad G (id + (ro_fk c k).2))
  | _ => .ref (ro_ad G (μ id k).toNatClampNeg)
def ro_ent (G : ro_G) (μ : ro_Mem) (id : Nat) : va_E := match (ro_sh id).1 with
  | 0 => .inr ((ro_sh id).2, (List.range (ro_nf (ro_sh id).2)).map (ro_fv G (ro_sh id).2 id μ))
  | 1 => .inl (ro_cs G 1, (ro_sh id).2, .inl (μ id))
  | 2 => .inl (ro_cs G 2, (ro_sh id).2, .inl (μ id))
  | 3 => .inl (ro_cs G 3, (ro_sh id).2, .inl (μ id))
  | _ => .inl (ro_cs G 4, (ro_sh id).2, .inr (.inr (.inr (.inr (fun j => some (ro_ad G (id + 2 + 3 * j)))))))
def ro_wl (G : ro_G) (μ : ro_Mem) : va_W := (List.range NID).map (fun id => (ro_ad G id, ro_ent G μ id))
theorem ro_wl_at {G : ro_G} {μ : ro_Mem} {id : Nat} (h : id < NID) : (ro_wl G μ)[id]? = some (ro_ad G id, ro_ent G μ id) := by
  simp [ro_wl, h]
theorem ro_ent_congr {G : ro_G} {μ μ' : ro_Mem} {id : Nat} (h : μ' id = μ id) : ro_ent G μ' id = ro_ent G μ id := by
  have hf : ro_fv G (ro_sh id).2 id μ' = ro_fv G (ro_sh id).2 id μ := by
    funext k
    simp only [ro_fv, h]
  simp only [ro_ent, hf, h]
theorem ro_ent_arr {G : ro_G} {μ : ro_Mem} {id t n : Nat} (h : ro_sh id = (t, n)) (ht : t = 1 ∨ t = 2 ∨ t = 3) : ro_ent G μ id = .inl (ro_cs G t, n, .inl (μ id)) := by
  rcases ht with rfl | rfl | rfl <;> simp only [ro_ent, h]
theorem ro_ent_q {G : ro_G} {μ : ro_Mem} {id n : Nat} (h : ro_sh id = (4, n)) : ro_ent G μ id = .inl (ro_cs G 4, n, .inr (.inr (.inr (.inr (fun j => some (ro_ad G (id + 2 + 3 * j))))))) := by
  simp only [ro_ent, h]
theorem ro_ent_obj {G : ro_G} {μ : ro_Mem} {id c : Nat} (h : ro_sh id = (0, c)) : ro_ent G μ id = .inr (c, (List.range (ro_nf c)).map (ro_fv G c id μ)) := by
  simp only [ro_ent, h]
theorem ro_wl_put {G : ro_G} {μ μ' : ro_Mem} {id : Nat} (ho : ∀ o, o ≠ id → μ' o = μ o) (e : va_E) (he : ro_ent G μ' id = e) : (ro_wl G μ).set id (ro_ad G id, e) = ro_wl G μ' := by
  apply List.ext_getElem?
  intro j
  by_cases hj : j < NID
  · by_cases hji : j = id
    · subst hji
      rw [ro_wl_at hj, List.getElem?_set]
      simp [ro_wl, hj, he]
    · rw [List.getElem?_set_ne (fun q => hji q.symm), ro_wl_at hj, ro_wl_at hj, ro_ent_congr (ho j hji)]
  · rw [List.getElem?_eq_none (by simp [ro_wl]; omega), List.getElem?_eq_none (by simp [ro_wl]; omega)]
theorem ro_wl_arr {G : ro_G} {μ : ro_Mem} {id t n : Nat} (h : ro_sh id = (t, n)) (ht : t = 1 ∨ t = 2 ∨ t = 3) (f : Nat → Int32) : (ro_wl G μ).set id (ro_ad G id, .inl (ro_cs G t, n, .inl f)) = ro_wl G (ro_arr μ id f) :=
  ro_wl_put (fun _ ho => ro_arr_ne μ f ho) _ (by rw [ro_ent_arr h ht, ro_arr_same])
theorem ro_fs_set {G : ro_G} {μ μ' : ro_Mem} {id c k : Nat} {v : Value} (hv : ro_fv G c id μ' k = v) (ho : ∀ j, j ≠ k → μ' id j = μ id j) : ((List.range (ro_nf c)).map (ro_fv G c id μ)).set k v = (List.range (ro_nf c)).map (ro_fv G c id μ') := by
  apply List.ext_getElem?
  intro j
  by_cases hj : j < ro_nf c
  · by_cases hjk : j = k
    · subst hjk
      rw [List.getElem?_set]
      simp [hj, hv]
    · rw [List.getElem?_set_ne (fun q => hjk q.symm)]
      simp only [List.getElem?_map, List.getElem?_range hj, Option.map_some, ro_fv, ho j hjk]
  · rw [List.getElem?_eq_none (by simp; omega), List.getElem?_eq_none (by simp; omega)]
theorem ro_wl_int {G : ro_G} {μ : ro_Mem} {id c k : Nat} (h : ro_sh id = (0, c)) (hk : (ro_fk c k).1 = 0) (v : Int32) : (ro_wl G μ).set id (ro_ad G id, .inr (c, ((List.range (ro_nf c)).map (ro_fv G c id μ)).set k (.int v))) = ro_wl G (ro_set μ id k v) := by
  refine ro_wl_put (fun _ ho => ro_set_ne μ k v ho) _ ?_
  rw [ro_ent_obj h, ro_fs_set (μ' := ro_set μ id k v) (by simp [ro_fv, hk, ro_set_same, upd]) (fun j hj => by simp [ro_set_same, upd, hj])]
theorem ro_wl_ref {G : ro_G} {μ : ro_Mem} {id c k r : Nat} (h : ro_sh id = (0, c)) (hk : (ro_fk c k).1 = 2) (hr : r < 2 ^ 31) : (ro_wl G μ).set id (ro_ad G id, .inr (c, ((List.range (ro_nf c)).map (ro_fv G c id μ)).set k (.ref (ro_ad G r)))) = ro_wl G (ro_set μ id k (nI r)) := by
  refine ro_wl_put (fun _ ho => ro_set_ne μ k _ ho) _ ?_
  rw [ro_ent_obj h, ro_fs_set (μ' := ro_set μ id k (nI r)) (by simp [ro_fv, hk, ro_set_same, upd, nI_clamp hr]) (fun j hj => by simp [ro_set_same, upd, hj])]
-- ===== what a state holds =====
abbrev ro_tys (G : ro_G) : List (ClassId × FieldType) := [(ro_cs G 1, .int), (ro_cs G 2, .boolean), (ro_cs G 3, .byte), (ro_cs G 4, .object "RainOpera$Weights")]
def ro_sl : List Nat := [4, 4, 8, 12]
def ro_sb : List (List Int32) := [[115, 97, 116, 98], [100, 115, 109, 113], [43, 45, 42, 47, 37, 60, 62, 61], [118, 112, 108, 105, 98, 107, 97, 114, 121, 120, 111, 119]]
def ro_ks (G : ro_G) (U : State) : Prop := vk_R "RainOpera$Score" 53 "satb" (ro_aK G 0) U ∧ vk_R "RainOpera$LawReader" 42 "dsmq" (ro_aK G 1) U ∧ vk_R "RainOpera$LawReader" 91 "+-*/%<>=" (ro_aK G 2) U ∧ vk_R "RainOpera$LawReader" 100 "vplibkaryxow" (ro_aK G 3) U ∧ vk_R "RainOpera" 197 "satb" (ro_aK G 0) U
def ro_st (G : ro_G) (U : State) (H : Heap) : Prop := vk_S 4 ro_sl ro_sb (ro_aK G) (ro_aV G) (ro_A G) U H ∧ va_Z "java/lang/String" "COMPACT_STRINGS" "Z" (.int 1) (ro_A G) U H
theorem ro_ks.warm {G : ro_G} {s U : State} (hW : s.WarmedH U.vm) (h : ro_ks G s) : ro_ks G U := ⟨h.1.warm hW, h.2.1.warm hW, h.2.2.1.warm hW, h.2.2.2.1.warm hW, h.2.2.2.2.warm hW⟩
theorem ro_ks.same {G : ro_G} {s U : State} (hv : U.vm = s.vm) (h : ro_ks G s) : ro_ks G U := ⟨h.1.same hv, h.2.1.same hv, h.2.2.1.same hv, h.2.2.2.1.same hv, h.2.2.2.2.same hv⟩
theorem ro_st.go {G : ro_G} {s U : State} {H H1 : Heap} (hv : s.vm.Alike U.vm) (h : ro_st G s H) (hq : ∀ a : Nat, a < H.size → ¬ ro_A G a → H1[a]? = H[a]?) : ro_st G U H1 := ⟨(h.1.kept hq).moved hv, (h.2.kept hq).moved hv⟩
def ro_PW (G : ro_G) (μ : ro_Mem) (U : State) : Prop := va_P (ro_D G) cls (ro_wl G μ) U.heap ∧ va_K (ro_D G) cls (ro_tys G) U ∧ ro_ks G U ∧ ro_st G U U.heap ∧ (∀ m : ro_Mem, va_D (ro_A G) (ro_wl G m))
/-- a method's end: its answer and its memory -/
def ro_Qc (G : ro_G) (Q : Option Value → ro_Mem → Prop) : Array Value → State → Outcome → State → Prop := fun _ st oc t => (∃ (v : Option Value) (μ : ro_Mem), oc = .returned v ∧ Q v μ ∧ ro_PW G μ t) ∧ va_F (ro_A G) st t
def ro_rm (h : Nat) : Room := { frames := h + 1, cells := 0, slots := 0, locals := 50 * (h + 1) }
def ro_ws (y : MethodName) (b : ByteArray) (mL : Nat) (rt : Option FieldType) : List Cond := .code y b mL rt :: ro_WT
/-- METHOD y, called with av over the memory μ: it answers v and leaves μ' -/
def ro_MX (l : Launch) (G : ro_G) (y : MethodName) (b : ByteArray) (mL : Nat) (rt : Option FieldType) (h : Nat) (av : List Value) (μ : ro_Mem) (v : Option Value) (μ' : ro_Mem) : Prop :=
  Met l y (ro_ws y b mL rt) (ro_rm h) (va_Pc av (ro_PW G μ)) (ro_Qc G (fun v' m' => v' = v ∧ m' = μ')) 0 0 (ro_A G)
-- ===== the walk's judgement =====
abbrev ro_K : Type := ro_G × Program × Launch × Env × Room × State × MethodId × Array Value × List Frame × Method × Code × Nat × Nat × Nat × (State → Prop) × (Option Value → ro_Mem → Prop)
abbrev kG (K : ro_K) : ro_G := K.1
abbrev kp (K : ro_K) : Program := K.2.1
abbrev kl (K : ro_K) : Launch := K.2.2.1
abbrev ke (K : ro_K) : Env := K.2.2.2.1
abbrev kR (K : ro_K) : Room := K.2.2.2.2.1
abbrev ks (K : ro_K) : State := K.2.2.2.2.2.1
abbrev km (K : ro_K) : MethodId := K.2.2.2.2.2.2.1
abbrev ka (K : ro_K) : Array Value := K.2.2.2.2.2.2.2.1
abbrev kb (K : ro_K) : List Frame := K.2.2.2.2.2.2.2.2.1
abbrev kt (K : ro_K) : Method := K.2.2.2.2.2.2.2.2.2.1
abbrev kc (K : ro_K) : Code := K.2.2.2.2.2.2.2.2.2.2.1
abbrev kn (K : ro_K) : Nat := K.2.2.2.2.2.2.2.2.2.2.2.1
abbrev kC (K : ro_K) : Nat := K.2.2.2.2.2.2.2.2.2.2.2.2.1
abbrev kS (K : ro_K) : Nat := K.2.2.2.2.2.2.2.2.2.2.2.2.2.1
abbrev kZ (K : ro_K) : State → Prop := K.2.2.2.2.2.2.2.2.2.2.2.2.2.2.1
abbrev kQ (K : ro_K) : Option Value → ro_Mem → Prop := K.2.2.2.2.2.2.2.2.2.2.2.2.2.2.2
/-- from this place, these locals, this stack and this memory the method comes to its end -/
def ro_X (K : ro_K) (pc : Nat) (L : List (Nat × Value)) (st : List Value) (μ : ro_Mem) : Prop :=
  ∀ (H : Heap) (lo : List Loc) (ls : Array Slot), va_P (ro_D (kG K)) cls (ro_wl (kG K) μ) H → va_S (ro_A (kG K)) (ks K).heap H lo → lv_has ls (kn K) L → W (kp K) (kl K) (ke K) (kR K) (ks K) (km K) (ka K) (kb K) (kt K) (kc K) H lo (kC K) (kS K) (kZ K) (F0 (km K) pc ls st)
/-- what holds throughout: the machine, the code, the words, the tables, the room -/
def ro_C (K : ro_K) (own : String) (cc : ByteArray) (nL h : Nat) : Prop :=
  (kp K).tables.exec = Jvm.exec ∧ (kc K).code = cc ∧ (kc K).maxLocals = kn K ∧ (ks K).vm.findClass own = some (km K).cls ∧ (∀ w ∈ ro_WT, w.before (ka K) (ks K) = true) ∧ va_K (ro_D (kG K)) cls (ro_tys (kG K)) (ks K) ∧ (∀ m : ro_Mem, va_D (ro_A (kG K)) (ro_wl (kG K) m)) ∧ ro_ks (kG K) (ks K) ∧ ro_st (kG K) (ks K) (ks K).heap ∧ h + 1 ≤ (kR K).frames ∧ 50 * (h + 1) ≤ (kR K).locals ∧ kC K ≤ (kR K).cells ∧ kS K ≤ (kR K).slots ∧ kn K = nL
/-- a method's own end -/
def ro_R (K : ro_K) (rt : Option FieldType) : Prop := (kt K).sig.returnType = rt ∧ (kt K).locks = false ∧ kZ K = MQ (kb K) (ro_Qc (kG K) (kQ K)) (ka K) (ks K) (kC K) (kS K) (ro_A (kG K))
theorem ro_blind {G : ro_G} {μ : ro_Mem} {av : List Value} : FrameBlind (va_Pc av (ro_PW G μ)) := by
  intro a U g mk hq
  obtain ⟨q0, qP, qK, qs, qt, qD⟩ := hq
  exact ⟨q0, qP, va_K.moved (u := U) (U := U.calling g mk a) (Vm.Alike.refl U.vm) qK, ro_ks.same (s := U) (U := U.calling g mk a) rfl qs, ro_st.go (s := U) (U := U.calling g mk a) (Vm.Alike.refl U.vm) qt (fun _ _ _ => rfl), qD⟩
theorem ro_PW.of {K : ro_K} {own : String} {cc : ByteArray} {nL h : Nat} (hK : ro_C K own cc nL h) {μ : ro_Mem} {H : Heap} {lo : List Loc} (hP : va_P (ro_D (kG K)) cls (ro_wl (kG K) μ) H) (hS : va_S (ro_A (kG K)) (ks K).heap H lo) (U : State) (hU : U.heap = H) (hW : (ks K).WarmedH U.vm) : ro_PW (kG K) μ U :=
  ⟨by rw [hU]; exact hP, va_K.moved hW.alike hK.2.2.2.2.2.1, hK.2.2.2.2.2.2.2.1.warm hW, by rw [hU]; exact hK.2.2.2.2.2.2.2.2.1.go hW.alike hS.2.1, hK.2.2.2.2.2.2.1⟩
