-- ===== constructors: cells are made one by one; the id i lies at sz + i =====
def ry_fv (G : ro_G) (c id : Nat) (μ : ro_Mem) (k : Nat) : Value := match (ro_fk c k).1 with
  | 0 => .int (μ id k)
  | _ => if μ id k = 0 then .null else .ref (ro_ad G ((μ id k).toNatClampNeg - 1))
def ry_ent (G : ro_G) (μ : ro_Mem) (id : Nat) : va_E := match (ro_sh id).1 with
  | 0 => .inr ((ro_sh id).2, (List.range (ro_nf (ro_sh id).2)).map (ry_fv G (ro_sh id).2 id μ))
  | 1 => .inl (ro_cs G 1, (ro_sh id).2, .inl (μ id))
  | 2 => .inl (ro_cs G 2, (ro_sh id).2, .inl (μ id))
  | 3 => .inl (ro_cs G 3, (ro_sh id).2, .inl (μ id))
  | _ => .inl (ro_cs G 4, (ro_sh id).2, .inr (.inr (.inr (.inr (fun j => if μ id j = 0 then none else some (ro_ad G ((μ id j).toNatClampNeg - 1)))))))
def ry_P (G : ro_G) (n : Nat) (μ : ro_Mem) (H : Heap) : Prop := ∀ id, id < n → va_at (ro_D G) cls (ro_ad G id, ry_ent G μ id) H
theorem ry_ent_congr {G : ro_G} {μ μ' : ro_Mem} {id : Nat} (h : μ' id = μ id) : ry_ent G μ' id = ry_ent G μ id := by
  have hf : ry_fv G (ro_sh id).2 id μ' = ry_fv G (ro_sh id).2 id μ := by
    funext k
    simp only [ry_fv, h]
  simp only [ry_ent, hf, h]
theorem ry_ent_arr {G : ro_G} {μ : ro_Mem} {id t n : Nat} (h : ro_sh id = (t, n)) (ht : t = 1 ∨ t = 2 ∨ t = 3) : ry_ent G μ id = .inl (ro_cs G t, n, .inl (μ id)) := by
  rcases ht with rfl | rfl | rfl <;> simp only [ry_ent, h]
theorem ry_ent_q {G : ro_G} {μ : ro_Mem} {id n : Nat} (h : ro_sh id = (4, n)) : ry_ent G μ id = .inl (ro_cs G 4, n, .inr (.inr (.inr (.inr (fun j => if μ id j = 0 then none else some (ro_ad G ((μ id j).toNatClampNeg - 1))))))) := by
  simp only [ry_ent, h]
theorem ry_ent_obj {G : ro_G} {μ : ro_Mem} {id c : Nat} (h : ro_sh id = (0, c)) : ry_ent G μ id = .inr (c, (List.range (ro_nf c)).map (ry_fv G c id μ)) := by
  simp only [ry_ent, h]
def ry_nl : List (String × Nat × MethodName) := [("RainOpera", 9, ⟨"RainOpera$Theatre", "<init>", "()V"⟩), ("RainOpera$Theatre", 20, ⟨"RainOpera$Score", "<init>", "()V"⟩), ("RainOpera$Theatre", 27, ⟨"RainOpera$Law", "<init>", "()V"⟩), ("RainOpera", 25, ⟨"RainOpera$Score", "<init>", "()V"⟩), ("RainOpera", 32, ⟨"RainOpera$LawReader", "<init>", "()V"⟩), ("RainOpera$LawReader", 11, ⟨"RainOpera$Law", "<init>", "()V"⟩), ("RainOpera", 39, ⟨"RainOpera$Tape", "<init>", "()V"⟩), ("RainOpera", 46, ⟨"RainOpera$Evening", "<init>", "()V"⟩), ("RainOpera", 57, ⟨"RainOpera$Seating", "<init>", "()V"⟩), ("RainOpera", 71, ⟨"RainOpera$SungBars", "<init>", "()V"⟩)]
def ry_N (U : State) : Prop := (∀ q ∈ ry_nl, va_Nw (.methodLinkNest q.1 q.2.1 q.2.2 "RainOpera") U) ∧ va_AO "RainOpera$Weights" U
def ry_PY (G : ro_G) (n : Nat) (μ : ro_Mem) (U : State) : Prop := ry_P G n μ U.heap ∧ U.heap.size = ro_sz G + n ∧ va_K (ro_D G) cls (ro_tys G) U ∧ ry_N U ∧ (∀ i, ro_ad G i = ro_sz G + i)
def ry_Qc (G : ro_G) (n : Nat) (μ : ro_Mem) : Array Value → State → Outcome → State → Prop := fun _ st oc t => (oc = .returned none ∧ ry_PY G n μ t) ∧ va_F (ro_A G) st t
def ry_rm (h mc ms : Nat) : Room := { frames := h + 1, cells := mc, slots := ms, locals := 50 * (h + 1) }
def ry_MY (l : Launch) (G : ro_G) (y : MethodName) (b : ByteArray) (mL h mc ms : Nat) (av : List Value) (n : Nat) (μ : ro_Mem) (n' : Nat) (μ' : ro_Mem) : Prop :=
  Met l y (ro_ws y b mL none) (ry_rm h mc ms) (va_Pc av (ry_PY G n μ)) (ry_Qc G n' μ') mc ms (ro_A G)
def ry_Y (K : ro_K) (c sl pc : Nat) (L : List (Nat × Value)) (st : List Value) (n : Nat) (μ : ro_Mem) : Prop :=
  ∀ (H : Heap) (lo : List Loc) (ls : Array Slot), ry_P (kG K) n μ H → H.size = ro_sz (kG K) + n → va_S (ro_A (kG K)) (ks K).heap H lo → lv_has ls (kn K) L → W (kp K) (kl K) (ke K) (kR K) (ks K) (km K) (ka K) (kb K) (kt K) (kc K) H lo c sl (kZ K) (F0 (km K) pc ls st)
def ry_C (K : ro_K) (own : String) (cc : ByteArray) (nL h mc ms : Nat) : Prop :=
  (kp K).tables.exec = Jvm.exec ∧ (kc K).code = cc ∧ (kc K).maxLocals = kn K ∧ (ks K).vm.findClass own = some (km K).cls ∧ (∀ w ∈ ro_WT, w.before (ka K) (ks K) = true) ∧ va_K (ro_D (kG K)) cls (ro_tys (kG K)) (ks K) ∧ (∀ i, ro_ad (kG K) i = ro_sz (kG K) + i) ∧ ry_N (ks K) ∧ ro_sz (kG K) ≤ (ks K).heap.size ∧ h + 1 ≤ (kR K).frames ∧ 50 * (h + 1) ≤ (kR K).locals ∧ mc ≤ (kR K).cells ∧ ms ≤ (kR K).slots ∧ kn K = nL
section YROW
variable {K : ro_K} {own : String} {cc : ByteArray} {nL h mc ms c sl pc : Nat} {L : List (Nat × Value)} {st : List Value} {n : Nat} {μ : ro_Mem}
theorem ry_iconst (hK : ry_C K own cc nL h mc ms) {ni : Int} {v : Int32} (d : decode cc pc = .ok (.iconst ni, 1)) (hv : Int32.ofInt ni = v) (k : ry_Y K c sl (pc + 1) L (.int v :: st) n μ) : ry_Y K c sl pc L st n μ := fun H lo ls hP hz hS hl => lv_iconst hK.1 hK.2.1 d hv (k H lo ls hP hz hS hl)
theorem ry_bipush (hK : ry_C K own cc nL h mc ms) {ni : Int} {v : Int32} (d : decode cc pc = .ok (.bipush ni, 2)) (hv : (Int8.ofInt ni).toInt32 = v) (k : ry_Y K c sl (pc + 2) L (.int v :: st) n μ) : ry_Y K c sl pc L st n μ := fun H lo ls hP hz hS hl => lv_bipush hK.1 hK.2.1 d hv (k H lo ls hP hz hS hl)
theorem ry_sipush (hK : ry_C K own cc nL h mc ms) {ni : Int} {v : Int32} (d : decode cc pc = .ok (.sipush ni, 3)) (hv : (Int16.ofInt ni).toInt32 = v) (k : ry_Y K c sl (pc + 3) L (.int v :: st) n μ) : ry_Y K c sl pc L st n μ := fun H lo ls hP hz hS hl => lv_sipush hK.1 hK.2.1 d hv (k H lo ls hP hz hS hl)
theorem ry_iload_n (hK : ry_C K own cc nL h mc ms) {q : Fin 4} {i : Nat} {x : Int32} (j : Nat) (hj : L[j]? = some (i, .int x)) (d : decode cc pc = .ok (.iload_n q, 1)) (hq : (q : Nat) = i) (k : ry_Y K c sl (pc + 1) L (.int x :: st) n μ) : ry_Y K c sl pc L st n μ := fun H lo ls hP hz hS hl => lv_iload_n hK.1 hK.2.1 d hq (lv_at hl j hj) (k H lo ls hP hz hS hl)
theorem ry_aload_n (hK : ry_C K own cc nL h mc ms) {q : Fin 4} {i : Nat} {x : Nat} (j : Nat) (hj : L[j]? = some (i, .ref x)) (d : decode cc pc = .ok (.aload_n q, 1)) (hq : (q : Nat) = i) (k : ry_Y K c sl (pc + 1) L (.ref x :: st) n μ) : ry_Y K c sl pc L st n μ := fun H lo ls hP hz hS hl => lv_aload_n hK.1 hK.2.1 d hq (lv_at hl j hj) (k H lo ls hP hz hS hl)
theorem ry_istore_n (hK : ry_C K own cc nL h mc ms) {q : Fin 4} {i : Nat} {x : Int32} {L' : List (Nat × Value)} (d : decode cc pc = .ok (.istore_n q, 1)) (hq : (q : Nat) = i) (hi : i < nL) (hl' : (i, Value.int x) :: L.filter (fun q => !(q.1 == i) && !(q.1 + 1 == i && q.2.category == 2)) = L') (k : ry_Y K c sl (pc + 1) L' st n μ) : ry_Y K c sl pc L (.int x :: st) n μ := fun H lo ls hP hz hS hl => lv_istore_n hK.1 hK.2.1 d hq hl (by rw [hK.2.2.2.2.2.2.2.2.2.2.2.2.2]; exact hi) hl' (fun ls' hl2 => k H lo ls' hP hz hS hl2)
theorem ry_astore_n (hK : ry_C K own cc nL h mc ms) {q : Fin 4} {i : Nat} {x : Nat} {L' : List (Nat × Value)} (d : decode cc pc = .ok (.astore_n q, 1)) (hq : (q : Nat) = i) (hi : i < nL) (hl' : (i, Value.ref x) :: L.filter (fun q => !(q.1 == i) && !(q.1 + 1 == i && q.2.category == 2)) = L') (k : ry_Y K c sl (pc + 1) L' st n μ) : ry_Y K c sl pc L (.ref x :: st) n μ := fun H lo ls hP hz hS hl => lv_astore_n hK.1 hK.2.1 d hq hl (by rw [hK.2.2.2.2.2.2.2.2.2.2.2.2.2]; exact hi) hl' (fun ls' hl2 => k H lo ls' hP hz hS hl2)
theorem ry_iinc (hK : ry_C K own cc nL h mc ms) {i : Nat} {ni : Int} {x v : Int32} {L' : List (Nat × Value)} (j : Nat) (hj : L[j]? = some (i, .int x)) (d : decode cc pc = .ok (.iinc i ni, 3)) (hv : x + Int32.ofInt ni = v) (hi : i < nL) (hl' : (i, Value.int v) :: L.filter (fun q => !(q.1 == i) && !(q.1 + 1 == i && q.2.category == 2)) = L') (k : ry_Y K c sl (pc + 3) L' st n μ) : ry_Y K c sl pc L st n μ := fun H lo ls hP hz hS hl => lv_iinc hK.1 hK.2.1 d hl hj hv (by rw [hK.2.2.2.2.2.2.2.2.2.2.2.2.2]; exact hi) hl' (fun ls' hl2 => k H lo ls' hP hz hS hl2)
theorem ry_dup (hK : ry_C K own cc nL h mc ms) {va : Value} (d : decode cc pc = .ok (.dup, 1)) (hc : va.category = 1) (k : ry_Y K c sl (pc + 1) L (va :: va :: st) n μ) : ry_Y K c sl pc L (va :: st) n μ := fun H lo ls hP hz hS hl => lv_dup hK.1 hK.2.1 d hc (k H lo ls hP hz hS hl)
theorem ry_goto (hK : ry_C K own cc nL h mc ms) {off : Int} (tgt : Nat) (d : decode cc pc = .ok (.goto off, 3)) (ht : (pc : Int) + off = (tgt : Int)) (k : ry_Y K c sl tgt L st n μ) : ry_Y K c sl pc L st n μ := fun H lo ls hP hz hS hl => lv_goto hK.1 hK.2.1 d ht (k H lo ls hP hz hS hl)
theorem ry_icmp_ge (hK : ry_C K own cc nL h mc ms) {x y : Int32} {off : Int} (tgt : Nat) (d : decode cc pc = .ok (.if_icmp .ge off, 3)) (ht : (pc : Int) + off = (tgt : Int)) (k1 : y ≤ x → ry_Y K c sl tgt L st n μ) (k2 : ¬ y ≤ x → ry_Y K c sl (pc + 3) L st n μ) : ry_Y K c sl pc L (.int y :: .int x :: st) n μ := fun H lo ls hP hz hS hl => lv_icmp_ge hK.1 hK.2.1 d ht (fun q => k1 q H lo ls hP hz hS hl) (fun q => k2 q H lo ls hP hz hS hl)
theorem ry_sub {L' : List (Nat × Value)} (is : List Nat) (hs : lv_pick L is = L') (k : ry_Y K c sl pc L' st n μ) : ry_Y K c sl pc L st n μ := fun H lo ls hP hz hS hl => k H lo ls hP hz hS (lv_sub hl is hs)
theorem ry_P.new {G : ro_G} {H H1 : Heap} (had : ∀ i, ro_ad G i = ro_sz G + i) (hP : ry_P G n μ H) (hz : H.size = ro_sz G + n) (o1 : ∀ q, q < H.size → H1[q]? = H[q]?) (hn : va_at (ro_D G) cls (ro_ad G n, ry_ent G (ro_arr μ n (fun _ => 0)) n) H1) : ry_P G (n + 1) (ro_arr μ n (fun _ => 0)) H1 := by
  intro id hid
  by_cases h1 : id = n
  · subst h1
    exact hn
  · rw [ry_ent_congr (ro_arr_ne μ _ h1)]
    exact (hP id (by omega)).kept (o1 _ (by show ro_ad G id < _; rw [had]; omega))
theorem ry_P.put {G : ro_G} {H H1 : Heap} {id : Nat} {μ' : ro_Mem} (had : ∀ i, ro_ad G i = ro_sz G + i) (hP : ry_P G n μ H) (ho : ∀ o, o ≠ id → μ' o = μ o) (oq : ∀ q, q ≠ ro_ad G id → H1[q]? = H[q]?) (hn : va_at (ro_D G) cls (ro_ad G id, ry_ent G μ' id) H1) : ry_P G n μ' H1 := by
  intro j hj
  by_cases h1 : j = id
  · subst h1
    exact hn
  · rw [ry_ent_congr (ho j h1)]
    exact (hP j hj).kept (oq _ (by show ro_ad G j ≠ _; rw [had, had]; omega))
theorem ry_new (hK : ry_C K own cc nL h mc ms) {idx ci : Nat} {C : String} {T : u_T} {N : Nat} (ty : Nat → FieldType) (hs : ro_sh n = (0, ci)) (hc : cls[ci]? = some (C, T, N)) (hnf : ro_nf ci = N) (hin : ∀ w ∈ u_ws C T N, w ∈ ro_WT) (hty : ∀ k, k < N → parseFieldDescriptor (T k).2.2.1 = some (ty k)) (hd : ∀ k, k < N → defaultValue (ty k) = if (ro_fk ci k).1 = 0 then .int 0 else .null) (hcl : Cond.classLink own idx C ∈ ro_WT) (hi : Cond.instantiable C N ∈ ro_WT) (hini : Cond.initialized C ∈ ro_WT) (h1 : c + 1 ≤ mc) (h2 : sl + N ≤ ms) (d : decode cc pc = .ok (.new idx, 3)) (kk : ry_Y K (c + 1) (sl + N) (pc + 3) L (.ref (ro_ad (kG K) n) :: st) (n + 1) (ro_arr μ n (fun _ => 0))) : ry_Y K c sl pc L st n μ := by
  intro H lo ls hP hz hS hl
  have had := hK.2.2.2.2.2.2.1
  have hKn := hK.2.2.2.2.2.1.1 ci _ hc
  refine W.newcK (h := ro_sz (kG K) + n) hK.1 hK.2.1 hK.2.2.2.1 (hK.2.2.2.2.1 _ hcl) (hK.2.2.2.2.1 _ hi) (hK.2.2.2.2.1 _ hini) rfl d (Nat.le_trans h1 hK.2.2.2.2.2.2.2.2.2.2.2.1) (Nat.le_trans h2 hK.2.2.2.2.2.2.2.2.2.2.2.2.1) hKn.2.1 hz fun H1 kC hkC e1 z1 o1 => ?_
  rw [← had n] at e1 ⊢
  refine kk H1 lo ls (hP.new had hz (fun q hq => o1 q (by omega)) ?_) (by omega) ⟨Nat.le_trans hS.1 (by omega), fun x g1 g2 => (o1 x (by have := hS.1; omega)).trans (hS.2.1 x g1 g2), hS.2.2⟩ hl
  rw [ry_ent_obj hs]
  refine ⟨_, hc, (u_born ty hK.2.2.2.2.1 hin hKn hkC e1 hty).to (fun k hk => ?_)⟩
  rw [hd k hk]
  simp only [vp_V, List.getD_eq_getElem?_getD, List.getElem?_map]
  rw [List.getElem?_range (by omega)]
  simp only [Option.map_some, Option.getD_some, ry_fv, ro_arr_same]
  by_cases h0 : (ro_fk ci k).1 = 0
  · rw [if_pos h0, h0]
    rfl
  · rw [if_neg h0]
    cases hq : (ro_fk ci k).1 with
    | zero => exact absurd hq h0
    | succ q => rfl
theorem ry_newa (hK : ry_C K own cc nL h mc ms) {t len : Nat} {at0 : ArrayType} {i : Int32} (hs : ro_sh n = (t, len)) (harr : Cond.arrayClass (newarray.typeOf at0) ∈ ro_WT) (htt : (t = 1 ∧ newarray.typeOf at0 = .int) ∨ (t = 2 ∧ newarray.typeOf at0 = .boolean) ∨ (t = 3 ∧ newarray.typeOf at0 = .byte)) (hi0 : ¬ i < 0) (hi : i.toNatClampNeg = len) (hb : len ≤ 10000) (h1 : c + 1 ≤ mc) (h2 : sl + len ≤ ms) (d : decode cc pc = .ok (.newarray at0, 2)) (kk : ry_Y K (c + 1) (sl + len) (pc + 2) L (.ref (ro_ad (kG K) n) :: st) (n + 1) (ro_arr μ n (fun _ => 0))) : ry_Y K c sl pc L (.int i :: st) n μ := by
  intro H lo ls hP hz hS hl
  have had := hK.2.2.2.2.2.2.1
  have hbytes : len * componentBytes (newarray.typeOf at0) ≤ 536870912 := by
    rcases htt with ⟨-, e⟩ | ⟨-, e⟩ | ⟨-, e⟩ <;> rw [e] <;> simp only [componentBytes] <;> omega
  refine va_newaK (h := ro_sz (kG K) + n) (N := len) hK.1 hK.2.1 (hK.2.2.2.2.1 _ harr) rfl d rfl hi0 hi hbytes (Nat.le_trans h1 hK.2.2.2.2.2.2.2.2.2.2.2.1) (Nat.le_trans h2 hK.2.2.2.2.2.2.2.2.2.2.2.2.1) hz fun H1 cA e1 z1 o1 hAr hNm => ?_
  rw [← had n] at e1 ⊢
  refine kk H1 lo ls (hP.new had hz (fun q hq => o1 q (by omega)) ?_) (by omega) ⟨Nat.le_trans hS.1 (by omega), fun x g1 g2 => (o1 x (by have := hS.1; omega)).trans (hS.2.1 x g1 g2), hS.2.2⟩ hl
  rcases htt with ⟨rfl, e⟩ | ⟨rfl, e⟩ | ⟨rfl, e⟩
  · rw [e] at e1 hNm
    have hq : (ks K).vm.findClass "[I" = some (ro_cs (kG K) 1) := (hK.2.2.2.2.2.1.2 0 _ rfl).2
    have : cA = ro_cs (kG K) 1 := Option.some.inj (hNm.symm.trans hq)
    subst this
    rw [ry_ent_arr hs (Or.inl rfl), ro_arr_same]
    exact e1
  · rw [e] at e1 hNm
    have hq : (ks K).vm.findClass "[Z" = some (ro_cs (kG K) 2) := (hK.2.2.2.2.2.1.2 1 _ rfl).2
    have : cA = ro_cs (kG K) 2 := Option.some.inj (hNm.symm.trans hq)
    subst this
    rw [ry_ent_arr hs (Or.inr (Or.inl rfl)), ro_arr_same]
    exact e1
  · rw [e] at e1 hNm
    have hq : (ks K).vm.findClass "[B" = some (ro_cs (kG K) 3) := (hK.2.2.2.2.2.1.2 2 _ rfl).2
    have : cA = ro_cs (kG K) 3 := Option.some.inj (hNm.symm.trans hq)
    subst this
    rw [ry_ent_arr hs (Or.inr (Or.inr rfl)), ro_arr_same]
    exact e1
theorem ry_newq (hK : ry_C K own cc nL h mc ms) {len idx : Nat} {i : Int32} (hs : ro_sh n = (4, len)) (hcl : Cond.classLink own idx "RainOpera$Weights" ∈ ro_WT) (hi0 : ¬ i < 0) (hi : i.toNatClampNeg = len) (hb : len ≤ 10000) (h1 : c + 1 ≤ mc) (h2 : sl + len ≤ ms) (d : decode cc pc = .ok (.anewarray idx, 3)) (kk : ry_Y K (c + 1) (sl + len) (pc + 3) L (.ref (ro_ad (kG K) n) :: st) (n + 1) (ro_arr μ n (fun _ => 0))) : ry_Y K c sl pc L (.int i :: st) n μ := by
  intro H lo ls hP hz hS hl
  have had := hK.2.2.2.2.2.2.1
  subst hi
  refine W.anew hK.1 hK.2.1 hK.2.2.2.1 (hK.2.2.2.2.1 _ hcl) (va_AO.use hK.2.2.2.2.2.2.2.1.2) rfl d rfl hi0 (by omega) (Nat.le_trans h1 hK.2.2.2.2.2.2.2.2.2.2.2.1) (Nat.le_trans h2 hK.2.2.2.2.2.2.2.2.2.2.2.2.1) fun cA kA comp f1 f2 f3 f4 => ?_
  generalize hH1 : H.push ({ cls := cA, slots := Array.replicate i.toNatClampNeg .null, vm := .none } : Cell) = H1
  have z1 : H1.size = H.size + 1 := by rw [← hH1, Array.size_push]
  have e1 : H1[H.size]? = some (arrV cA i.toNatClampNeg (fun _ => .null)) := by rw [← hH1, Array.getElem?_push_size, ← arrV_new]
  have o1 : ∀ q : Nat, q < H.size → H1[q]? = H[q]? := fun q hq => by rw [← hH1, Array.getElem?_push, if_neg (Nat.ne_of_lt hq)]
  have hz2 : H.size = ro_ad (kG K) n := by rw [hz, had]
  show W _ _ _ _ _ _ _ _ _ _ _ _ _ _ _ (F0 (km K) (pc + 3) ls (.ref H.size :: st))
  rw [hz2]
  rw [hz2] at e1
  refine kk H1 lo ls (hP.new had hz o1 ?_) (by omega) ⟨Nat.le_trans hS.1 (by omega), fun x g1 g2 => (o1 x (by have := hS.1; omega)).trans (hS.2.1 x g1 g2), hS.2.2⟩ hl
  have hq : (ks K).vm.findClass ("[" ++ (FieldType.object "RainOpera$Weights").toString) = some (ro_cs (kG K) 4) := by
    obtain ⟨_, _, _, _, _, g⟩ := (hK.2.2.2.2.2.1.2 3 _ rfl).2
    exact g
  have : cA = ro_cs (kG K) 4 := Option.some.inj (f1.symm.trans hq)
  subst this
  rw [ry_ent_q hs, ro_arr_same]
  exact e1
end YROW
