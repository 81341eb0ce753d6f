/-! THE CLAIM OUT OF ONE WALK OF THE LAW'S BODY. Your part is whole_start (and what it stands on); all else here is the same for every law, but numbers. -/
def R_law : String := "RainOperaLaw"
def lw_P (b : Addr) (xs : List Int32) (args : Array Value) (s : State) : Prop := args = #[.ref b] ∧ s.IntsAt b xs ∧ xs.length ≤ 3072 ∧ (Jvm.Cond.and given_1 narrow_1).before args s = true
def lw_Q (_ : Array Value) (s : State) (o : Outcome) (t : State) : Prop := o = .returned (some (.int 1)) ∧ Framed s o t [] 600000 7302250
def lw_Z (below : List Frame) (a : Array Value) (s : State) : State → Prop := fun t => ∃ o, t.status = .running ∧ Ended t below o ∧ lw_Q a s o t
/-- the law's own end, with 1 on the stack, nothing written that was there before, its room as the claim has it -/
theorem lw_ret {p : Program} {l : Launch} {e : Env} {s : State} {m : MethodId} {below : List Frame} {meth : Method} {c : Code} {b : Nat} (hx : p.tables.exec = Jvm.exec) (hb : c.code = code) (hr : meth.sig.returnType = ret) (hlocks : meth.locks = false) {pc : Nat} {H : Heap} {ls : Array Slot} (hdg : decode code pc = .ok (.ireturn, 1)) : W p l e room_1 s m #[Value.ref b] below meth c H [] 600000 7302250 (lw_Z below #[Value.ref b] s) (F0 m pc ls [.int 1]) := by
  intro T hT X
  obtain ⟨fs, hret, hrun, hended, hW, hframe⟩ := X.leave (v := some (.int 1)) (hlocks := hlocks) (fun h => by rw [hr] at h; cases h)
  have hmeth' : T.vm.method? m = some meth := X.method'
  refine ⟨T.setFrames fs, ?_, .returned (some (.int 1)), hrun, hended, rfl, ⟨_, rfl⟩, hW, hframe⟩
  jvm_step X.here [X.here.top, hx, hb, hdg, hmeth', hr, ret, narrow_b1]
  (try refine ⟨rfl, ?_⟩); (try refine ⟨rfl, ?_⟩)
  first | (intro acts; rw [hret _ acts rfl rfl rfl]) | rw [hret _ _ rfl rfl rfl]
  exact Steps.refl _
/-- what holds at the law's entry: the machine, the code, the tables' words (any of lw_tbl by 'hts w (by decide +kernel)'), the script of L ints xs at the cell b, what the Statement gives of the start (any of its parts by flat_of_before) -/
def lw_At (p : Program) (s : State) (m : MethodId) (meth : Method) (c : Code) (b L : Nat) (xs : Nat → Int32) : Prop :=
  p.tables.exec = Jvm.exec ∧ c.code = code ∧ meth.sig.returnType = ret ∧ c.maxLocals = 4 ∧ s.vm.findClass R_law = some m.cls ∧ (∀ w ∈ lw_tbl, w.before #[Value.ref b] s = true) ∧ va_X b L xs s s.heap ∧ b < s.heap.size ∧ meth.locks = false ∧ (Jvm.Cond.and given_1 narrow_1).before #[Value.ref b] s = true

-- ===== the memory at the law's loop =====
def rz_cm : ro_Mem := cm_X12_init_207 (ro_arr (cm_X11_init_0 (ro_arr (fun _ _ => 0) 0 (fun _ => 0))) 207 (fun _ => 0))
def rz_m0 : ro_Mem := fun id k => if (ro_sh id).1 = 0 ∧ (ro_fk (ro_sh id).2 k).1 = 2 then nI ((rz_cm id k).toNatClampNeg - 1) else rz_cm id k
def rz_one (id : Nat) : Bool := match ro_sh id with
  | (0, c) => (List.range (ro_nf c)).all fun k => match ro_fk c k with
    | (0, _) => true
    | (1, z) => rz_cm id k == nI (id + z + 1)
    | (2, _) => !(rz_cm id k == 0) && decide ((rz_cm id k).toNatClampNeg < 1000)
    | _ => false
  | (1, _) => true
  | (2, _) => true
  | (3, _) => true
  | (4, n) => (List.range n).all fun j => rz_cm id j == nI (id + 2 + 3 * j + 1)
  | _ => false
set_option maxRecDepth 100000 in
theorem rz_ok : (List.range NID).all rz_one = true := by decide +kernel
theorem rz_P {G : ro_G} {H : Heap} (hP : ry_P G 273 rz_cm H) : va_P (ro_D G) cls (ro_wl G rz_m0) H := by
  intro k q hk
  have hlt : k < NID := by
    have := (List.getElem?_eq_some_iff.mp hk).1
    simpa [ro_wl] using this
  rw [ro_wl_at hlt] at hk
  obtain rfl := Option.some.inj hk
  have hat := hP k hlt
  have h1 := List.all_eq_true.mp rz_ok k (List.mem_range.mpr hlt)
  unfold rz_one at h1
  obtain ⟨t, n, hsh⟩ : ∃ t n, ro_sh k = (t, n) := ⟨_, _, rfl⟩
  rw [hsh] at h1
  match t, h1 with
  | 0, h1 =>
    rw [ry_ent_obj hsh] at hat
    rw [ro_ent_obj hsh]
    have hl : (List.range (ro_nf n)).map (ro_fv G n k rz_m0) = (List.range (ro_nf n)).map (ry_fv G n k rz_cm) := by
      apply List.map_congr_left
      intro j hj
      have h2 := List.all_eq_true.mp h1 j hj
      obtain ⟨a, z, hfk⟩ : ∃ a z, ro_fk n j = (a, z) := ⟨_, _, rfl⟩
      rw [hfk] at h2
      match a, h2 with
      | 0, _ => simp [ro_fv, ry_fv, hfk, rz_m0, hsh]
      | 1, h2 =>
        have h3 : rz_cm k j = nI (k + z + 1) := by simpa using h2
        have hz : z < 300 := by
          have hz0 : ((List.range 13).all fun c => (List.range (ro_nf c)).all fun k => decide ((ro_fk c k).2 < 300)) = true := by decide +kernel
          by_cases hn : n < 13
          · have := List.all_eq_true.mp (List.all_eq_true.mp hz0 n (List.mem_range.mpr hn)) j hj
            rw [hfk] at this
            exact of_decide_eq_true this
          · exfalso
            have : ro_nf n = 0 := by
              unfold ro_nf
              rw [List.getD_eq_getElem?_getD, List.getElem?_eq_none (by show FKL.length ≤ n; have : FKL.length = 13 := by decide +kernel
                                                                        omega)]
              rfl
            rw [this] at hj
            simp at hj
        have hb : k + z + 1 < 2 ^ 31 := by have : NID = 273 := rfl
                                           omega
        have hne : ¬ nI (k + z + 1) = 0 := nI_ne0 (by omega) hb
        simp [ro_fv, ry_fv, hfk, h3, hne, nI_clamp hb]
      | 2, h2 =>
        have h3 : ¬ rz_cm k j = 0 ∧ (rz_cm k j).toNatClampNeg < 1000 := by simpa using h2
        have hb : (rz_cm k j).toNatClampNeg - 1 < 2 ^ 31 := by omega
        simp [ro_fv, ry_fv, hfk, rz_m0, hsh, h3.1, nI_clamp hb]
      | a + 3, h2 => simp at h2
    rw [hl]
    exact hat
  | 1, _ =>
    rw [ry_ent_arr hsh (Or.inl rfl)] at hat
    rw [ro_ent_arr hsh (Or.inl rfl), show rz_m0 k = rz_cm k from funext fun j => by simp [rz_m0, hsh]]
    exact hat
  | 2, _ =>
    rw [ry_ent_arr hsh (Or.inr (Or.inl rfl))] at hat
    rw [ro_ent_arr hsh (Or.inr (Or.inl rfl)), show rz_m0 k = rz_cm k from funext fun j => by simp [rz_m0, hsh]]
    exact hat
  | 3, _ =>
    rw [ry_ent_arr hsh (Or.inr (Or.inr rfl))] at hat
    rw [ro_ent_arr hsh (Or.inr (Or.inr rfl)), show rz_m0 k = rz_cm k from funext fun j => by simp [rz_m0, hsh]]
    exact hat
  | 4, h1 =>
    rw [ry_ent_q hsh] at hat
    rw [ro_ent_q hsh]
    show H[ro_ad G k]? = some (vp_cell _ _)
    have hat : H[ro_ad G k]? = some (vp_cell _ _) := hat
    rw [hat, vp_cell_q, vp_cell_q]
    have hn : n < 1000 := by
      have hz0 : ((List.range NID).all fun id => decide ((ro_sh id).2 < 10000)) = true := by decide +kernel
      have h40 : ((List.range NID).all fun id => !(decide ((ro_sh id).1 = 4)) || decide ((ro_sh id).2 < 1000)) = true := by decide +kernel
      have := List.all_eq_true.mp h40 k (List.mem_range.mpr hlt)
      rw [hsh] at this
      simpa using this
    have harr : ∀ (f g : Nat → Value), (∀ j, j < n → f j = g j) → arrV (ro_cs G 4) n f = arrV (ro_cs G 4) n g := by
      intro f g hfg
      unfold arrV
      congr 1
      congr 1
      funext j
      exact hfg j.val j.isLt
    congr 1
    apply harr
    intro j hj
    have h2 : rz_cm k j = nI (k + 2 + 3 * j + 1) := by
      have := List.all_eq_true.mp h1 j (List.mem_range.mpr hj)
      simpa using this
    have hb : k + 2 + 3 * j + 1 < 2 ^ 31 := by have : NID = 273 := rfl
                                               omega
    have hne : ¬ nI (k + 2 + 3 * j + 1) = 0 := nI_ne0 (by omega) hb
    simp [h2, hne, nI_clamp hb]
  | t + 5, h1 => simp at h1
-- ===== what the Statement gives =====
def rz_tm : Nat → Term := fun i => match i with
  | 0 => .string "RainOpera$Score" 53
  | 1 => .string "RainOpera$LawReader" 42
  | 2 => .string "RainOpera$LawReader" 91
  | 3 => .string "RainOpera$LawReader" 100
  | _ => .string "" 0
theorem rz_str {args : Array Value} {s : State} {A : Nat → Prop} (hs : ∀ c ∈ flatC (Jvm.Cond.and given_1 narrow_1), c.before args s = true) (hA : ∀ a : Nat, a < s.heap.size → ¬ A a) : ∃ adK adV : Nat → Nat, vk_S 4 ro_sl ro_sb adK adV A s s.heap ∧ ∀ i : Nat, i < 4 → (rz_tm i).eval args s none [] s = some (.ref (adK i)) := by
  refine vk_Sof (tm := rz_tm) ?_ ?_ ?_ ?_ ?_ ?_ ?_ hA
  · intro i hi
    match i, hi with
    | 0, _ => decide
    | 1, _ => decide
    | 2, _ => decide
    | 3, _ => decide
    | k + 4, hi => exact absurd hi (by omega)
  · intro i hi
    match i, hi with
    | 0, _ => exact hs _ (by decide +kernel)
    | 1, _ => exact hs _ (by decide +kernel)
    | 2, _ => exact hs _ (by decide +kernel)
    | 3, _ => exact hs _ (by decide +kernel)
    | k + 4, hi => exact absurd hi (by omega)
  · intro i hi
    match i, hi with
    | 0, _ => exact hs _ (by decide +kernel)
    | 1, _ => exact hs _ (by decide +kernel)
    | 2, _ => exact hs _ (by decide +kernel)
    | 3, _ => exact hs _ (by decide +kernel)
    | k + 4, hi => exact absurd hi (by omega)
  · intro i hi
    match i, hi with
    | 0, _ => exact hs _ (by decide +kernel)
    | 1, _ => exact hs _ (by decide +kernel)
    | 2, _ => exact hs _ (by decide +kernel)
    | 3, _ => exact hs _ (by decide +kernel)
    | k + 4, hi => exact absurd hi (by omega)
  · intro i hi
    match i, hi with
    | 0, _ => exact hs _ (by decide +kernel)
    | 1, _ => exact hs _ (by decide +kernel)
    | 2, _ => exact hs _ (by decide +kernel)
    | 3, _ => exact hs _ (by decide +kernel)
    | k + 4, hi => exact absurd hi (by omega)
  · intro i hi j hj
    match i, hi, j, hj with
    | 0, _, 0, _ => exact hs _ (by decide +kernel)
    | 0, _, 1, _ => exact hs _ (by decide +kernel)
    | 0, _, 2, _ => exact hs _ (by decide +kernel)
    | 0, _, 3, _ => exact hs _ (by decide +kernel)
    | 1, _, 0, _ => exact hs _ (by decide +kernel)
    | 1, _, 1, _ => exact hs _ (by decide +kernel)
    | 1, _, 2, _ => exact hs _ (by decide +kernel)
    | 1, _, 3, _ => exact hs _ (by decide +kernel)
    | 2, _, 0, _ => exact hs _ (by decide +kernel)
    | 2, _, 1, _ => exact hs _ (by decide +kernel)
    | 2, _, 2, _ => exact hs _ (by decide +kernel)
    | 2, _, 3, _ => exact hs _ (by decide +kernel)
    | 2, _, 4, _ => exact hs _ (by decide +kernel)
    | 2, _, 5, _ => exact hs _ (by decide +kernel)
    | 2, _, 6, _ => exact hs _ (by decide +kernel)
    | 2, _, 7, _ => exact hs _ (by decide +kernel)
    | 3, _, 0, _ => exact hs _ (by decide +kernel)
    | 3, _, 1, _ => exact hs _ (by decide +kernel)
    | 3, _, 2, _ => exact hs _ (by decide +kernel)
    | 3, _, 3, _ => exact hs _ (by decide +kernel)
    | 3, _, 4, _ => exact hs _ (by decide +kernel)
    | 3, _, 5, _ => exact hs _ (by decide +kernel)
    | 3, _, 6, _ => exact hs _ (by decide +kernel)
    | 3, _, 7, _ => exact hs _ (by decide +kernel)
    | 3, _, 8, _ => exact hs _ (by decide +kernel)
    | 3, _, 9, _ => exact hs _ (by decide +kernel)
    | 3, _, 10, _ => exact hs _ (by decide +kernel)
    | 3, _, 11, _ => exact hs _ (by decide +kernel)
    | 0, _, j + 4, hj => exact absurd hj (by show ¬ (j + 4 < 4); omega)
    | 1, _, j + 4, hj => exact absurd hj (by show ¬ (j + 4 < 4); omega)
    | 2, _, j + 8, hj => exact absurd hj (by show ¬ (j + 8 < 8); omega)
    | 3, _, j + 12, hj => exact absurd hj (by show ¬ (j + 12 < 12); omega)
    | k + 4, hi, _, _ => exact absurd hi (by omega)
  · intro i j hi hj hij
    match i, hi, j, hj with
    | 0, _, 0, _ => exact absurd rfl hij
    | 0, _, 1, _ => exact Or.inl (hs _ (by decide +kernel))
    | 0, _, 2, _ => exact Or.inl (hs _ (by decide +kernel))
    | 0, _, 3, _ => exact Or.inl (hs _ (by decide +kernel))
    | 1, _, 0, _ => exact Or.inr (hs _ (by decide +kernel))
    | 1, _, 1, _ => exact absurd rfl hij
    | 1, _, 2, _ => exact Or.inl (hs _ (by decide +kernel))
    | 1, _, 3, _ => exact Or.inl (hs _ (by decide +kernel))
    | 2, _, 0, _ => exact Or.inr (hs _ (by decide +kernel))
    | 2, _, 1, _ => exact Or.inr (hs _ (by decide +kernel))
    | 2, _, 2, _ => exact absurd rfl hij
    | 2, _, 3, _ => exact Or.inl (hs _ (by decide +kernel))
    | 3, _, 0, _ => exact Or.inr (hs _ (by decide +kernel))
    | 3, _, 1, _ => exact Or.inr (hs _ (by decide +kernel))
    | 3, _, 2, _ => exact Or.inr (hs _ (by decide +kernel))
    | 3, _, 3, _ => exact absurd rfl hij
    | 0, _, j + 4, hj => exact absurd hj (by omega)
    | 1, _, j + 4, hj => exact absurd hj (by omega)
    | 2, _, j + 4, hj => exact absurd hj (by omega)
    | 3, _, j + 4, hj => exact absurd hj (by omega)
    | k + 4, hi, _, _ => exact absurd hi (by omega)
