-- ===== a condition, as the reference reads it: its steps =====
def FINx (q : ro_Mem ⊕ (ro_Mem ⊕ (ro_Mem ⊕ ro_Mem))) : Option (Int32 × ro_Mem) := q.elim (fun e64 => some (0, e64)) (fun e65 => e65.elim (fun e66 => some (0, e66)) (fun e67 => e67.elim (fun e68 => some (1, e68)) (fun e69 => (fn_X12_wrongAt 1 (e69 207 14) e69).bind fun q70 => if q70.1 = 0 ∨ q70.1 = 1 then (some (q70.1, q70.2)) else none)))
def RCx (f : Nat) (M : ro_Mem) : Option (Int32 × ro_Mem) := (ro_loop (fun rec s => fb_X12_readsCondition_40 rec s) f M).bind FINx
def QT_ (rec : ro_Mem → Option (ro_Mem ⊕ (ro_Mem ⊕ (ro_Mem ⊕ ro_Mem)))) (q40 : ro_Mem ⊕ ro_Mem) : Option (ro_Mem ⊕ (ro_Mem ⊕ (ro_Mem ⊕ ro_Mem))) := q40.elim (fun e42 => some (.inr (.inr (.inl e42)))) (fun e43 => (fn_X12_here e43).bind fun q44 => if q44 = 38 then (fj_X12_readsCondition_180 rec e43) else ((fn_X12_here e43).bind fun q59 => if q59 = 124 then (fj_X12_readsCondition_180 rec e43) else (some (.inr (.inr (.inr e43))))))
def QCx (f g : Nat) (M : ro_Mem) : Option (Int32 × ro_Mem) := ((ro_loop (fun rec s => fb_X12_readsCondition_92 rec s) g M).bind (QT_ (ro_loop (fun rec s => fb_X12_readsCondition_40 rec s) f))).bind FINx
section
variable {b : Nat → Nat} {n : Nat} {m M : ro_Mem} {s : Sx} {W : List Nat} {d f g : Nat}
theorem ch_is {p v : Nat} (hT : RT b n M) (hv : v < 256) : ch_ b n p = nI v ↔ (p < n ∧ b p = v) := by
  unfold ch_
  by_cases c : p < n
  · rw [if_pos c]
    have hb := (hT.2.2 _ c).2
    rw [nI_eq (by omega) (by omega)]
    exact ⟨fun z => ⟨c, z⟩, fun z => z.2⟩
  · rw [if_neg c]
    refine ⟨fun z => absurd z.symm (rt_m1 (by omega)), fun z => absurd z.1 c⟩
theorem RCx_open {k v : Nat} (hk : (k = 10 ∧ v = 33) ∨ (k = 13 ∧ v = 40)) (hT : RT b n m) (h : RW m s W d M) (hp : s.p ≤ 200) (hd : d ≤ 6) (hW : W.length < 220) (hc : s.p < n ∧ b s.p = v) : (d < 6 ∧ ∃ M', RCx (f + 1) M = RCx f M' ∧ RW m s.adv (1048576 * k :: W) (d + 1) M') ∨ (¬ d < 6 ∧ ∃ M', RCx (f + 1) M = some (0, M') ∧ RX m (flt 5 s.p) M') := by
  have hTM := h.1.rt hT
  have hu : ∀ R, fb_X12_readsCondition_40 R M = ((fn_X12_opens (nI k) M).bind fun q17 => if q17.1 = 0 then (some (.inl q17.2)) else (R q17.2)) := fun R => by
    unfold fb_X12_readsCondition_40 fj_X12_readsCondition_58 fj_X12_readsCondition_75
    rw [rt_here hTM h.2.1 (by omega), Option.bind_some, Option.bind_some, Option.bind_some]
    rcases hk with ⟨e1, e2⟩ | ⟨e1, e2⟩
    · have e : ch_ b n s.p = 33 := (ch_is (v := 33) hTM (by decide)).mpr (by rw [e2] at hc; exact hc)
      rw [if_pos e, if_pos e, e1]
      rfl
    · have e : ch_ b n s.p = 40 := (ch_is (v := 40) hTM (by decide)).mpr (by rw [e2] at hc; exact hc)
      rw [e, if_neg (show ¬ (40 : Int32) = 33 by decide), if_pos rfl, if_neg (show ¬ (40 : Int32) = 33 by decide), e1]
      rfl
  unfold RCx
  rw [show ro_loop (fun rec s => fb_X12_readsCondition_40 rec s) (f + 1) M = fb_X12_readsCondition_40 (ro_loop (fun rec s => fb_X12_readsCondition_40 rec s) f) M from rfl, hu]
  rcases rt_opens (k := k) h hd hW with ⟨c, M', x1, x2⟩ | ⟨c, M', x1, x2⟩
  · rw [x1, Option.bind_some, if_neg rt_10]
    exact Or.inl ⟨c, M', rfl, x2⟩
  · rw [x1, Option.bind_some, if_pos rfl]
    exact Or.inr ⟨c, M', rfl, x2⟩
theorem RCx_cmp (hT : RT b n m) (h : RW m s W d M) (hp : s.p ≤ 200) (hc : ¬ (s.p < n ∧ (b s.p = 33 ∨ b s.p = 40))) : RCx (f + 1) M = (fn_X12_readsCompared M).bind fun q => if q.1 = 0 then some (0, q.2) else QCx f ro_FU q.2 := by
  have hTM := h.1.rt hT
  have c33 : ¬ ch_ b n s.p = 33 := fun z => by
    have := (ch_is (v := 33) hTM (by decide)).mp z
    exact hc ⟨this.1, Or.inl this.2⟩
  have c40 : ¬ ch_ b n s.p = 40 := fun z => by
    have := (ch_is (v := 40) hTM (by decide)).mp z
    exact hc ⟨this.1, Or.inr this.2⟩
  have hu : ∀ R, fb_X12_readsCondition_40 R M = ((fn_X12_readsCompared M).bind fun q23 => if q23.1 = 0 then (some (.inr (.inl q23.2))) else ((fl_X12_readsCondition_92 q23.2).bind (QT_ R))) := fun R => by
    unfold fb_X12_readsCondition_40
    rw [rt_here hTM h.2.1 (by omega), Option.bind_some, if_neg c33, Option.bind_some, if_neg c40]
    rfl
  unfold RCx
  rw [show ro_loop (fun rec s => fb_X12_readsCondition_40 rec s) (f + 1) M = fb_X12_readsCondition_40 (ro_loop (fun rec s => fb_X12_readsCondition_40 rec s) f) M from rfl, hu, Option.bind_assoc]
  congr 1
  funext q
  by_cases c : q.1 = 0
  · rw [if_pos c, if_pos c]; rfl
  · rw [if_neg c, if_neg c]; rfl
theorem QCx_close {s1 : Sx} {x : Nat} {W0 : List Nat} (hT : RT b n m) (h : RW m s W (d + 1) M) (hp : s.p ≤ 200) (hc : s.c < 1048576) (hL : LW W) (hA : AW s) (hb : s.p < n ∧ b s.p = 41) (hla : la_ 1 s W = (s1, x :: W0)) : ∃ M', RW m s1.adv W0 d M' ∧ QCx f (g + 1) M = if W0.length = 0 then some (1, M') else (fn_X12_endsPiece M').bind (QCx f g) := by
  have hTM := h.1.rt hT
  obtain ⟨M1, x1, x2⟩ := rt_lands (k := 1) (by decide) hc hL hA h
  rw [hla] at x2
  have x1 : fn_X12_lands 1 M = some M1 := x1
  have h2 := x2.pop
  have h3 := (h2.dep (d' := d)).adv
  have hl : W0.length < 2 ^ 31 := by
    have h4 := (la_p 1 W s).2.2
    rw [hla] at h4
    have h4 : (x :: W0).length ≤ W.length := h4
    rw [List.length_cons] at h4
    have := hL.1
    omega
  refine ⟨_, h3, ?_⟩
  have e34 : ro_set M1 207 36 (M1 207 36 - 1) 207 34 - 1 = nI d := by
    rw [h2.2.2.2.2.1, show nI (d + 1) - 1 = nI (d + 1 - 1) from pk_sub (b := 1) (by omega), Nat.add_sub_cancel]
  have hbd : ∀ R, fb_X12_readsCondition_92 R M = if W0.length = 0 then some (.inl (ro_set (ro_set (ro_set M1 207 36 (M1 207 36 - 1)) 207 34 (nI d)) 207 14 (ro_set (ro_set M1 207 36 (M1 207 36 - 1)) 207 34 (nI d) 207 14 + 1))) else (fn_X12_endsPiece (ro_set (ro_set (ro_set M1 207 36 (M1 207 36 - 1)) 207 34 (nI d)) 207 14 (ro_set (ro_set M1 207 36 (M1 207 36 - 1)) 207 34 (nI d) 207 14 + 1))).bind R := fun R => by
    unfold fb_X12_readsCondition_92
    rw [rt_here hTM h.2.1 (by omega), Option.bind_some, if_pos (show ch_ b n s.p = 41 from (ch_is (v := 41) hTM (by decide)).mpr hb), x1, Option.bind_some, ro_lt, e34, ro_lt, ro_lt, h3.2.2.2.1]
    by_cases c : W0.length = 0
    · rw [if_pos c, if_pos (show nI W0.length = 0 by rw [c]; rfl)]
    · rw [if_neg c, if_neg (nI_ne0 (by omega) hl)]
  unfold QCx
  rw [show ro_loop (fun rec s => fb_X12_readsCondition_92 rec s) (g + 1) M = fb_X12_readsCondition_92 (ro_loop (fun rec s => fb_X12_readsCondition_92 rec s) g) M from rfl, hbd]
  by_cases c : W0.length = 0
  · rw [if_pos c, if_pos c]; rfl
  · rw [if_neg c, if_neg c, Option.bind_assoc, Option.bind_assoc]
    congr 1
    funext q
    rw [Option.bind_assoc]
theorem Q92_no (hT : RT b n m) (h : RW m s W d M) (hp : s.p ≤ 200) (hb : ¬ (s.p < n ∧ b s.p = 41)) : QCx f (g + 1) M = (QT_ (ro_loop (fun rec s => fb_X12_readsCondition_40 rec s) f) (.inr M)).bind FINx := by
  have hTM := h.1.rt hT
  have hbd : ∀ R, fb_X12_readsCondition_92 R M = some (.inr M) := fun R => by
    unfold fb_X12_readsCondition_92
    rw [rt_here hTM h.2.1 (by omega), Option.bind_some, if_neg (show ¬ ch_ b n s.p = 41 from fun z => hb ((ch_is (v := 41) hTM (by decide)).mp z))]
  unfold QCx
  rw [show ro_loop (fun rec s => fb_X12_readsCondition_92 rec s) (g + 1) M = fb_X12_readsCondition_92 (ro_loop (fun rec s => fb_X12_readsCondition_92 rec s) g) M from rfl, hbd, Option.bind_some]
theorem QCx_jump {k w v : Nat} {s1 : Sx} {W0 : List Nat} (hk : (k = 0 ∧ w = 11 ∧ v = 38) ∨ (k = 1 ∧ w = 12 ∧ v = 124)) (hT : RT b n m) (h : RW m s W d M) (hp : s.p ≤ 200) (hc : s.c < 220) (hL : LW W) (hA : AW s) (hb : s.p < n ∧ b s.p = v) (hla : la_ k s W = (s1, W0)) : ∃ M', QCx f (g + 1) M = RCx f M' ∧ RW m (s1.adv.emit w 0) ((1048576 * w + s1.c) :: W0) d M' := by
  have hTM := h.1.rt hT
  have hv : v < 256 := by omega
  obtain ⟨M1, x1, x2⟩ := rt_lands (k := k) (by omega) (by omega) hL hA h
  obtain ⟨lp, lc, ll⟩ := la_p k W s
  rw [hla] at x2 lp lc ll
  have lp : s1.p = s.p := lp
  have lc : s1.c = s.c := lc
  have ll : W0.length ≤ W.length := ll
  have hl := hL.1
  have hTM1 := x2.1.rt hT
  obtain ⟨M2, y1, y2⟩ := rt_jumps (w := w) (by omega) (show s1.c < 220 by omega) (by show W0.length < 220; omega) x2
  refine ⟨M2, ?_, y2⟩
  rw [Q92_no hT h hp (by omega)]
  have e := (ch_is (p := s.p) hTM hv).mpr hb
  have e1 := (ch_is (p := s1.p) hTM1 hv).mpr (by rw [lp]; exact hb)
  have hq : ∀ R, QT_ R (.inr M) = R M2 := fun R => by
    unfold QT_
    dsimp only [Sum.elim_inr]
    rw [rt_here hTM h.2.1 (by omega), Option.bind_some, Option.bind_some]
    have h195 : fj_X12_readsCondition_195 R (nI k) M = R M2 := by
      unfold fj_X12_readsCondition_195
      rw [x1, Option.bind_some, rt_here hTM1 x2.2.1 (by omega), Option.bind_some, e1]
      rcases hk with ⟨_, k2, k3⟩ | ⟨_, k2, k3⟩
      · rw [k2] at y1
        have y1 : fn_X12_jumps 11 M1 = some M2 := y1
        rw [k3, if_pos (show nI 38 = 38 from rfl), y1, Option.bind_some]
      · rw [k2] at y1
        have y1 : fn_X12_jumps 12 M1 = some M2 := y1
        rw [k3, if_neg (show ¬ nI 124 = 38 by decide), y1, Option.bind_some]
    have h180 : fj_X12_readsCondition_180 R M = R M2 := by
      unfold fj_X12_readsCondition_180
      rw [rt_here hTM h.2.1 (by omega), Option.bind_some, e]
      rcases hk with ⟨k1, k2, k3⟩ | ⟨k1, k2, k3⟩
      · rw [k1] at h195
        rw [k3, if_neg (show ¬ nI 38 = 124 by decide)]
        exact h195
      · rw [k1] at h195
        rw [k3, if_pos (show nI 124 = 124 from rfl)]
        exact h195
    rw [h180, e]
    rcases hk with ⟨_, _, k3⟩ | ⟨_, _, k3⟩
    · rw [k3, if_pos (show nI 38 = 38 from rfl)]
    · rw [k3, if_neg (show ¬ nI 124 = 38 by decide), if_pos (show nI 124 = 124 from rfl)]
  rw [hq]
  rfl
theorem QCx_end (hT : RT b n m) (h : RW m s W d M) (hp : s.p ≤ 200) (hb : ¬ (s.p < n ∧ b s.p = 41)) (h38 : ¬ (s.p < n ∧ b s.p = 38)) (h124 : ¬ (s.p < n ∧ b s.p = 124)) : ∃ M', QCx f (g + 1) M = some (0, M') ∧ RX m (flt 1 s.p) M' := by
  have hTM := h.1.rt hT
  refine ⟨ro_set M 207 16 (flt 1 s.p), ?_, h.1.set (Or.inr (Or.inl rfl)) _, by rw [ro_set_same, pk_us]⟩
  rw [Q92_no hT h hp hb]
  unfold QT_
  dsimp only [Sum.elim_inr]
  rw [rt_here hTM h.2.1 (by omega), Option.bind_some, if_neg (show ¬ ch_ b n s.p = 38 from fun z => h38 ((ch_is (v := 38) hTM (by decide)).mp z)), Option.bind_some, if_neg (show ¬ ch_ b n s.p = 124 from fun z => h124 ((ch_is (v := 124) hTM (by decide)).mp z)), Option.bind_some]
  unfold FINx
  dsimp only [Sum.elim_inr]
  rw [h.2.1, rt_wrong, Option.bind_some, if_pos (Or.inl rfl)]
end
