-- ===== a factor, as the reference reads it =====
def RFk (k : Nat) (M : ro_Mem) : Option (Int32 × ro_Mem) := (ro_loop (fun rec s => fb_X12_readsFactor_0 rec s) k M).bind fun q7 => q7.elim (fun e9 => some (0, e9)) (fun e10 => (fn_X12_isDigit e10).bind fun q11 => if q11 = 0 then ((fn_X12_here e10).bind fun q14 => (fn_X12_factOf q14).bind fun q16 => if q16 = (-1) then ((fn_X12_wrongAt 1 (e10 207 14) e10).bind fun q23 => if q23.1 = 0 ∨ q23.1 = 1 then (some (q23.1, q23.2)) else none) else ((fn_X12_notes 1 q16 e10).bind fun q19 => ro_lt (ro_set q19 207 14 ((q19 207 14) + 1)) fun m21 => some (1, m21))) else ((fn_X12_readsNumber e10).bind fun q26 => if q26.1 = 0 then (some (0, q26.2)) else ((fn_X12_notes 0 (q26.2 207 17) q26.2).bind fun q29 => some (1, q29))))
theorem RFk_fn (M : ro_Mem) : fn_X12_readsFactor M = RFk ro_FU M := rfl
theorem fo_t : ∀ c, c < 256 → fn_X12_factOf (nI c) = some (on_ (lt_ c)) := by decide +kernel
theorem fo_m : fn_X12_factOf (-1) = some (-1) := by decide +kernel
section
variable {b : Nat → Nat} {n : Nat} {m M : ro_Mem} {s : Sx} {W : List Nat} {d k : Nat}
theorem ch_91 (hT : RT b n M) : ch_ b n s.p = 91 ↔ (s.p < n ∧ b s.p = 91) := by
  unfold ch_
  by_cases c : s.p < n
  · rw [if_pos c]
    have hb := (hT.2.2 _ c).2
    have e : nI (b s.p) = (91 : Int32) ↔ b s.p = 91 := nI_eq (b := 91) (by omega) (by decide)
    rw [e]
    exact ⟨fun z => ⟨c, z⟩, fun z => z.2⟩
  · rw [if_neg c]
    exact ⟨fun z => absurd z (by decide), fun z => absurd z.1 c⟩
theorem RFk_open (hT : RT b n m) (h : RW m s W d M) (hp : s.p ≤ 200) (hd : d ≤ 6) (hW : W.length < 220) (hc : s.p < n ∧ b s.p = 91) : (d < 6 ∧ ∃ M', RFk (k + 1) M = RFk k M' ∧ RW m s.adv (1048576 * 14 :: W) (d + 1) M') ∨ (¬ d < 6 ∧ ∃ M', RFk (k + 1) M = some (0, M') ∧ RX m (flt 5 s.p) M') := by
  have hTM := h.1.rt hT
  have hu : ro_loop (fun rec s => fb_X12_readsFactor_0 rec s) (k + 1) M = ((fn_X12_opens 14 M).bind fun q4 => if q4.1 = 0 then (some (.inl q4.2)) else (ro_loop (fun rec s => fb_X12_readsFactor_0 rec s) k q4.2)) := by
    show fb_X12_readsFactor_0 (ro_loop (fun rec s => fb_X12_readsFactor_0 rec s) k) M = _
    generalize ro_loop (fun rec s => fb_X12_readsFactor_0 rec s) k = R
    unfold fb_X12_readsFactor_0
    rw [rt_here hTM h.2.1 (by omega), Option.bind_some, if_pos ((ch_91 hTM).mpr hc)]
  unfold RFk
  rw [hu]
  rcases rt_opens (k := 14) h hd hW with ⟨c, M', x1, x2⟩ | ⟨c, M', x1, x2⟩
  · have x1 : fn_X12_opens 14 M = some (1, M') := x1
    rw [x1, Option.bind_some, if_neg rt_10]
    exact Or.inl ⟨c, M', rfl, x2⟩
  · have x1 : fn_X12_opens 14 M = some (0, M') := x1
    rw [x1, Option.bind_some, if_pos rfl]
    exact Or.inr ⟨c, M', rfl, x2⟩
theorem RFk_atom (hT : RT b n m) (h : RW m s W d M) (hp : s.p ≤ 200) (hc : ¬ (s.p < n ∧ b s.p = 91)) (hk : 0 < k) (hcc : s.c < 220) : (∃ x M', (ca_ b n lt_ s.p = some x ∧ dg_ b n s.p = none) ∧ RFk k M = some (1, M') ∧ RW m (s.adv.emit 9 x) W d M') ∨ (∃ j M', (1 ≤ j ∧ j ≤ 5 ∧ (∀ i, i < j → ¬ dg_ b n (s.p + i) = none) ∧ dg_ b n (s.p + j) = none) ∧ RFk k M = some (1, M') ∧ RW m ((s.to (s.p + j)).emit 8 (nu_ b s.p j)) W d M') ∨ (∃ M', (∀ i, i < 6 → ¬ dg_ b n (s.p + i) = none) ∧ RFk k M = some (0, M') ∧ RX m (flt 2 (s.p + 5)) M') ∨ ∃ M', (ca_ b n lt_ s.p = none ∧ dg_ b n s.p = none) ∧ RFk k M = some (0, M') ∧ RX m (flt 1 s.p) M' := by
  have hTM := h.1.rt hT
  obtain ⟨k', rfl⟩ : ∃ k', k = k' + 1 := ⟨k - 1, by omega⟩
  have hu : ro_loop (fun rec s => fb_X12_readsFactor_0 rec s) (k' + 1) M = some (.inr M) := by
    show fb_X12_readsFactor_0 (ro_loop (fun rec s => fb_X12_readsFactor_0 rec s) k') M = _
    generalize ro_loop (fun rec s => fb_X12_readsFactor_0 rec s) k' = R
    unfold fb_X12_readsFactor_0
    rw [rt_here hTM h.2.1 (by omega), Option.bind_some, if_neg (fun z => hc ((ch_91 hTM).mp z))]
  unfold RFk
  rw [hu, Option.bind_some]
  dsimp only [Sum.elim_inr]
  rw [rt_isDigit hTM h.2.1 (by omega), Option.bind_some]
  cases e2 : dg_ b n s.p with
  | none =>
    dsimp only
    rw [if_pos rfl, rt_here hTM h.2.1 (by omega), Option.bind_some]
    have hfo : fn_X12_factOf (ch_ b n s.p) = some (on_ (ca_ b n lt_ s.p)) := by
      unfold ch_ ca_
      by_cases c : s.p < n
      · rw [if_pos c, if_pos c, fo_t _ (hTM.2.2 _ c).2]
      · rw [if_neg c, if_neg c, fo_m]; rfl
    rw [hfo, Option.bind_some]
    cases e1 : ca_ b n lt_ s.p with
    | none =>
      rw [show on_ none = -1 from rfl, if_pos rfl, h.2.1, rt_wrong, Option.bind_some, if_pos (Or.inl rfl)]
      exact Or.inr (Or.inr (Or.inr ⟨ro_set M 207 16 (flt 1 s.p), ⟨rfl, rfl⟩, rfl, h.1.set (Or.inr (Or.inl rfl)) _, by rw [ro_set_same, pk_us]⟩))
    | some x =>
      have hx := lt_le (ca_some e1).2
      obtain ⟨M1, n1, n2⟩ := rt_notesM (w := 9) (v := x) h (by omega)
      have n1 : fn_X12_notes 1 (nI x) M = some M1 := n1
      rw [show on_ (some x) = nI x from rfl, if_neg (rt_m1 (by omega)), n1, Option.bind_some, ro_lt]
      exact Or.inl ⟨x, _, ⟨rfl, rfl⟩, rfl, n2.adv⟩
  | some x =>
    dsimp only
    rw [if_neg rt_10]
    have hpn := (dg_lt e2).2.1
    rcases rt_numberM hT h hpn with ⟨k, M', a1, a2, a3, a4, a5, a6⟩ | ⟨a1, M', a2, a3⟩
    · have hk1 : 1 ≤ k := by
        rcases Nat.eq_zero_or_pos k with z | z
        · rw [z] at a3; rw [show s.p + 0 = s.p from rfl, e2] at a3; cases a3
        · exact z
      obtain ⟨M1, n1, n2⟩ := rt_notesM (w := 8) (v := nu_ b s.p k) a5 (show s.c < 220 by omega)
      have n1 : fn_X12_notes 0 (nI (nu_ b s.p k)) M' = some M1 := n1
      rw [a4, Option.bind_some, if_neg rt_10]
      refine Or.inr (Or.inl ⟨k, M1, ⟨hk1, a1, a2, a3⟩, ?_, n2⟩)
      show ((fn_X12_notes 0 (M' 207 17) M').bind _) = _
      rw [a6, n1, Option.bind_some]
    · rw [a2, Option.bind_some, if_pos rfl]
      exact Or.inr (Or.inr (Or.inl ⟨M', a1, rfl, a3⟩))
end
