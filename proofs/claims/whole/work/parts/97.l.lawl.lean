-- ===== a sum, as the reference reads it: its steps =====
def RLx (z f : Nat) (M : ro_Mem) : Option (Int32 × ro_Mem) := (ro_loop (fun rec s => fb_X12_readsSum_14 (nI z) rec s) f M).bind fun q38 => q38.elim (fun e40 => some (0, e40)) (fun e41 => fj_X12_readsSum_139 (nI z) e41)
def FMx (z k f : Nat) (M : ro_Mem) : Option (Int32 × ro_Mem) := (RFk k M).bind fun q => if q.1 = 0 then some (0, q.2) else RLx z f q.2
def sg_ (c : Nat) : Option Nat := if c = 43 then some 0 else if c = 45 then some 1 else if c = 42 then some 2 else if c = 47 then some 3 else if c = 37 then some 4 else none
def on2_ (x : Option Nat) : Int32 := match x with
  | none => -1
  | some v => nI (v + 2)
theorem ss_t : ∀ c, c < 256 → fn_X12_sumSign (nI c) = some (on2_ (sg_ c)) := by decide +kernel
theorem ss_m : fn_X12_sumSign (-1) = some (-1) := by decide +kernel
theorem sg_lt {c w : Nat} (h : sg_ c = some w) : w < 5 := by
  unfold sg_ at h
  repeat' split at h
  all_goals (cases h; try decide)
section
variable {b : Nat → Nat} {n : Nat} {m M : ro_Mem} {s : Sx} {W : List Nat} {d z f : Nat}
theorem rt_sumSign (hT : RT b n M) : fn_X12_sumSign (ch_ b n s.p) = some (on2_ (ca_ b n sg_ s.p)) := by
  unfold ch_ ca_
  by_cases c : s.p < n
  · rw [if_pos c, if_pos c, ss_t _ (hT.2.2 _ c).2]
  · rw [if_neg c, if_neg c, ss_m]; rfl
theorem RLx_sign {w : Nat} (hT : RT b n m) (h : RW m s W d M) (hp : s.p ≤ 200) (hc : s.c + W.length ≤ 219) (hx : ∀ x, x ∈ W → x < 2 ^ 31) (hj : ca_ b n sg_ s.p = some w) : ∃ M', RLx z (f + 1) M = FMx z ro_FU f M' ∧ RW m (cl_ (if 2 ≤ w then 0 else 1) s W).1.adv (1048576 * (w + 2) :: (cl_ (if 2 ≤ w then 0 else 1) s W).2) d M' := by
  have hTM := h.1.rt hT
  have hw := sg_lt (ca_some hj).2
  have hq2 : (if 2 ≤ w then 0 else 1) < 2 := by split <;> decide
  obtain ⟨M1, x1, x2⟩ := rt_closes hq2 (by omega) hx h
  have hl := (cl_p (if 2 ≤ w then 0 else 1) W s).2.1
  generalize cl_ (if 2 ≤ w then 0 else 1) s W = C at x2 hl ⊢
  have h3 := (x2.push (x := 1048576 * (w + 2))).adv
  refine ⟨_, ?_, h3⟩
  have e36 : M1 207 36 = nI C.2.length := x2.2.2.2.1
  have e38 : ∀ R, fj_X12_readsSum_38 R (nI z) (nI (w + 2)) (nI (if 2 ≤ w then 0 else 1)) M = ((fn_X12_readsFactor (ro_set (ro_set (ro_set M1 229 C.2.length (nI (1048576 * (w + 2)))) 207 36 (nI (C.2.length + 1))) 207 14 (ro_set (ro_set M1 229 C.2.length (nI (1048576 * (w + 2)))) 207 36 (nI (C.2.length + 1)) 207 14 + 1))).bind fun q35 => if q35.1 = 0 then (some (.inl q35.2)) else (R q35.2)) := fun R => by
    unfold fj_X12_readsSum_38
    rw [x1, Option.bind_some, e36, if_pos (rt_in (n := 220) (by omega) (by decide)), nI_clamp (show C.2.length < 2 ^ 31 by omega), show (1048576 : Int32) * nI (w + 2) = nI (1048576 * (w + 2)) from pk_mul 1048576 (w + 2), ro_lt, ro_set_ne _ _ _ (show ¬ 207 = 229 by decide), e36, nI_1, ro_lt, ro_lt]
  have hb : ∀ R, fb_X12_readsSum_14 (nI z) R M = fj_X12_readsSum_38 R (nI z) (nI (w + 2)) (nI (if 2 ≤ w then 0 else 1)) M := fun R => by
    unfold fb_X12_readsSum_14
    rw [rt_here hTM h.2.1 (by omega), Option.bind_some, rt_sumSign hTM, Option.bind_some, hj, show on2_ (some w) = nI (w + 2) from rfl, if_neg (rt_m1 (by omega))]
    by_cases c : 2 ≤ w
    · rw [if_pos (show (4 : Int32) ≤ nI (w + 2) from nI_le (a := 4) (by omega) (by omega)), if_pos c]
      rfl
    · rw [if_neg (show ¬ (4 : Int32) ≤ nI (w + 2) from nI_ge (b := 4) (by omega) (by decide)), if_neg c]
      rfl
  unfold RLx FMx
  rw [show ro_loop (fun rec s => fb_X12_readsSum_14 (nI z) rec s) (f + 1) M = fb_X12_readsSum_14 (nI z) (ro_loop (fun rec s => fb_X12_readsSum_14 (nI z) rec s) f) M from rfl, hb, e38, RFk_fn, Option.bind_assoc]
  congr 1
  funext q
  by_cases c : q.1 = 0
  · rw [if_pos c, if_pos c]; rfl
  · rw [if_neg c, if_neg c]; rfl
end
