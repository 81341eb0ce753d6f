-- ===== the class reads the whole law =====
section
variable {b : Nat → Nat} {n o0 : Nat} {m M M' : ro_Mem}
theorem FK.fm {e : Int32} (h : FK o0 m e M) (g : Fm M M') : FK o0 m (M' 60 4) M' := ⟨fun o h1 h2 => (g.1 o h1).trans (h.1 o h1 h2), fun k h1 h2 => (g.2 k h1 h2).trans (h.2.1 k h1 h2), rfl⟩
theorem rt_lawStop {C : Nat} {e : Int32} {fuel : Nat} (hf : 0 < fuel) (hC : C ≤ 15) (h : M 60 4 = e) (he : ¬ e = 0) : ro_loop (fun rec (s : Int32 × ro_Mem) => fb_X3_readLaw_18 rec s.1 s.2) fuel (nI C, M) = some (.inr M) := by
  cases fuel with
  | zero => omega
  | succ F =>
    show fb_X3_readLaw_18 _ (nI C) M = _
    unfold fb_X3_readLaw_18
    by_cases c : 14 < C
    · rw [if_pos (show (14 : Int32) < nI C from nI_lt (a := 14) c (by omega))]
    · rw [if_neg (show ¬ (14 : Int32) < nI C from nI_nlt (a := 14) (by omega) (by decide)), if_neg (by rw [h]; exact he)]
theorem rt_lawLoopC (hs : Sp0 o0 m) (hT : Tp b n m) : ∀ f C s T M fuel, C + f = 15 → f + 1 < fuel → s.p ≤ n → s.c ≤ s.p → CK o0 m s C T M → C ≤ 14 → (∃ e M', LR b n f C s T (.inl e) ∧ ro_loop (fun rec (s : Int32 × ro_Mem) => fb_X3_readLaw_18 rec s.1 s.2) fuel (nI C, M) = some (.inr M') ∧ FK o0 m e M') ∨ ∃ x M', LR b n f C s T (.inr x) ∧ ro_loop (fun rec (s : Int32 × ro_Mem) => fb_X3_readLaw_18 rec s.1 s.2) fuel (nI C, M) = some (.inl M') ∧ CK o0 m x.2.1 x.1 x.2.2 M' := by
  have hn := hT.2.1
  have ho := hs.lt
  intro f
  induction f with
  | zero => intro C s T M fuel h1 _ _ _ _ h2; omega
  | succ f ih =>
    intro C s T M fuel hf hfu hp hc h hC
    cases fuel with
    | zero => omega
    | succ F =>
      have hu : ∀ R, fb_X3_readLaw_18 R (nI C) M = ((fn_X3_readClause M).bind fun q9 => if (q9 60 4) = 0 then ((fn_X8_peek q9).bind fun q14 => if q14 = (-1) then (some (.inl q9)) else (fj_X3_readLaw_59 R (nI C) q9)) else (fj_X3_readLaw_59 R (nI C) q9)) := fun R => by
        unfold fb_X3_readLaw_18
        rw [if_neg (show ¬ (14 : Int32) < nI C from nI_nlt (a := 14) (by omega) (by decide)), if_pos h.1.2.2]
      have hl : ro_loop (fun rec (s : Int32 × ro_Mem) => fb_X3_readLaw_18 rec s.1 s.2) (F + 1) (nI C, M) = fb_X3_readLaw_18 (ro_loop (fun rec (s : Int32 × ro_Mem) => fb_X3_readLaw_18 rec s.1 s.2) F) (nI C) M := rfl
      rw [hl, hu]
      rcases rt_readClauseC hs hT hC hp hc h with ⟨e, A, x1, x2, x3⟩ | ⟨kd, x, s1, A, x1, x2, x3⟩
      · have he := CR_bad hn hp hc x1
        rw [x2, Option.bind_some, if_neg (by rw [x3.2.2]; exact he.1)]
        unfold fj_X3_readLaw_59
        obtain ⟨B, y1, y2⟩ := rt_passF (v := 59) (e := e) (M := A) (x3.tp hs hT) ⟨⟨fun _ _ => rfl, fun _ _ _ => rfl⟩, x3.2.2⟩ he.1
        have y3 := x3.fm y2.1
        rw [y2.2] at y3
        rw [y1, Option.bind_some, nI_1, rt_lawStop (by omega) (by omega) y2.2 he.1]
        exact Or.inl ⟨e, B, Or.inl ⟨e, x1, rfl⟩, rfl, y3⟩
      · obtain ⟨r1, r2, r3, r4, r5, r6, r7⟩ := CR_good hn hp hc x1
        have c1 := r5.c_le hc
        have p1 := r5.2.1
        have tA := x3.1.tp hs hT
        have sA := x3.1.sp hs
        have cA := x3.cl hs (by omega)
        rw [x2, Option.bind_some, if_pos x3.1.2.2, rt_peek tA x3.2.1 (by omega), Option.bind_some]
        by_cases hpn : s1.p < n
        · have hb := (tA.2.2 _ hpn).2
          have ech : ch_ b n s1.p = nI (b s1.p) := if_pos hpn
          rw [ech, if_neg (rt_m1 (by omega))]
          unfold fj_X3_readLaw_59
          rcases rt_passX (v := 59) sA tA cA (by omega) (by decide) with ⟨c, B, y1, y2⟩ | ⟨c, B, y1, y2⟩
          · have y1 : fn_X8_pass 59 A = some B := y1
            rw [y1, Option.bind_some, nI_1]
            have y3 := x3.of ho y2
            rcases ih (C + 1) s1.adv _ B F (by omega) (by omega) (by show s1.p + 1 ≤ n; omega) (by show s1.c ≤ s1.p + 1; omega) y3 (by omega) with ⟨e, D, z1, z2, z3⟩ | ⟨x', D, z1, z2, z3⟩
            · exact Or.inl ⟨e, D, Or.inr ⟨kd, x, s1, x1, Or.inr (Or.inr ⟨hpn, c.2, z1⟩)⟩, z2, z3⟩
            · exact Or.inr ⟨x', D, Or.inr ⟨kd, x, s1, x1, Or.inr (Or.inr ⟨hpn, c.2, z1⟩)⟩, z2, z3⟩
          · have y1 : fn_X8_pass 59 A = some B := y1
            have he := (flt_ok s1.p (by omega) 1 (by decide)).1
            rw [y1, Option.bind_some, nI_1, rt_lawStop (by omega) (by omega) y2.2.2.2.1 he]
            exact Or.inl ⟨_, B, Or.inr ⟨kd, x, s1, x1, Or.inr (Or.inl ⟨hpn, fun q => c ⟨hpn, q⟩, rfl⟩)⟩, rfl, x3.1.fe y2⟩
        · have ech : ch_ b n s1.p = -1 := if_neg hpn
          rw [ech, if_pos rfl]
          exact Or.inr ⟨_, A, Or.inr ⟨kd, x, s1, x1, Or.inl ⟨hpn, rfl⟩⟩, rfl, x3⟩
def sx0 : Sx := Sx.mk 0 0 (fun _ => 0) (fun _ => 0)
theorem rt_readLawC (hs : Sp0 o0 m) (hT : Tp b n m) (h2 : m 60 2 = 0) (h4 : m 60 4 = 0) : (∃ e M', LR b n 15 0 sx0 (fun _ _ => 0) (.inl e) ∧ fn_X3_readLaw m = some (e, M') ∧ FK o0 m e M') ∨ ∃ x M', LR b n 15 0 sx0 (fun _ _ => 0) (.inr x) ∧ fn_X3_readLaw m = some (nI x.1, M') ∧ CK o0 m x.2.1 x.1 x.2.2 M' := by
  have ho := hs.lt
  have f0 : FK o0 m 0 m := ⟨fun _ _ _ => rfl, fun _ _ _ => rfl, h4⟩
  have f1 := f0.set (o := o0) (by omega) ho 2 0
  have f2 := f1.set (o := o0) (by omega) ho 3 0
  have hCK : CK o0 m sx0 0 (fun _ _ => 0) (ro_set (ro_set m o0 2 0) o0 3 0) := by
    refine ⟨f2, ?_, ?_, fun k hk => absurd hk (Nat.not_lt_zero _), ?_, fun j c _ hc => absurd hc (Nat.not_lt_zero _)⟩
    · rw [ro_set_ne _ _ _ (by omega), ro_set_ne _ _ _ (by omega)]; exact h2
    · rw [ro_set_same, pk_un (by decide), ro_set_same, pk_us]; rfl
    · rw [ro_set_same, pk_us]; rfl
  unfold fn_X3_readLaw
  rw [f0.rf hs, if_pos hs.sh, ro_lt, f1.rf hs, if_pos hs.sh, ro_lt]
  rcases rt_lawLoopC hs hT 15 0 sx0 _ _ ro_FU (by decide) (by decide) (Nat.zero_le _) (Nat.zero_le _) hCK (by decide) with ⟨e, A, x1, x2, x3⟩ | ⟨x, A, x1, x2, x3⟩
  · have x2 : fl_X3_readLaw_18 (0, ro_set (ro_set m o0 2 0) o0 3 0) = some (.inr A) := x2
    rw [x2, Option.bind_some]
    dsimp only [Sum.elim_inr]
    rw [x3.2.2]
    exact Or.inl ⟨e, A, x1, rfl, x3⟩
  · have x2 : fl_X3_readLaw_18 (0, ro_set (ro_set m o0 2 0) o0 3 0) = some (.inl A) := x2
    rw [x2, Option.bind_some]
    dsimp only [Sum.elim_inl]
    rw [x3.1.rf hs, if_pos hs.sh, x3.2.2.2.2.1]
    exact Or.inr ⟨x, A, x1, rfl, x3⟩
end
