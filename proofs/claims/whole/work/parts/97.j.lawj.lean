-- ===== a number, as the reference reads it =====
section
variable {b : Nat → Nat} {n : Nat} {m : ro_Mem} {s : Sx} {W : List Nat} {d : Nat}
theorem RW.v17 {M : ro_Mem} {v : Int32} (h : RW m s W d M) : RW m s W d (ro_set M 207 17 v) := by
  obtain ⟨h1, h2, h3, h4, h5, h6, h7⟩ := h
  refine ⟨h1.set (Or.inr (Or.inr (Or.inl rfl))) _, ?_, ?_, ?_, ?_, fun k hk => by rw [ro_set_ne _ _ _ (by decide)]; exact h6 k hk, by rw [ro_set_ne _ _ _ (by decide)]; exact h7⟩
  · rw [ro_set_same, pk_un (by decide)]; exact h2
  · rw [ro_set_same, pk_un (by decide)]; exact h3
  · rw [ro_set_same, pk_un (by decide)]; exact h4
  · rw [ro_set_same, pk_un (by decide)]; exact h5
theorem rt_numberM {M : ro_Mem} (hT : RT b n m) (h : RW m s W d M) (hp : s.p < n) : (∃ k M', k ≤ 5 ∧ (∀ i, i < k → ¬ dg_ b n (s.p + i) = none) ∧ dg_ b n (s.p + k) = none ∧ fn_X12_readsNumber M = some (1, M') ∧ RW m (s.to (s.p + k)) W d M' ∧ M' 207 17 = nI (nu_ b s.p k)) ∨ ((∀ i, i < 6 → ¬ dg_ b n (s.p + i) = none) ∧ ∃ M', fn_X12_readsNumber M = some (0, M') ∧ RX m (flt 2 (s.p + 5)) M') := by
  have hn := hT.2.1
  have key : ∀ j k M fuel, k + j = 5 → j < fuel → (∀ i, i < k → ¬ dg_ b n (s.p + i) = none) → RW m (s.to (s.p + k)) W d M → M 207 17 = nI (nu_ b s.p k) → (∃ k' M', k' ≤ 5 ∧ (∀ i, i < k' → ¬ dg_ b n (s.p + i) = none) ∧ dg_ b n (s.p + k') = none ∧ ro_loop (fun rec s' => fb_X12_readsNumber_10 (nI s.p) rec s') fuel M = some (.inr M') ∧ RW m (s.to (s.p + k')) W d M' ∧ M' 207 17 = nI (nu_ b s.p k')) ∨ ((∀ i, i < 6 → ¬ dg_ b n (s.p + i) = none) ∧ ∃ M', ro_loop (fun rec s' => fb_X12_readsNumber_10 (nI s.p) rec s') fuel M = some (.inl M') ∧ RW m (s.to (s.p + 5)) W d M') := by
    intro j
    induction j with
    | zero =>
      intro k M fuel hk hf hd hM h17
      have hk : k = 5 := by omega
      subst hk
      cases fuel with
      | zero => omega
      | succ F =>
        have h14 : M 207 14 = nI (s.p + 5) := hM.2.1
        show (∃ k' M', _ ∧ _ ∧ _ ∧ fb_X12_readsNumber_10 (nI s.p) (ro_loop (fun rec s' => fb_X12_readsNumber_10 (nI s.p) rec s') F) M = _ ∧ _) ∨ (_ ∧ ∃ M', fb_X12_readsNumber_10 (nI s.p) (ro_loop (fun rec s' => fb_X12_readsNumber_10 (nI s.p) rec s') F) M = _ ∧ _)
        generalize ro_loop (fun rec s' => fb_X12_readsNumber_10 (nI s.p) rec s') F = R
        unfold fb_X12_readsNumber_10
        rw [rt_isDigit (hM.1.rt hT) h14 (by omega), Option.bind_some, h14, show nI s.p + 5 = nI (s.p + 5) from nI_add s.p 5]
        cases e : dg_ b n (s.p + 5) with
        | none => exact Or.inl ⟨5, M, by omega, hd, e, if_pos rfl, hM, h17⟩
        | some x =>
          refine Or.inr ⟨fun i hi => ?_, M, (if_neg rt_10).trans (if_pos rfl), hM⟩
          by_cases c : i = 5
          · rw [c, e]; intro z; cases z
          · exact hd i (by omega)
    | succ j ih =>
      intro k M fuel hk hf hd hM h17
      cases fuel with
      | zero => omega
      | succ F =>
        have h14 : M 207 14 = nI (s.p + k) := hM.2.1
        have hTM := hM.1.rt hT
        have hih := fun M => ih (k + 1) M F
        show (∃ k' M', _ ∧ _ ∧ _ ∧ fb_X12_readsNumber_10 (nI s.p) (ro_loop (fun rec s' => fb_X12_readsNumber_10 (nI s.p) rec s') F) M = _ ∧ _) ∨ (_ ∧ ∃ M', fb_X12_readsNumber_10 (nI s.p) (ro_loop (fun rec s' => fb_X12_readsNumber_10 (nI s.p) rec s') F) M = _ ∧ _)
        generalize ro_loop (fun rec s' => fb_X12_readsNumber_10 (nI s.p) rec s') F = R at hih ⊢
        cases e : dg_ b n (s.p + k) with
        | none =>
          refine Or.inl ⟨k, M, by omega, hd, e, ?_, hM, h17⟩
          unfold fb_X12_readsNumber_10
          rw [rt_isDigit hTM h14 (by omega), Option.bind_some, e]
          exact if_pos rfl
        | some x =>
          obtain ⟨hx, hxn, hx3⟩ := dg_lt e
          have hd' : ∀ i, i < k + 1 → ¬ dg_ b n (s.p + i) = none := fun i hi => by
            by_cases c : i = k
            · rw [c, e]; intro z; cases z
            · exact hd i (by omega)
          have env : (10 : Int32) * nI (nu_ b s.p k) + nI (b (s.p + k)) - 48 = nI (nu_ b s.p (k + 1)) := by
            show nI 10 * nI (nu_ b s.p k) + nI (b (s.p + k)) - nI 48 = nI (10 * nu_ b s.p k + (b (s.p + k) - 48))
            rw [pk_mul, nI_add, pk_sub (by omega)]
            congr 1
            omega
          have hu : fb_X12_readsNumber_10 (nI s.p) R M = R (ro_set (ro_set M 207 17 (nI (nu_ b s.p (k + 1)))) 207 14 (nI (s.p + (k + 1)))) := by
            unfold fb_X12_readsNumber_10
            rw [rt_isDigit hTM h14 (by omega), Option.bind_some, e]
            show (if (1 : Int32) = 0 then _ else _) = _
            rw [if_neg rt_10, h14, show nI s.p + 5 = nI (s.p + 5) from nI_add s.p 5, if_neg (fun z => by have := (nI_eq (by omega) (by omega)).mp z; omega), rt_here hTM h14 (by omega), Option.bind_some]
            unfold ch_
            rw [if_pos hxn, h17, env, ro_lt, ro_set_same, pk_un (show ¬ 14 = 17 by decide), h14, nI_1, ro_lt]
            rfl
          rw [hu]
          exact hih _ (by omega) (by omega) hd' hM.v17.to (by rw [ro_set_same, pk_un (by decide), ro_set_same, pk_us])
  have h0 : RW m (s.to (s.p + 0)) W d (ro_set M 207 17 0) := h.v17
  unfold fn_X12_readsNumber
  rw [ro_lt, ro_lt, h.2.1]
  rcases key 5 0 (ro_set M 207 17 0) ro_FU (by omega) (by decide) (fun i hi => absurd hi (by omega)) h0 (by rw [ro_set_same, pk_us]; rfl) with ⟨k, M', a1, a2, a3, a4, a5, a6⟩ | ⟨a1, M', a2, a3⟩
  · have a4 : fl_X12_readsNumber_10 (nI s.p) (ro_set M 207 17 0) = some (.inr M') := a4
    rw [a4, Option.bind_some]
    exact Or.inl ⟨k, M', a1, a2, a3, rfl, a5, a6⟩
  · have a2 : fl_X12_readsNumber_10 (nI s.p) (ro_set M 207 17 0) = some (.inl M') := a2
    have h14 : M' 207 14 = nI (s.p + 5) := a3.2.1
    rw [a2, Option.bind_some]
    refine Or.inr ⟨a1, ro_set M' 207 16 (flt 2 (s.p + 5)), ?_, a3.1.set (Or.inr (Or.inl rfl)) _, by rw [ro_set_same, pk_us]⟩
    show ((fn_X12_wrongAt 2 (M' 207 14) M').bind fun q19 => if q19.1 = 0 ∨ q19.1 = 1 then (some (q19.1, q19.2)) else none) = _
    rw [h14, rt_wrong, Option.bind_some, if_pos (Or.inl rfl)]
end
