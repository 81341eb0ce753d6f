-- ===== the reference runs the law's code =====
def sp_finm (st : List Int32) : Option Int32 := match st with
  | [x] => some x
  | _ => none
def sp_evm (op ar lt : Nat → Int32) (to : Nat) : Nat → Nat → List Int32 → Option Int32
  | 0, k, st => if k < to then none else sp_finm st
  | n + 1, k, st =>
    if k < to then
      if op k = 8 ∨ op k = 9 then
        if 32 ≤ st.length ∨ (op k = 9 ∧ ¬ ro_in (ar k) 12) then none
        else sp_evm op ar lt to n (k + 1) ((if op k = 8 then ar k else lt (ar k).toNatClampNeg) :: st)
      else if op k < 10 then
        match st with
        | b :: a :: r => if b = 0 ∧ (op k = 3 ∨ op k = 4) then some 0 else sp_evm op ar lt to n (k + 1) (sp_rk (op k) a b :: r)
        | _ => none
      else
        match st with
        | [] => none
        | y :: r => if op k = 10 then sp_evm op ar lt to n (k + 1) ((1 - y) :: r)
          else if y = (if op k = 12 then 1 else 0) then sp_evm op ar lt to n (ar k).toNatClampNeg (y :: r)
          else sp_evm op ar lt to n (k + 1) r
    else sp_finm st
def rt_endM (q : ro_Mem ⊕ ro_Mem) : Option (Int32 × ro_Mem) := q.elim (fun e47 => some (0, e47)) (fun e48 => some (e48 239 (0 : Int32).toNatClampNeg, e48))
theorem rt_cmL {to lo : Nat} {μ : ro_Mem} {op ar lt : Nat → Int32} (hcm : ∀ k w v, lo ≤ k → k < to → op k = nI w → ar k = nI v → w ≤ 12 → v < 1048576 → μ 234 k = nI (1048576 * iv_mop w + v)) (hlt : lt = μ 240) (hto : to ≤ 200) (hcd : cd_ok op ar lo to) : ∀ (n k : Nat) (st : List Int32) (m : ro_Mem) (fuel : Nat) (x : Int32), lo ≤ k → k < 2 ^ 30 → st.length ≤ 32 → (∀ o, ¬ o = 239 → m o = μ o) → sp_stk (m 239) st → n < fuel → sp_evm op ar lt to n k st = some x → ∃ m', (ro_loop (fun rec s => fb_X12_comesTo_16 (nI to) 0 rec s.1 s.2.1 s.2.2) fuel (nI st.length, nI k, m)).bind rt_endM = some (x, m') ∧ ∀ o, ¬ o = 239 → m' o = μ o := by
  have fin : ∀ (st : List Int32) (m : ro_Mem) (x : Int32), sp_stk (m 239) st → sp_finm st = some x → rt_endM (.inr m) = some (x, m) := by
    intro st m x hs h
    match st, hs, h with
    | [y], hs, h =>
      cases h
      have : m 239 0 = x := hs.1
      show some (m 239 (0 : Int32).toNatClampNeg, m) = _
      rw [show (0 : Int32).toNatClampNeg = 0 from rfl, this]
  intro n
  induction n with
  | zero =>
    intro k st m fuel x _ hk2 hl hm hs hf h
    obtain ⟨f, rfl⟩ : ∃ f, fuel = f + 1 := ⟨fuel - 1, by omega⟩
    unfold sp_evm at h
    by_cases hkt : k < to
    · rw [if_pos hkt] at h; cases h
    · rw [if_neg hkt] at h
      refine ⟨m, ?_, hm⟩
      show (fb_X12_comesTo_16 (nI to) 0 _ (nI st.length) (nI k) m).bind rt_endM = _
      unfold fb_X12_comesTo_16
      rw [if_pos (nI_le (by omega) (by omega)), Option.bind_some, fin st m x hs h]
  | succ n ih =>
    intro k st m fuel x hk hk2 hl hm hs hf h
    obtain ⟨f, rfl⟩ : ∃ f, fuel = f + 1 := ⟨fuel - 1, by omega⟩
    show ∃ m', (fb_X12_comesTo_16 (nI to) 0 (ro_loop (fun rec s => fb_X12_comesTo_16 (nI to) 0 rec s.1 s.2.1 s.2.2) f) (nI st.length) (nI k) m).bind rt_endM = _ ∧ _
    generalize hrec : ro_loop (fun rec s => fb_X12_comesTo_16 (nI to) 0 rec s.1 s.2.1 s.2.2) f = rec
    have ih' : ∀ (k : Nat) (st : List Int32) (m : ro_Mem), lo ≤ k → k < 2 ^ 30 → st.length ≤ 32 → (∀ o, ¬ o = 239 → m o = μ o) → sp_stk (m 239) st → sp_evm op ar lt to n k st = some x → ∃ m', (rec (nI st.length, nI k, m)).bind rt_endM = some (x, m') ∧ ∀ o, ¬ o = 239 → m' o = μ o := by
      intro k st m a1 a2 a3 a4 a5 a6
      rw [← hrec]
      exact ih k st m f x a1 a2 a3 a4 a5 (by omega) a6
    unfold fb_X12_comesTo_16
    unfold sp_evm at h
    by_cases hkt : k < to
    · rw [if_pos hkt] at h
      rw [if_neg (nI_ge hkt (by omega)), if_pos (rt_in (n := 220) (by omega) (by decide)), nI_clamp (by omega)]
      obtain ⟨w, v, hw, hv, ew, ev, hj⟩ := hcd k hk hkt
      have hmo : iv_mop w ≤ 12 := by
        unfold iv_mop
        by_cases c : w < 8
        · rw [if_pos c]; omega
        · rw [if_neg c]
          by_cases c : w = 8
          · rw [if_pos c]; omega
          · rw [if_neg c]
            by_cases c : w = 9
            · rw [if_pos c]; omega
            · rw [if_neg c]; exact hw
      have m1 : m 234 k = nI (1048576 * iv_mop w + v) := by rw [hm _ (by omega), hcm k w v hk hkt ew ev hw hv]
      have m7 : m 240 = lt := by rw [hm _ (by omega), hlt]
      have z5 : nI (1048576 * iv_mop w + v) / 1048576 = nI (iv_mop w) := by
        show _ / nI 1048576 = _
        rw [pk_div (by omega) (by decide) (by decide)]
        congr 1; omega
      have z7 : ro_rem (nI (1048576 * iv_mop w + v)) 1048576 = nI v := by
        show _ - _ / nI 1048576 * nI 1048576 = _
        rw [pk_rem (by omega) (by decide) (by decide)]
        congr 1; omega
      rw [m1, z5, z7]
      simp only [ro_lt]
      rw [ew, ev] at h
      rw [nI_1]
      have push : ∀ x0, st.length < 32 → sp_evm op ar lt to n (k + 1) (x0 :: st) = some x → ∃ m', (rec (nI (st.length + 1), nI (k + 1), ro_set m 239 st.length x0)).bind rt_endM = some (x, m') ∧ ∀ o, ¬ o = 239 → m' o = μ o := fun x0 hx h => by
        refine ih' (k + 1) (x0 :: st) _ (by omega) (by omega) (by simp; omega) (fun o ho => ?_) ?_ h
        · rw [ro_set_ne _ _ _ ho, hm o ho]
        · rw [ro_set_same]
          exact sp_stk_put hs x0
      by_cases w8 : w = 8
      · subst w8
        rw [if_pos (show nI 8 = 8 ∨ nI 8 = 9 from Or.inl rfl)] at h
        by_cases h32 : 32 ≤ st.length ∨ nI 8 = 9 ∧ ¬ ro_in (nI v) 12
        · rw [if_pos h32] at h; cases h
        · rw [if_neg h32, if_pos (show nI 8 = 8 from rfl)] at h
          have hl3 : st.length < 32 := by
            rcases Nat.lt_or_ge st.length 32 with q | q
            · exact q
            · exact absurd (Or.inl q) h32
          rw [if_pos (show nI (iv_mop 8) = 0 from rfl)]
          unfold fj_X12_comesTo_65
          rw [if_pos (show nI (iv_mop 8) = 0 from rfl)]
          unfold fj_X12_comesTo_87
          rw [if_pos (rt_in (by omega) (by decide)), nI_clamp (by omega)]
          show ∃ m', (rec (nI st.length + 1, nI (k + 1), ro_set m 239 st.length (nI v))).bind rt_endM = _ ∧ _
          rw [nI_1]
          exact push _ hl3 h
      by_cases w9 : w = 9
      · subst w9
        rw [if_pos (show nI 9 = 8 ∨ nI 9 = 9 from Or.inr rfl)] at h
        by_cases h32 : 32 ≤ st.length ∨ nI 9 = 9 ∧ ¬ ro_in (nI v) 12
        · rw [if_pos h32] at h; cases h
        · rw [if_neg h32, if_neg (show ¬ nI 9 = 8 by decide)] at h
          have hl3 : st.length < 32 := by
            rcases Nat.lt_or_ge st.length 32 with q | q
            · exact q
            · exact absurd (Or.inl q) h32
          have hin : ro_in (nI v) 12 := Decidable.byContradiction (fun q => h32 (Or.inr ⟨rfl, q⟩))
          rw [if_neg (show ¬ nI (iv_mop 9) = 0 by decide), if_pos (show nI (iv_mop 9) = 1 from rfl)]
          unfold fj_X12_comesTo_65
          rw [if_neg (show ¬ nI (iv_mop 9) = 0 by decide), if_pos hin, m7]
          unfold fj_X12_comesTo_87
          rw [if_pos (rt_in (by omega) (by decide)), nI_clamp (by omega)]
          show ∃ m', (rec (nI st.length + 1, nI (k + 1), ro_set m 239 st.length _)).bind rt_endM = _ ∧ _
          rw [nI_1]
          exact push _ hl3 h
      rw [if_neg (show ¬ (nI w = 8 ∨ nI w = 9) from fun h => h.elim (rt_ne (c := 8) (by omega) (by decide) w8) (rt_ne (c := 9) (by omega) (by decide) w9))] at h
      by_cases w10 : w < 10
      · have w8' : w < 8 := by omega
        have hmop : iv_mop w = w + 2 := if_pos w8'
        have hlt10 : nI w < (10 : Int32) := nI_lt (b := 10) w10 (by decide)
        rw [if_pos hlt10] at h
        rw [hmop, if_neg (show ¬ nI (w + 2) = 0 from rt_ne (c := 0) (by omega) (by decide) (by omega)), if_neg (show ¬ nI (w + 2) = 1 from rt_ne (c := 1) (by omega) (by decide) (by omega)), if_neg (show ¬ nI (w + 2) = 10 from rt_ne (c := 10) (by omega) (by decide) (by omega)), if_neg (show ¬ nI (w + 2) = 11 from rt_ne (c := 11) (by omega) (by decide) (by omega)), if_neg (show ¬ nI (w + 2) = 12 from rt_ne (c := 12) (by omega) (by decide) (by omega))]
        match st, hs, hl, ih', push, h with
        | y :: z :: r, hs, hl, ih', push, h =>
          have hl2 : r.length + 1 + 1 ≤ 32 := hl
          have sy : m 239 (r.length + 1) = y := hs.1
          have sz : m 239 r.length = z := hs.2.1
          have hm1 : nI (y :: z :: r).length - 1 = nI (r.length + 1) := nI_pred _
          have hm2 : nI (r.length + 1) - 1 = nI r.length := nI_pred _
          have h : (if y = 0 ∧ (nI w = 3 ∨ nI w = 4) then some 0 else sp_evm op ar lt to n (k + 1) (sp_rk (nI w) z y :: r)) = some x := h
          have go : ¬ (y = 0 ∧ (nI w = 3 ∨ nI w = 4)) → ∃ m', (fj_X12_comesTo_205 rec (nI to) (nI (r.length + 1)) 0 (nI (k + 1)) (nI (w + 2)) m).bind rt_endM = some (x, m') ∧ ∀ o, ¬ o = 239 → m' o = μ o := by
            intro hno
            rw [if_neg hno] at h
            unfold fj_X12_comesTo_205
            rw [hm2, if_pos (rt_in (by omega) (by decide)), if_pos (rt_in (by omega) (by decide)), nI_clamp (by omega), nI_clamp (by omega), sz, sy, rt_reckonM w8' hno, Option.bind_some]
            refine ih' (k + 1) (sp_rk (nI w) z y :: r) _ (by omega) (by omega) (by simp; omega) (fun o ho => ?_) ?_ h
            · rw [ro_set_ne _ _ _ ho, hm o ho]
            · rw [ro_set_same]
              exact sp_stk_put hs.2.2 _
          rw [hm1]
          have e5 : (nI (w + 2) = 5) = (nI w = 3) := by
            apply propext
            show nI (w + 2) = nI 5 ↔ nI w = nI 3
            rw [nI_eq (by omega) (by decide), nI_eq (by omega) (by decide)]; omega
          have e6 : (nI (w + 2) = 6) = (nI w = 4) := by
            apply propext
            show nI (w + 2) = nI 6 ↔ nI w = nI 4
            rw [nI_eq (by omega) (by decide), nI_eq (by omega) (by decide)]; omega
          have j194 : (nI w = 3 ∨ nI w = 4) → ∃ m', (fj_X12_comesTo_194 rec (nI to) (nI (r.length + 1)) 0 (nI (k + 1)) (nI (w + 2)) m).bind rt_endM = some (x, m') ∧ ∀ o, ¬ o = 239 → m' o = μ o := by
            intro h34
            unfold fj_X12_comesTo_194
            rw [if_pos (rt_in (by omega) (by decide)), nI_clamp (by omega), sy]
            by_cases hy : y = 0
            · rw [if_pos ⟨hy, h34⟩] at h
              cases h
              rw [if_pos hy]
              exact ⟨m, rfl, hm⟩
            · rw [if_neg hy]
              exact go (fun q => hy q.1)
          by_cases h3 : nI w = 3
          · rw [if_pos (e5 ▸ h3)]
            exact j194 (Or.inl h3)
          · rw [if_neg (e5 ▸ h3)]
            by_cases h4 : nI w = 4
            · rw [if_pos (e6 ▸ h4)]
              exact j194 (Or.inr h4)
            · rw [if_neg (e6 ▸ h4)]
              exact go (fun q => q.2.elim h3 h4)
        | [], _, _, _, _, h => cases h
        | [_], _, _, _, _, h => cases h
      · have hge : ¬ nI w < (10 : Int32) := nI_nlt (b := 10) (by omega) (by omega)
        rw [if_neg hge] at h
        have hmop : iv_mop w = w := by
          unfold iv_mop
          rw [if_neg (by omega), if_neg w8, if_neg w9]
        rw [hmop, if_neg (show ¬ nI w = 0 from rt_ne (c := 0) (by omega) (by decide) (by omega)), if_neg (show ¬ nI w = 1 from rt_ne (c := 1) (by omega) (by decide) (by omega))]
        match st, hs, hl, ih', h with
        | y :: r, hs, hl, ih', h =>
          have hl2 : r.length + 1 ≤ 32 := hl
          have sy : m 239 r.length = y := hs.1
          have hm2 : nI (y :: r).length - 1 = nI r.length := nI_pred _
          have h : (if nI w = 10 then sp_evm op ar lt to n (k + 1) ((1 - y) :: r) else if y = (if nI w = 12 then 1 else 0) then sp_evm op ar lt to n (nI v).toNatClampNeg (y :: r) else sp_evm op ar lt to n (k + 1) r) = some x := h
          rw [nI_clamp (show v < 2 ^ 31 by omega)] at h
          by_cases e10 : nI w = 10
          · rw [if_pos e10] at h
            rw [if_pos e10, hm2, if_pos (rt_in (by omega) (by decide)), nI_clamp (by omega), sy]
            refine ih' (k + 1) ((1 - y) :: r) _ (by omega) (by omega) (by simp; omega) (fun o ho => ?_) ?_ h
            · rw [ro_set_ne _ _ _ ho, hm o ho]
            · rw [ro_set_same]
              exact sp_stk_put hs.2 _
          · rw [if_neg e10] at h
            have h11 : 11 ≤ w := by
              have : ¬ w = 10 := fun e => e10 (by rw [e]; rfl)
              omega
            have j137 : ∃ m', (fj_X12_comesTo_137 rec (nI to) (nI (y :: r).length) 0 (nI (k + 1)) (nI w) (nI v) m).bind rt_endM = some (x, m') ∧ ∀ o, ¬ o = 239 → m' o = μ o := by
              unfold fj_X12_comesTo_137
              rw [hm2, if_pos (rt_in (by omega) (by decide)), nI_clamp (by omega), sy]
              have j157 : ∀ t, y = t ∧ (if nI w = 12 then (1 : Int32) else 0) = t ∨ ¬ y = t ∧ (if nI w = 12 then (1 : Int32) else 0) = t → ∃ m', (fj_X12_comesTo_157 rec (nI to) (nI (y :: r).length) 0 (nI (k + 1)) (nI v) y t m).bind rt_endM = some (x, m') ∧ ∀ o, ¬ o = 239 → m' o = μ o := by
                intro t ht
                unfold fj_X12_comesTo_157
                simp only [ro_lt]
                rcases ht with ⟨h1, h2⟩ | ⟨h1, h2⟩
                · rw [if_pos (h1.trans h2.symm)] at h
                  rw [if_pos h1, show (0 : Int32) + nI v = nI v from Int32.zero_add _]
                  exact ih' v (y :: r) m (by have := hj h11; omega) (by omega) (by simp; omega) hm hs h
                · rw [if_neg (fun q => h1 (q.trans h2))] at h
                  rw [if_neg h1, hm2]
                  exact ih' (k + 1) r m (by omega) (by omega) (by omega) hm hs.2 h
              by_cases e12 : nI w = 12
              · rw [if_pos e12]
                refine j157 1 ?_
                rw [if_pos e12]
                by_cases hy : y = 1
                · exact Or.inl ⟨hy, rfl⟩
                · exact Or.inr ⟨hy, rfl⟩
              · rw [if_neg e12]
                refine j157 0 ?_
                rw [if_neg e12]
                by_cases hy : y = 0
                · exact Or.inl ⟨hy, rfl⟩
                · exact Or.inr ⟨hy, rfl⟩
            rw [if_neg e10]
            by_cases e11 : nI w = 11
            · rw [if_pos e11]; exact j137
            · have e12 : nI w = 12 := by
                have : ¬ w = 11 := fun e => e11 (by rw [e]; rfl)
                have : w = 12 := by omega
                rw [this]; rfl
              rw [if_neg e11, if_pos e12]; exact j137
        | [], _, _, _, h => cases h
    · rw [if_neg hkt] at h
      rw [if_pos (nI_le (by omega) (by omega)), Option.bind_some, fin st m x hs h]
      exact ⟨m, rfl, hm⟩
theorem rt_comesTo {to lo : Nat} {μ : ro_Mem} {op ar lt : Nat → Int32} (hcm : ∀ k w v, lo ≤ k → k < to → op k = nI w → ar k = nI v → w ≤ 12 → v < 1048576 → μ 234 k = nI (1048576 * iv_mop w + v)) (hlt : lt = μ 240) (hto : to ≤ 200) (hlo : lo ≤ 200) (hcd : cd_ok op ar lo to) {x : Int32} (h : sp_evm op ar lt to 200 lo [] = some x) : ∃ m', fn_X12_comesTo (nI lo) (nI to) μ = some (x, m') ∧ ∀ o, ¬ o = 239 → m' o = μ o := by
  obtain ⟨m', h1, h2⟩ := rt_cmL hcm hlt hto hcd 200 lo [] μ ro_FU x (Nat.le_refl _) (by omega) (by simp) (fun _ _ => rfl) trivial (by decide) h
  refine ⟨m', ?_, h2⟩
  have e : (220 : Int32) * (nI lo / 220) = 0 := by
    show nI 220 * (nI lo / nI 220) = 0
    rw [pk_div (by omega) (by decide) (by decide), show lo / 220 = 0 by omega]
    rfl
  unfold fn_X12_comesTo
  rw [e]
  exact h1
