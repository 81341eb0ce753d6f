-- ===== both machines come to the same over code that is in order =====
theorem sp_ev_s {op ar lt : Nat → Int32} {to n k : Nat} {st : List Int32} : sp_ev op ar lt to (n + 1) k st = if k < to ∧ k < 200 then
      if op k = 8 ∨ op k = 9 then
        if 32 ≤ st.length ∨ (op k = 9 ∧ ¬ ro_in (ar k) 12) then 0
        else sp_ev op ar lt to n (k + 1) ((if op k = 8 then ar k else lt (ar k).toNatClampNeg) :: st)
      else if op k < 10 then
        match st with
        | b :: a :: r => if b = 0 ∧ (op k = 3 ∨ op k = 4) then 0 else sp_ev op ar lt to n (k + 1) (sp_rk (op k) a b :: r)
        | _ => 0
      else
        match st with
        | [] => 0
        | y :: r => if op k = 10 then sp_ev op ar lt to n (k + 1) ((if y = 0 then 1 else 0) :: r)
          else if (¬ y = 0) ↔ op k = 12 then sp_ev op ar lt to n (ar k).toNatClampNeg (y :: r)
          else sp_ev op ar lt to n (k + 1) r
    else sp_fin st := by
  rfl
theorem sp_evm_s {op ar lt : Nat → Int32} {to n k : Nat} {st : List Int32} : sp_evm op ar lt to (n + 1) k st = if k < to then
      if op k = 8 ∨ op k = 9 then
        if 32 ≤ st.length ∨ (op k = 9 ∧ ¬ ro_in (ar k) 12) then none
        else sp_evm op ar lt to n (k + 1) ((if op k = 8 then ar k else lt (ar k).toNatClampNeg) :: st)
      else if op k < 10 then
        match st with
        | b :: a :: r => if b = 0 ∧ (op k = 3 ∨ op k = 4) then some 0 else sp_evm op ar lt to n (k + 1) (sp_rk (op k) a b :: r)
        | _ => none
      else
        match st with
        | [] => none
        | y :: r => if op k = 10 then sp_evm op ar lt to n (k + 1) ((1 - y) :: r)
          else if y = (if op k = 12 then 1 else 0) then sp_evm op ar lt to n (ar k).toNatClampNeg (y :: r)
          else sp_evm op ar lt to n (k + 1) r
    else sp_finm st := by
  rfl
theorem sg_E_lt {op ar : Nat → Int32} : ∀ {n s a b : Nat}, sg_E op ar n s a b → a < b ∧ 1 ≤ s := by
  intro n
  induction n with
  | zero => intro s a b h; exact h.elim
  | succ n ih =>
    intro s a b h
    rcases h with ⟨h, h2, -⟩ | ⟨m, w, h1, h2, -, -, h3, -⟩
    · omega
    · omega
theorem sg_C_lt {op ar : Nat → Int32} : ∀ {n a b : Nat}, sg_C op ar n a b → a < b := by
  intro n
  cases n with
  | zero => intro a b h; exact h.elim
  | succ n =>
    intro a b h
    rcases h with ⟨m, w, h1, h2, -⟩ | ⟨h1, -⟩ | ⟨m, h1, h2, -⟩ <;> omega
theorem sg_E_no {op ar : Nat → Int32} : ∀ {n s a b : Nat}, sg_E op ar n s a b → ∀ k, a ≤ k → k < b → ¬ op k = 11 ∧ ¬ op k = 12 := by
  intro n
  induction n with
  | zero => intro s a b h; exact h.elim
  | succ n ih =>
    intro s a b h k hk hk2
    rcases h with ⟨h, -, h2⟩ | ⟨m, w, h1, h2, hw, ho, h3, h4, h5⟩
    · have : k = a := by omega
      subst this
      rcases h2 with h2 | ⟨h2, -⟩ <;> rw [h2] <;> exact ⟨by decide, by decide⟩
    · by_cases c1 : k < m
      · exact ih h4 k hk c1
      · by_cases c2 : k < b - 1
        · exact ih h5 k (by omega) c2
        · have : k = b - 1 := by omega
          subst this
          rw [ho]
          exact ⟨rt_ne (c := 11) (by omega) (by decide) (by omega), rt_ne (c := 12) (by omega) (by decide) (by omega)⟩
theorem sg_C_j {op ar : Nat → Int32} : ∀ {n a b : Nat}, sg_C op ar n a b → ∀ k, a ≤ k → k < b → (op k = 11 ∨ op k = 12) → ∃ v, ar k = nI v ∧ k < v ∧ v ≤ b := by
  intro n
  induction n with
  | zero => intro a b h; exact h.elim
  | succ n ih =>
    intro a b h k hk hk2 ho
    rcases h with ⟨m, w, h1, h2, hw, hw2, hop, h3, h4⟩ | ⟨h1, hop, h3⟩ | ⟨m, h1, h2, hop, har, h3, h4⟩
    · exfalso
      by_cases c1 : k < m
      · have := sg_E_no h3 k hk c1
        exact ho.elim this.1 this.2
      · by_cases c2 : k < b - 1
        · have := sg_E_no h4 k (by omega) c2
          exact ho.elim this.1 this.2
        · have : k = b - 1 := by omega
          subst this
          rw [hop] at ho
          exact ho.elim (rt_ne (c := 11) (by omega) (by decide) (by omega)) (rt_ne (c := 12) (by omega) (by decide) (by omega))
    · by_cases c2 : k < b - 1
      · obtain ⟨v, e, h5, h6⟩ := ih h3 k hk c2 ho
        exact ⟨v, e, h5, by omega⟩
      · have : k = b - 1 := by omega
        subst this
        rw [hop] at ho
        exact absurd ho (by decide)
    · by_cases c1 : k < m
      · obtain ⟨v, e, h5, h6⟩ := ih h3 k hk c1 ho
        exact ⟨v, e, h5, by omega⟩
      · by_cases c2 : k = m
        · subst c2
          exact ⟨b, har, by omega, Nat.le_refl _⟩
        · obtain ⟨v, e, h5, h6⟩ := ih h4 k (by omega) hk2 ho
          exact ⟨v, e, h5, by omega⟩
theorem sp_ev_op {op ar lt : Nat → Int32} {to k w n : Nat} {x y : Int32} {r : List Int32} (hk : k < to) (hk2 : k < 200) (ho : op k = nI w) (hw : w < 8) : sp_ev op ar lt to (n + 1) k (y :: x :: r) = (if y = 0 ∧ (nI w = 3 ∨ nI w = 4) then 0 else sp_ev op ar lt to n (k + 1) (sp_rk (nI w) x y :: r)) ∧ sp_evm op ar lt to (n + 1) k (y :: x :: r) = (if y = 0 ∧ (nI w = 3 ∨ nI w = 4) then some 0 else sp_evm op ar lt to n (k + 1) (sp_rk (nI w) x y :: r)) := by
  have h89 : ¬ (nI w = 8 ∨ nI w = 9) := fun h => h.elim (rt_ne (c := 8) (by omega) (by decide) (by omega)) (rt_ne (c := 9) (by omega) (by decide) (by omega))
  have h10 : nI w < (10 : Int32) := nI_lt (b := 10) (by omega) (by decide)
  constructor
  · rw [sp_ev_s, if_pos ⟨hk, hk2⟩, ho, if_neg h89, if_pos h10]
  · rw [sp_evm_s, if_pos hk, ho, if_neg h89, if_pos h10]
theorem sg_E_run {op ar lt : Nat → Int32} {to : Nat} (hto : to ≤ 200) : ∀ {n s a b : Nat}, sg_E op ar n s a b → b ≤ to → ∃ r : Option Int32, ∀ (st : List Int32) (fuel : Nat), st.length + s ≤ 32 → b - a ≤ fuel → sp_ev op ar lt to fuel a st = r.elim 0 (fun v => sp_ev op ar lt to (fuel - (b - a)) b (v :: st)) ∧ sp_evm op ar lt to fuel a st = r.elim (some 0) (fun v => sp_evm op ar lt to (fuel - (b - a)) b (v :: st)) := by
  intro n
  induction n with
  | zero => intro s a b h; exact h.elim
  | succ n ih =>
    intro s a b h hb
    rcases h with ⟨h, hs, h2⟩ | ⟨m, w, h1, h2, hw, ho, h3, h4, h5⟩
    · subst h
      refine ⟨some (if op a = 8 then ar a else lt (ar a).toNatClampNeg), fun st fuel hl hf => ?_⟩
      obtain ⟨f, rfl⟩ : ∃ f, fuel = f + 1 := ⟨fuel - 1, by omega⟩
      have h89 : op a = 8 ∨ op a = 9 := h2.elim Or.inl (fun q => Or.inr q.1)
      have hno : ¬ (32 ≤ st.length ∨ op a = 9 ∧ ¬ ro_in (ar a) 12) := by
        rintro (q | q)
        · omega
        · rcases h2 with h2 | h2
          · rw [h2] at q; exact absurd q.1 (by decide)
          · exact q.2 h2.2
      rw [show f + 1 - (a + 1 - a) = f by omega]
      constructor
      · rw [sp_ev_s, if_pos ⟨by omega, by omega⟩, if_pos h89, if_neg hno]; rfl
      · rw [sp_evm_s, if_pos (by omega), if_pos h89, if_neg hno]; rfl
    · obtain ⟨r1, g1⟩ := ih h4 (by omega)
      obtain ⟨r2, g2⟩ := ih h5 (by omega)
      cases r1 with
      | none =>
        refine ⟨none, fun st fuel hl hf => ?_⟩
        obtain ⟨q1, q2⟩ := g1 st fuel hl (by omega)
        exact ⟨q1, q2⟩
      | some v1 =>
        cases r2 with
        | none =>
          refine ⟨none, fun st fuel hl hf => ?_⟩
          obtain ⟨q1, q2⟩ := g1 st fuel hl (by omega)
          obtain ⟨p1, p2⟩ := g2 (v1 :: st) (fuel - (m - a)) (by simp; omega) (by omega)
          exact ⟨q1.trans p1, q2.trans p2⟩
        | some v2 =>
          by_cases hz : v2 = 0 ∧ (nI w = 3 ∨ nI w = 4)
          · refine ⟨none, fun st fuel hl hf => ?_⟩
            obtain ⟨q1, q2⟩ := g1 st fuel hl (by omega)
            obtain ⟨p1, p2⟩ := g2 (v1 :: st) (fuel - (m - a)) (by simp; omega) (by omega)
            obtain ⟨f, hf2⟩ : ∃ f, fuel - (m - a) - (b - 1 - m) = f + 1 := ⟨fuel - (m - a) - (b - 1 - m) - 1, by omega⟩
            obtain ⟨o1, o2⟩ := sp_ev_op (ar := ar) (lt := lt) (to := to) (n := f) (x := v1) (y := v2) (r := st) (k := b - 1) (by omega) (by omega) ho (by omega)
            rw [if_pos hz] at o1 o2
            rw [hf2] at p1 p2
            exact ⟨(q1.trans p1).trans o1, (q2.trans p2).trans o2⟩
          · refine ⟨some (sp_rk (nI w) v1 v2), fun st fuel hl hf => ?_⟩
            obtain ⟨q1, q2⟩ := g1 st fuel hl (by omega)
            obtain ⟨p1, p2⟩ := g2 (v1 :: st) (fuel - (m - a)) (by simp; omega) (by omega)
            obtain ⟨f, hf2⟩ : ∃ f, fuel - (m - a) - (b - 1 - m) = f + 1 := ⟨fuel - (m - a) - (b - 1 - m) - 1, by omega⟩
            obtain ⟨o1, o2⟩ := sp_ev_op (ar := ar) (lt := lt) (to := to) (n := f) (x := v1) (y := v2) (r := st) (k := b - 1) (by omega) (by omega) ho (by omega)
            rw [if_neg hz] at o1 o2
            rw [hf2] at p1 p2
            have e1 : b - 1 + 1 = b := by omega
            have e2 : fuel - (b - a) = f := by omega
            rw [e1] at o1 o2
            rw [e2]
            exact ⟨(q1.trans p1).trans o1, (q2.trans p2).trans o2⟩
theorem sp_rk_01 {w : Nat} {x y : Int32} (h1 : 5 ≤ w) (h2 : w ≤ 7) : sp_rk (nI w) x y = 0 ∨ sp_rk (nI w) x y = 1 := by
  unfold sp_rk
  rw [if_neg (show ¬ nI w = 0 from rt_ne (c := 0) (by omega) (by decide) (by omega)), if_neg (show ¬ nI w = 1 from rt_ne (c := 1) (by omega) (by decide) (by omega)), if_neg (show ¬ nI w = 2 from rt_ne (c := 2) (by omega) (by decide) (by omega)), if_neg (show ¬ nI w = 3 from rt_ne (c := 3) (by omega) (by decide) (by omega)), if_neg (show ¬ nI w = 4 from rt_ne (c := 4) (by omega) (by decide) (by omega))]
  by_cases c5 : nI w = 5
  · rw [if_pos c5]
    by_cases c : y ≤ x
    · rw [if_pos c]; exact Or.inl rfl
    · rw [if_neg c]; exact Or.inr rfl
  · rw [if_neg c5]
    by_cases c6 : nI w = 6
    · rw [if_pos c6]
      by_cases c : x ≤ y
      · rw [if_pos c]; exact Or.inl rfl
      · rw [if_neg c]; exact Or.inr rfl
    · rw [if_neg c6]
      by_cases c : x = y
      · rw [if_pos c]; exact Or.inr rfl
      · rw [if_neg c]; exact Or.inl rfl
theorem sg_C_run {op ar lt : Nat → Int32} {to : Nat} (hto : to ≤ 200) : ∀ {n a b : Nat}, sg_C op ar n a b → b ≤ to → ∃ r : Option Int32, (∀ v, r = some v → v = 0 ∨ v = 1) ∧ ∀ (fuel : Nat), b - a ≤ fuel → ∃ f', fuel ≤ f' + (b - a) ∧ sp_ev op ar lt to fuel a [] = r.elim 0 (fun v => sp_ev op ar lt to f' b [v]) ∧ sp_evm op ar lt to fuel a [] = r.elim (some 0) (fun v => sp_evm op ar lt to f' b [v]) := by
  intro n
  induction n with
  | zero => intro a b h; exact h.elim
  | succ n ih =>
    intro a b h hb
    rcases h with ⟨m, w, h1, h2, hw, hw2, ho, h4, h5⟩ | ⟨h1, ho, h3⟩ | ⟨m, h1, h2, ho, har, h3, h4⟩
    · obtain ⟨r1, g1⟩ := sg_E_run (lt := lt) hto h4 (by omega)
      obtain ⟨r2, g2⟩ := sg_E_run (lt := lt) hto h5 (by omega)
      cases r1 with
      | none =>
        refine ⟨none, (fun v h => by cases h), fun fuel hf => ⟨fuel, by omega, ?_⟩⟩
        exact g1 [] fuel (by simp) (by omega)
      | some v1 =>
        cases r2 with
        | none =>
          refine ⟨none, (fun v h => by cases h), fun fuel hf => ⟨fuel, by omega, ?_⟩⟩
          obtain ⟨q1, q2⟩ := g1 [] fuel (by simp) (by omega)
          obtain ⟨p1, p2⟩ := g2 [v1] (fuel - (m - a)) (by simp) (by omega)
          exact ⟨q1.trans p1, q2.trans p2⟩
        | some v2 =>
          have hz : ¬ (v2 = 0 ∧ (nI w = 3 ∨ nI w = 4)) := fun q => q.2.elim (rt_ne (c := 3) (by omega) (by decide) (by omega)) (rt_ne (c := 4) (by omega) (by decide) (by omega))
          refine ⟨some (sp_rk (nI w) v1 v2), (fun v h => by cases h; exact sp_rk_01 hw hw2), fun fuel hf => ⟨fuel - (b - a), by omega, ?_⟩⟩
          obtain ⟨q1, q2⟩ := g1 [] fuel (by simp) (by omega)
          obtain ⟨p1, p2⟩ := g2 [v1] (fuel - (m - a)) (by simp) (by omega)
          obtain ⟨f, hf2⟩ : ∃ f, fuel - (m - a) - (b - 1 - m) = f + 1 := ⟨fuel - (m - a) - (b - 1 - m) - 1, by omega⟩
          obtain ⟨o1, o2⟩ := sp_ev_op (ar := ar) (lt := lt) (to := to) (n := f) (x := v1) (y := v2) (r := []) (k := b - 1) (by omega) (by omega) ho (by omega)
          rw [if_neg hz] at o1 o2
          rw [hf2] at p1 p2
          have e1 : b - 1 + 1 = b := by omega
          have e2 : fuel - (b - a) = f := by omega
          rw [e1] at o1 o2
          rw [e2]
          exact ⟨(q1.trans p1).trans o1, (q2.trans p2).trans o2⟩
    · obtain ⟨r, hr, g⟩ := ih h3 (by omega)
      have n89 : ¬ (op (b - 1) = 8 ∨ op (b - 1) = 9) := by rw [ho]; decide
      have n10 : ¬ op (b - 1) < 10 := by rw [ho]; decide
      cases r with
      | none =>
        refine ⟨none, (fun v h => by cases h), fun fuel hf => ?_⟩
        obtain ⟨f', hf', q1, q2⟩ := g fuel (by omega)
        exact ⟨f', by omega, q1, q2⟩
      | some v =>
        refine ⟨some (if v = 0 then 1 else 0), fun u h => ?_, fun fuel hf => ?_⟩
        · cases h
          by_cases c : v = 0
          · rw [if_pos c]; exact Or.inr rfl
          · rw [if_neg c]; exact Or.inl rfl
        · obtain ⟨f', hf', q1, q2⟩ := g fuel (by omega)
          obtain ⟨f, rfl⟩ : ∃ f, f' = f + 1 := ⟨f' - 1, by omega⟩
          have e1 : b - 1 + 1 = b := by omega
          have hv : (1 : Int32) - v = if v = 0 then 1 else 0 := by
            rcases hr v rfl with rfl | rfl <;> decide
          refine ⟨f, by omega, q1.trans ?_, q2.trans ?_⟩
          · show sp_ev op ar lt to (f + 1) (b - 1) [v] = _
            rw [sp_ev_s, if_pos ⟨by omega, by omega⟩, if_neg n89, if_neg n10]
            show (if op (b - 1) = 10 then _ else _) = _
            rw [if_pos ho, e1]
            rfl
          · show sp_evm op ar lt to (f + 1) (b - 1) [v] = _
            rw [sp_evm_s, if_pos (by omega), if_neg n89, if_neg n10]
            show (if op (b - 1) = 10 then _ else _) = _
            rw [if_pos ho, e1, hv]
            rfl
    · obtain ⟨r, hr, g⟩ := ih h3 (by omega)
      obtain ⟨r2, hr2, g2⟩ := ih h4 (by omega)
      have n89 : ¬ (op m = 8 ∨ op m = 9) := by rcases ho with ho | ho <;> rw [ho] <;> decide
      have n10 : ¬ op m < 10 := by rcases ho with ho | ho <;> rw [ho] <;> decide
      have e10 : ¬ op m = 10 := by rcases ho with ho | ho <;> rw [ho] <;> decide
      cases r with
      | none =>
        refine ⟨none, (fun v h => by cases h), fun fuel hf => ?_⟩
        obtain ⟨f', hf', q1, q2⟩ := g fuel (by omega)
        exact ⟨f', by omega, q1, q2⟩
      | some v =>
        have hv01 := hr v rfl
        have step1 : ∀ f, sp_ev op ar lt to (f + 1) m [v] = if (¬ v = 0) ↔ op m = 12 then sp_ev op ar lt to f b [v] else sp_ev op ar lt to f (m + 1) [] := by
          intro f
          rw [sp_ev_s, if_pos ⟨by omega, by omega⟩, if_neg n89, if_neg n10]
          show (if op m = 10 then _ else _) = _
          rw [if_neg e10, har, nI_clamp (by omega)]
        have step2 : ∀ f, sp_evm op ar lt to (f + 1) m [v] = if v = (if op m = 12 then 1 else 0) then sp_evm op ar lt to f b [v] else sp_evm op ar lt to f (m + 1) [] := by
          intro f
          rw [sp_evm_s, if_pos (by omega), if_neg n89, if_neg n10]
          show (if op m = 10 then _ else _) = _
          rw [if_neg e10, har, nI_clamp (by omega)]
        have hc : ((¬ v = 0) ↔ op m = 12) ↔ v = (if op m = 12 then 1 else 0) := by
          rcases ho with ho | ho <;> rw [ho] <;> rcases hv01 with rfl | rfl <;> decide
        by_cases hj : (¬ v = 0) ↔ op m = 12
        · refine ⟨some v, (fun u h => by cases h; exact hv01), fun fuel hf => ?_⟩
          obtain ⟨f', hf', q1, q2⟩ := g fuel (by omega)
          obtain ⟨f, rfl⟩ : ∃ f, f' = f + 1 := ⟨f' - 1, by omega⟩
          refine ⟨f, by omega, q1.trans ?_, q2.trans ?_⟩
          · exact (step1 f).trans (if_pos hj)
          · exact (step2 f).trans (if_pos (hc.mp hj))
        · have lem : ∀ fuel, b - a ≤ fuel → ∃ f, fuel ≤ f + 1 + (m - a) ∧ sp_ev op ar lt to fuel a [] = sp_ev op ar lt to f (m + 1) [] ∧ sp_evm op ar lt to fuel a [] = sp_evm op ar lt to f (m + 1) [] := by
            intro fuel hf
            obtain ⟨f', hf', q1, q2⟩ := g fuel (by omega)
            obtain ⟨f, rfl⟩ : ∃ f, f' = f + 1 := ⟨f' - 1, by omega⟩
            refine ⟨f, by omega, q1.trans ?_, q2.trans ?_⟩
            · exact (step1 f).trans (if_neg hj)
            · exact (step2 f).trans (if_neg (fun q => hj (hc.mpr q)))
          refine ⟨r2, hr2, fun fuel hf => ?_⟩
          obtain ⟨f, hf', q1, q2⟩ := lem fuel hf
          obtain ⟨f2, hf2, p1, p2⟩ := g2 f (by omega)
          exact ⟨f2, by omega, q1.trans p1, q2.trans p2⟩
theorem sp_end {op ar lt : Nat → Int32} {to f : Nat} {v : Int32} : sp_ev op ar lt to f to [v] = v ∧ sp_evm op ar lt to f to [v] = some v := by
  cases f with
  | zero =>
    constructor
    · rfl
    · unfold sp_evm; rw [if_neg (Nat.lt_irrefl _)]; rfl
  | succ f =>
    constructor
    · rw [sp_ev_s, if_neg (fun h => Nat.lt_irrefl _ h.1)]; rfl
    · rw [sp_evm_s, if_neg (Nat.lt_irrefl _)]; rfl
theorem sg_E_fin {op ar lt : Nat → Int32} {n a b : Nat} (h : sg_E op ar n 32 a b) (hb : b ≤ 200) : sp_evm op ar lt b 200 a [] = some (sp_ev op ar lt b 200 a []) := by
  obtain ⟨r, g⟩ := sg_E_run (lt := lt) hb h (Nat.le_refl _)
  obtain ⟨q1, q2⟩ := g [] 200 (by simp) (by omega)
  rw [q1, q2]
  cases r with
  | none => rfl
  | some v => exact sp_end.2.trans (congrArg some sp_end.1.symm)
theorem sg_C_fin {op ar lt : Nat → Int32} {n a b : Nat} (h : sg_C op ar n a b) (hb : b ≤ 200) : sp_evm op ar lt b 200 a [] = some (sp_ev op ar lt b 200 a []) ∧ (sp_ev op ar lt b 200 a [] = 0 ∨ sp_ev op ar lt b 200 a [] = 1) := by
  obtain ⟨r, hr, g⟩ := sg_C_run (lt := lt) hb h (Nat.le_refl _)
  obtain ⟨f', -, q1, q2⟩ := g 200 (by omega)
  rw [q1, q2]
  cases r with
  | none => exact ⟨rfl, Or.inl rfl⟩
  | some v =>
    refine ⟨sp_end.2.trans (congrArg some sp_end.1.symm), ?_⟩
    have : (some v).elim 0 (fun v => sp_ev op ar lt b f' b [v]) = v := sp_end.1
    rw [this]
    exact hr v rfl
