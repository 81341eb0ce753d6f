-- ===== comparisons, as the reference reads them; what is said of conditions =====
theorem Pr_endc {b : Nat → Nat} {n : Nat} : ∀ t d s r, Pr b n t d s r → ∀ s1, r = .inr s1 → ((t = 1 ∨ t = 5) → ca_ b n (jt_ 1) s1.p = none) ∧ (t = 0 → ca_ b n (jt_ 1) s1.p = none ∧ ca_ b n (jt_ 0) s1.p = none) ∧ (t = 4 → ca_ b n (jt_ 1) s.p = none → ca_ b n (jt_ 1) s1.p = none ∧ ca_ b n (jt_ 0) s1.p = none) := by
  apply Pr_ind
  case c_chainB => intro d s l e _ _ _ s1 h; cases h
  case c_chain =>
    intro d s l s0 x hl _ h1 _ h2 s1 hx
    have h1 := h1 s0 rfl
    have h2 := h2 s1 hx
    refine ⟨fun h => ?_, fun h => ?_, fun h => by omega⟩
    · exact h2.1 (Or.inr (by omega))
    · exact h2.2.2 (by omega) (h1.1 (Or.inl (by rw [h]; rfl)))
  case c_stop =>
    intro d s l hl hj s1 hx
    have hx : s = s1 := Sum.inr.inj hx
    rw [← hx]
    refine ⟨fun h => ?_, fun h => by omega, fun h h3 => ?_⟩
    · rw [show l = 1 by omega] at hj; exact hj
    · rw [show l = 0 by omega] at hj; exact ⟨h3, hj⟩
  case c_arB => intro d s l w e _ _ _ _ _ s1 h; cases h
  case c_ar =>
    intro d s l w s0 x hl _ hj _ h1 _ h2 s1 hx
    exact ⟨fun h => by omega, fun h => by omega, fun h => by omega⟩
  case c_lgB => intro d s l w e _ _ _ _ s1 h; cases h
  case c_lg =>
    intro d s l w s0 x hl hj _ h1 _ h2 s1 hx
    have h1 := h1 s0 rfl
    have h2 := h2 s1 hx
    refine ⟨fun h => h2.1 h, fun h => by omega, fun h _ => ?_⟩
    exact h2.2.2 h (h1.1 (Or.inl (by rw [show l = 0 by omega]; rfl)))
  all_goals (intros; refine ⟨fun h => by omega, fun h => by omega, fun h => by omega⟩)
def OKq (n j : Nat) (s : Sx) (W : List Nat) : Prop := s.p ≤ n ∧ s.c ≤ s.p ∧ s.c + W.length ≤ s.p + j ∧ (∃ x W0, W = x :: W0 ∧ 10 ≤ x / 1048576 ∧ x / 1048576 ≤ 13) ∧ (∀ x, x ∈ W → x < 2 ^ 31 ∧ x % 1048576 < 220) ∧ AW s
theorem OKq.go {n j : Nat} {s s1 : Sx} {W : List Nat} (h : OKq n j s W) (g : Go0 n s s1) : OKq n j s1 W := by
  obtain ⟨h1, h2, h3, h4, h5, h6⟩ := h
  obtain ⟨g1, g2, g3, g4, _⟩ := id g
  exact ⟨g2, by omega, by omega, h4, h5, h6.go g⟩
theorem OKq.nt {n j : Nat} {s : Sx} {W : List Nat} (h : OKq n j s W) : NT 1 W := by
  obtain ⟨x, W0, e, e1, e2⟩ := h.2.2.2.1
  rw [e]
  exact NT_cons _ (by unfold isg_; omega)
theorem OKq.lw {n j : Nat} {s : Sx} {W : List Nat} (h : OKq n j s W) (hn : n ≤ 200) (hj : j ≤ 19) : LW W := ⟨by have := h.1; have := h.2.2.1; omega, h.2.2.2.2.1⟩
theorem OKq.push {n j j' x : Nat} {s s1 : Sx} {W : List Nat} (h : OKq n j s W) (h1 : s1.p ≤ n) (h2 : s1.c ≤ s1.p) (h3 : s1.c + W.length + 1 ≤ s1.p + j') (x1 : 10 ≤ x / 1048576) (x2 : x / 1048576 ≤ 13) (x3 : x % 1048576 < 220) (hA : AW s1) : OKq n j' s1 (x :: W) := by
  refine ⟨h1, h2, by rw [List.length_cons]; omega, ⟨x, W, rfl, x1, x2⟩, fun y hy => ?_, hA⟩
  rcases List.mem_cons.mp hy with q | q
  · rw [q]; exact ⟨by omega, x3⟩
  · exact h.2.2.2.2.1 y q
section
variable {b : Nat → Nat} {n : Nat} {m M : ro_Mem} {s : Sx} {W : List Nat} {d : Nat}
theorem cp_52 (hT : RT b n m) (h : RW m s W d M) (hp : s.p ≤ 200) : ((fn_X12_here M).bind fun q4 => if q4 = 60 then (fj_X12_readsCompared_52 7 M) else ((fn_X12_here M).bind fun q7 => if q7 = 62 then (fj_X12_readsCompared_52 8 M) else ((fn_X12_here M).bind fun q10 => if q10 = 61 then (fj_X12_readsCompared_52 9 M) else (fj_X12_readsCompared_52 (-1) M)))) = fj_X12_readsCompared_52 (on2_ (ca_ b n cp_ s.p)) M := by
  have hTM := h.1.rt hT
  rw [rt_here hTM h.2.1 (by omega), Option.bind_some, Option.bind_some, Option.bind_some]
  have hi : ∀ v, v < 256 → (ch_ b n s.p = nI v ↔ (s.p < n ∧ b s.p = v)) := fun v hv => ch_is hTM hv
  by_cases c60 : s.p < n ∧ b s.p = 60
  · rw [if_pos (show ch_ b n s.p = 60 from (hi 60 (by decide)).mpr c60)]
    unfold ca_
    rw [if_pos c60.1, c60.2]
    rfl
  · rw [if_neg (show ¬ ch_ b n s.p = 60 from fun z => c60 ((hi 60 (by decide)).mp z))]
    by_cases c62 : s.p < n ∧ b s.p = 62
    · rw [if_pos (show ch_ b n s.p = 62 from (hi 62 (by decide)).mpr c62)]
      unfold ca_
      rw [if_pos c62.1, c62.2]
      rfl
    · rw [if_neg (show ¬ ch_ b n s.p = 62 from fun z => c62 ((hi 62 (by decide)).mp z))]
      by_cases c61 : s.p < n ∧ b s.p = 61
      · rw [if_pos (show ch_ b n s.p = 61 from (hi 61 (by decide)).mpr c61)]
        unfold ca_
        rw [if_pos c61.1, c61.2]
        rfl
      · rw [if_neg (show ¬ ch_ b n s.p = 61 from fun z => c61 ((hi 61 (by decide)).mp z))]
        have e : ca_ b n cp_ s.p = none := by
          unfold ca_
          by_cases c : s.p < n
          · rw [if_pos c]
            unfold cp_
            rw [if_neg (fun z => c60 ⟨c, z⟩), if_neg (fun z => c62 ⟨c, z⟩), if_neg (fun z => c61 ⟨c, z⟩)]
          · rw [if_neg c]
        rw [e]
        rfl
/-- a comparison: what readsCompared answers -/
def OutK (m : ro_Mem) (d : Nat) (W : List Nat) (r : Res) (X : Option (Int32 × ro_Mem)) : Prop := match r with
  | .inl e => ∃ M', X = some (0, M') ∧ RX m e M'
  | .inr s1 => ∃ M', X = some (1, M') ∧ RW m (en_ s1 W d).1 (en_ s1 W d).2.1 (en_ s1 W d).2.2 M'
def Out8 (n : Nat) (m : ro_Mem) (d : Nat) (W : List Nat) (r : Res) (X : Option (Int32 × ro_Mem)) : Prop := match r with
  | .inl e => ∃ M', X = some (0, M') ∧ RX m e M'
  | .inr s1 => ∃ f' g' M', X = QCx f' g' M' ∧ RW m (en_ s1 W d).1 (en_ s1 W d).2.1 (en_ s1 W d).2.2 M' ∧ n < f' + s1.p ∧ n < g' + s1.p
def OutC (n : Nat) (m : ro_Mem) (d k : Nat) (W : List Nat) (r : Res) (X : Option (Int32 × ro_Mem)) : Prop := match r with
  | .inl e => ∃ M', X = some (0, M') ∧ RX m e M'
  | .inr s1 => ∃ f' g' M' s' W', X = QCx f' g' M' ∧ RW m s' W' d M' ∧ la_ k s' W' = (s1, W) ∧ LW W' ∧ AW s' ∧ n < f' + s1.p ∧ n < g' + s1.p
def TC (n : Nat) (m : ro_Mem) (b : Nat → Nat) (t d : Nat) (s : Sx) (r : Res) : Prop := d ≤ 6 →
  (t = 10 → ∀ j W M, j ≤ 2 * d → OKq n j s W → NN W d → RW m s W d M → OutK m d W r (fn_X12_readsCompared M)) ∧
  (t = 8 → ∀ j W M f, j ≤ 2 * d → OKq n j s W → NN W d → n < f + s.p → RW m s W d M → Out8 n m d W r (RCx f M)) ∧
  (t = 1 → ∀ j W M f, j + 1 ≤ 2 * d → OKq n j s W → NE W → NL 0 W → n < f + s.p → RW m s W d M → OutC n m d 0 W r (RCx f M)) ∧
  (t = 0 → ∀ j W M f, j + 2 ≤ 2 * d → OKq n j s W → NE W → NL 1 W → n < f + s.p → RW m s W d M → OutC n m d 1 W r (RCx f M)) ∧
  (t = 5 → ∀ j s' W' W M f g, j + 1 ≤ 2 * d → OKq n j s W → NE W → NL 0 W → la_ 0 s' W' = (s, W) → LW W' → AW s' → n < f + s.p → n < g + s.p → RW m s' W' d M → OutC n m d 0 W r (QCx f g M)) ∧
  (t = 4 → ca_ b n (jt_ 1) s.p = none → ∀ j s' W' W M f g, j + 2 ≤ 2 * d → OKq n j s W → NE W → NL 1 W → la_ 1 s' W' = (s, W) → LW W' → AW s' → n < f + s.p → n < g + s.p → RW m s' W' d M → OutC n m d 1 W r (QCx f g M))
theorem TC_no {t : Nat} {r : Res} (h : t = 2 ∨ t = 3 ∨ t = 6 ∨ t = 7 ∨ t = 9 ∨ 11 ≤ t) : TC n m b t d s r := fun _ => ⟨fun e => by omega, fun e => by omega, fun e => by omega, fun e => by omega, fun e => by omega, fun e => by omega⟩
theorem OutK_E {r : Res} {e : Int32} (hT : RT b n m) {j : Nat} (hj : j ≤ 12) (hd : d ≤ 6) (hO : OKq n j s W) (p1 : Pr b n 2 d s (.inl e)) (h : RW m s W d M) : ∃ M', fn_X12_readsCompared M = some (0, M') ∧ RX m e M' := by
  obtain ⟨M', x1, x2⟩ := rt_readsSum (j := 19) hT (by omega) p1 hd hO.1 (by have := hO.2.2.1; omega) (fun x hx => (hO.2.2.2.2.1 x hx).1) hO.nt h
  refine ⟨M', ?_, x2⟩
  unfold fn_X12_readsCompared
  rw [x1, Option.bind_some, if_pos rfl]
theorem OutK_1 {s1 : Sx} (hT : RT b n m) {j : Nat} (hj : j ≤ 12) (hd : d ≤ 6) (hO : OKq n j s W) (p1 : Pr b n 2 d s (.inr s1)) (h : RW m s W d M) : ∃ M1, fn_X12_readsCompared M = fj_X12_readsCompared_52 (on2_ (ca_ b n cp_ s1.p)) M1 ∧ RW m s1 W d M1 ∧ OKq n j s1 W ∧ s.p < s1.p := by
  have hn := hT.2.1
  obtain ⟨M', x1, x2⟩ := rt_readsSum (j := 19) hT (by omega) p1 hd hO.1 (by have := hO.2.2.1; omega) (fun x hx => (hO.2.2.2.2.1 x hx).1) hO.nt h
  obtain ⟨g1, g2⟩ := Pr_go hn _ _ _ _ p1 hO.1 hO.2.1
  have hO1 := hO.go g1
  refine ⟨M', ?_, x2, hO1, g2 (by omega)⟩
  unfold fn_X12_readsCompared
  rw [x1, Option.bind_some, if_neg rt_10]
  exact cp_52 hT x2 (by have := hO1.1; omega)
theorem OutK_2 {s1 : Sx} {w j : Nat} (hO : OKq n j s1 W) (hw : ca_ b n cp_ s1.p = some w) : OKq n j s1.adv W := by
  obtain ⟨h1, h2, h3, h4, h5, h6⟩ := hO
  have := (ca_some hw).1
  exact ⟨by show s1.p + 1 ≤ n; omega, by show s1.c ≤ s1.p + 1; omega, by show s1.c + W.length ≤ s1.p + 1 + j; omega, h4, h5, h6⟩
theorem TC_cp (hT : RT b n m) : (∀ (e : Int32), Pr b n 2 d s (.inl e) → TC n m b 10 d s (.inl e)) ∧ (∀ (s1 : Sx), ca_ b n cp_ s1.p = none → Pr b n 2 d s (.inr s1) → TC n m b 10 d s (.inl (flt 1 s1.p))) ∧ (∀ (s1 : Sx) (w : Nat) (e : Int32), ca_ b n cp_ s1.p = some w → Pr b n 2 d s (.inr s1) → Pr b n 2 d s1.adv (.inl e) → TC n m b 10 d s (.inl e)) ∧ (∀ (s1 : Sx) (w : Nat) (s2 : Sx), ca_ b n cp_ s1.p = some w → Pr b n 2 d s (.inr s1) → Pr b n 2 d s1.adv (.inr s2) → TC n m b 10 d s (.inr (s2.emit w 0))) := by
  have hn := hT.2.1
  refine ⟨fun e p1 hd => ?_, fun s1 hw p1 hd => ?_, fun s1 w e hw p1 p2 hd => ?_, fun s1 w s2 hw p1 p2 hd => ?_⟩
  · refine ⟨fun _ j W M hj hO hN h => ?_, fun q => by omega, fun q => by omega, fun q => by omega, fun q => by omega, fun q => by omega⟩
    exact OutK_E (r := .inl e) hT (by omega) hd hO p1 h
  · refine ⟨fun _ j W M hj hO hN h => ?_, fun q => by omega, fun q => by omega, fun q => by omega, fun q => by omega, fun q => by omega⟩
    obtain ⟨M1, x1, x2, x3, _⟩ := OutK_1 hT (by omega) hd hO p1 h
    refine ⟨ro_set M1 207 16 (flt 1 s1.p), ?_, x2.1.set (Or.inr (Or.inl rfl)) _, by rw [ro_set_same, pk_us]⟩
    rw [x1, hw]
    unfold fj_X12_readsCompared_52
    rw [show on2_ none = -1 from rfl, if_pos rfl, x2.2.1, rt_wrong, Option.bind_some, if_pos (Or.inl rfl)]
  · refine ⟨fun _ j W M hj hO hN h => ?_, fun q => by omega, fun q => by omega, fun q => by omega, fun q => by omega, fun q => by omega⟩
    obtain ⟨M1, x1, x2, x3, _⟩ := OutK_1 hT (by omega) hd hO p1 h
    have hw5 := cp_le (ca_some hw).2
    have x4 := OutK_2 x3 hw
    obtain ⟨M2, y1, y2⟩ := rt_readsSum (j := 19) hT (by omega) p2 hd x4.1 (by have := x4.2.2.1; omega) (fun x hx => (x4.2.2.2.2.1 x hx).1) x4.nt x2.adv
    refine ⟨M2, ?_, y2⟩
    rw [x1, hw]
    unfold fj_X12_readsCompared_52
    rw [show on2_ (some w) = nI (w + 2) from rfl, if_neg (rt_m1 (by omega)), ro_lt, y1, Option.bind_some, if_pos rfl]
  · refine ⟨fun _ j W M hj hO hN h => ?_, fun q => by omega, fun q => by omega, fun q => by omega, fun q => by omega, fun q => by omega⟩
    obtain ⟨M1, x1, x2, x3, _⟩ := OutK_1 hT (by omega) hd hO p1 h
    have hw5 := cp_le (ca_some hw).2
    have x4 := OutK_2 x3 hw
    obtain ⟨M2, y1, y2⟩ := rt_readsSum (j := 19) hT (by omega) p2 hd x4.1 (by have := x4.2.2.1; omega) (fun x hx => (x4.2.2.2.2.1 x hx).1) x4.nt x2.adv
    obtain ⟨g1, g2⟩ := Pr_go hn _ _ _ _ p2 x4.1 x4.2.1
    have x5 := x4.go g1
    have a1 := x5.1
    have a2 := x5.2.1
    have a3 := x3.2.2.1
    have a4 : s2.c + (s1.p + 1) ≤ s2.p + s1.c := g1.2.2.2.1
    obtain ⟨M3, n1, n2⟩ := rt_notesM (w := w) (v := 0) y2 (by omega)
    rw [show iv_mop w = w + 2 by unfold iv_mop; rw [if_pos (by omega)]] at n1
    have n1 : fn_X12_notes (nI (w + 2)) 0 M2 = some M3 := n1
    obtain ⟨M4, z1, z2⟩ := rt_ends (by show s2.c + 1 + W.length ≤ 219; omega) (fun x hx => (x4.2.2.2.2.1 x hx).1) hN n2
    refine ⟨M4, ?_, z2⟩
    rw [x1, hw]
    unfold fj_X12_readsCompared_52
    rw [show on2_ (some w) = nI (w + 2) from rfl, if_neg (rt_m1 (by omega)), ro_lt, y1, Option.bind_some, if_neg rt_10, n1, Option.bind_some, z1, Option.bind_some]
end
