-- ===== the law, as it is read: where, how much code, its operations, what they hold =====
def Sx : Type := Nat × Nat × (Nat → Nat) × (Nat → Nat)
def Sx.mk (p c : Nat) (op ar : Nat → Nat) : Sx := (p, c, op, ar)
def Sx.p (s : Sx) : Nat := s.1
def Sx.c (s : Sx) : Nat := s.2.1
def Sx.op (s : Sx) : Nat → Nat := s.2.2.1
def Sx.ar (s : Sx) : Nat → Nat := s.2.2.2
abbrev Res : Type := Int32 ⊕ Sx
def updN (f : Nat → Nat) (k v : Nat) : Nat → Nat := fun i => if i = k then v else f i
theorem updN_s {f : Nat → Nat} {k v : Nat} : updN f k v k = v := if_pos rfl
theorem updN_n {f : Nat → Nat} {k v i : Nat} (h : ¬ i = k) : updN f k v i = f i := if_neg h
def Sx.to (s : Sx) (p : Nat) : Sx := Sx.mk p s.c s.op s.ar
def Sx.adv (s : Sx) : Sx := s.to (s.p + 1)
def Sx.emit (s : Sx) (w v : Nat) : Sx := Sx.mk s.p (s.c + 1) (updN s.op s.c w) (updN s.ar s.c v)
def Sx.land (s : Sx) (i : Nat) : Sx := Sx.mk s.p s.c s.op (updN s.ar i s.c)
-- 0..3: a chain, 4..7: how it goes on, 8: a piece, 9: a factor, 10: a comparison
def opd_ (l : Nat) : Nat := if l = 0 then 1 else if l = 1 then 8 else if l = 2 then 3 else 9
def jt_ (l c : Nat) : Option Nat := if l = 0 then (if c = 124 then some 12 else none) else if l = 1 then (if c = 38 then some 11 else none) else if l = 2 then (if c = 43 then some 0 else if c = 45 then some 1 else none) else (if c = 42 then some 2 else if c = 47 then some 3 else if c = 37 then some 4 else none)
def lt_ (c : Nat) : Option Nat := if c = 118 then some 0 else if c = 112 then some 1 else if c = 108 then some 2 else if c = 105 then some 3 else if c = 98 then some 4 else if c = 107 then some 5 else if c = 97 then some 6 else if c = 114 then some 7 else if c = 121 then some 8 else if c = 120 then some 9 else if c = 111 then some 10 else if c = 119 then some 11 else none
def cp_ (c : Nat) : Option Nat := if c = 60 then some 5 else if c = 62 then some 6 else if c = 61 then some 7 else none
def ca_ (b : Nat → Nat) (n : Nat) (f : Nat → Option Nat) (p : Nat) : Option Nat := if p < n then f (b p) else none
def nu_ (b : Nat → Nat) (p : Nat) : Nat → Nat
  | 0 => 0
  | k + 1 => 10 * nu_ b p k + (b (p + k) - 48)
def PrS (b : Nat → Nat) (n : Nat) (Q : Nat → Nat → Sx → Res → Prop) (t d : Nat) (s : Sx) (r : Res) : Prop :=
  (∃ l : Nat, ∃ e : Int32, t = l ∧ r = .inl e ∧ l < 4 ∧ Q (opd_ l) d s (.inl e)) ∨
  (∃ l : Nat, ∃ s1 : Sx, ∃ x : Res, t = l ∧ r = x ∧ l < 4 ∧ Q (opd_ l) d s (.inr s1) ∧ Q (4 + l) d s1 x) ∨
  (∃ l : Nat, t = 4 + l ∧ r = .inr s ∧ l < 4 ∧ ca_ b n (jt_ l) s.p = none) ∨
  (∃ l : Nat, ∃ w : Nat, ∃ e : Int32, t = 4 + l ∧ r = .inl e ∧ l < 4 ∧ 2 ≤ l ∧ ca_ b n (jt_ l) s.p = some w ∧ Q (opd_ l) d s.adv (.inl e)) ∨
  (∃ l : Nat, ∃ w : Nat, ∃ s1 : Sx, ∃ x : Res, t = 4 + l ∧ r = x ∧ l < 4 ∧ 2 ≤ l ∧ ca_ b n (jt_ l) s.p = some w ∧ Q (opd_ l) d s.adv (.inr s1) ∧ Q (4 + l) d (s1.emit w 0) x) ∨
  (∃ l : Nat, ∃ w : Nat, ∃ e : Int32, t = 4 + l ∧ r = .inl e ∧ l < 2 ∧ ca_ b n (jt_ l) s.p = some w ∧ Q (opd_ l) d (s.adv.emit w 0) (.inl e)) ∨
  (∃ l : Nat, ∃ w : Nat, ∃ s1 : Sx, ∃ x : Res, t = 4 + l ∧ r = x ∧ l < 2 ∧ ca_ b n (jt_ l) s.p = some w ∧ Q (opd_ l) d (s.adv.emit w 0) (.inr s1) ∧ Q (4 + l) d (s1.land s.c) x) ∨
  (∃ k : Nat, t = 9 ∧ r = .inr (s.adv.emit 9 k) ∧ ca_ b n lt_ s.p = some k) ∨
  (∃ k : Nat, t = 9 ∧ r = .inr ((s.to (s.p + k)).emit 8 (nu_ b s.p k)) ∧ 1 ≤ k ∧ k ≤ 5 ∧ (∀ j, j < k → ¬ dg_ b n (s.p + j) = none) ∧ dg_ b n (s.p + k) = none) ∨
  (t = 9 ∧ r = .inl (flt 2 (s.p + 5)) ∧ (∀ j, j < 6 → ¬ dg_ b n (s.p + j) = none)) ∨
  (t = 9 ∧ r = .inl (flt 1 s.p) ∧ ca_ b n lt_ s.p = none ∧ dg_ b n s.p = none ∧ ¬ (s.p < n ∧ b s.p = 91)) ∨
  (t = 9 ∧ r = .inl (flt 5 s.p) ∧ (s.p < n ∧ b s.p = 91) ∧ ¬ d < 6) ∨
  (∃ e : Int32, t = 9 ∧ r = .inl e ∧ (s.p < n ∧ b s.p = 91) ∧ d < 6 ∧ Q 2 (d + 1) s.adv (.inl e)) ∨
  (∃ s1 : Sx, t = 9 ∧ r = .inl (flt 1 s1.p) ∧ (s.p < n ∧ b s.p = 91) ∧ d < 6 ∧ ¬ (s1.p < n ∧ b s1.p = 93) ∧ Q 2 (d + 1) s.adv (.inr s1)) ∨
  (∃ s1 : Sx, t = 9 ∧ r = .inr s1.adv ∧ (s.p < n ∧ b s.p = 91) ∧ d < 6 ∧ (s1.p < n ∧ b s1.p = 93) ∧ Q 2 (d + 1) s.adv (.inr s1)) ∨
  (t = 8 ∧ r = .inl (flt 5 s.p) ∧ (s.p < n ∧ b s.p = 33) ∧ ¬ d < 6) ∨
  (∃ e : Int32, t = 8 ∧ r = .inl e ∧ (s.p < n ∧ b s.p = 33) ∧ d < 6 ∧ Q 8 (d + 1) s.adv (.inl e)) ∨
  (∃ s1 : Sx, t = 8 ∧ r = .inr (s1.emit 10 0) ∧ (s.p < n ∧ b s.p = 33) ∧ d < 6 ∧ Q 8 (d + 1) s.adv (.inr s1)) ∨
  (t = 8 ∧ r = .inl (flt 5 s.p) ∧ (s.p < n ∧ b s.p = 40) ∧ ¬ d < 6) ∨
  (∃ e : Int32, t = 8 ∧ r = .inl e ∧ (s.p < n ∧ b s.p = 40) ∧ d < 6 ∧ Q 0 (d + 1) s.adv (.inl e)) ∨
  (∃ s1 : Sx, t = 8 ∧ r = .inl (flt 1 s1.p) ∧ (s.p < n ∧ b s.p = 40) ∧ d < 6 ∧ ¬ (s1.p < n ∧ b s1.p = 41) ∧ Q 0 (d + 1) s.adv (.inr s1)) ∨
  (∃ s1 : Sx, t = 8 ∧ r = .inr s1.adv ∧ (s.p < n ∧ b s.p = 40) ∧ d < 6 ∧ (s1.p < n ∧ b s1.p = 41) ∧ Q 0 (d + 1) s.adv (.inr s1)) ∨
  (∃ x : Res, t = 8 ∧ r = x ∧ ¬ (s.p < n ∧ (b s.p = 33 ∨ b s.p = 40)) ∧ Q 10 d s x) ∨
  (∃ e : Int32, t = 10 ∧ r = .inl e ∧ Q 2 d s (.inl e)) ∨
  (∃ s1 : Sx, t = 10 ∧ r = .inl (flt 1 s1.p) ∧ ca_ b n cp_ s1.p = none ∧ Q 2 d s (.inr s1)) ∨
  (∃ s1 : Sx, ∃ w : Nat, ∃ e : Int32, t = 10 ∧ r = .inl e ∧ ca_ b n cp_ s1.p = some w ∧ Q 2 d s (.inr s1) ∧ Q 2 d s1.adv (.inl e)) ∨
  (∃ s1 : Sx, ∃ w : Nat, ∃ s2 : Sx, t = 10 ∧ r = .inr (s2.emit w 0) ∧ ca_ b n cp_ s1.p = some w ∧ Q 2 d s (.inr s1) ∧ Q 2 d s1.adv (.inr s2))
def PrF (b : Nat → Nat) (n : Nat) : Nat → Nat → Nat → Sx → Res → Prop
  | 0 => fun _ _ _ _ => False
  | f + 1 => PrS b n (PrF b n f)
def Pr (b : Nat → Nat) (n : Nat) (t d : Nat) (s : Sx) (r : Res) : Prop := ∃ f, PrF b n f t d s r
theorem PrS_mono {b : Nat → Nat} {n : Nat} {Q Q' : Nat → Nat → Sx → Res → Prop} (hQ : ∀ t d s r, Q t d s r → Q' t d s r) {t d : Nat} {s : Sx} {r : Res} (h : PrS b n Q t d s r) : PrS b n Q' t d s r := by
  unfold PrS at *
  rcases h with ⟨l, e, e1, e2, h0, q0⟩ | ⟨l, s1, x, e1, e2, h0, q0, q1⟩ | ⟨l, e1, e2, h0, h1⟩ | ⟨l, w, e, e1, e2, h0, h1, h2, q0⟩ | ⟨l, w, s1, x, e1, e2, h0, h1, h2, q0, q1⟩ | ⟨l, w, e, e1, e2, h0, h1, q0⟩ | ⟨l, w, s1, x, e1, e2, h0, h1, q0, q1⟩ | ⟨k, e1, e2, h0⟩ | ⟨k, e1, e2, h0, h1, h2, h3⟩ | ⟨e1, e2, h0⟩ | ⟨e1, e2, h0, h1, h2⟩ | ⟨e1, e2, h0, h1⟩ | ⟨e, e1, e2, h0, h1, q0⟩ | ⟨s1, e1, e2, h0, h1, h2, q0⟩ | ⟨s1, e1, e2, h0, h1, h2, q0⟩ | ⟨e1, e2, h0, h1⟩ | ⟨e, e1, e2, h0, h1, q0⟩ | ⟨s1, e1, e2, h0, h1, q0⟩ | ⟨e1, e2, h0, h1⟩ | ⟨e, e1, e2, h0, h1, q0⟩ | ⟨s1, e1, e2, h0, h1, h2, q0⟩ | ⟨s1, e1, e2, h0, h1, h2, q0⟩ | ⟨x, e1, e2, h0, q0⟩ | ⟨e, e1, e2, q0⟩ | ⟨s1, e1, e2, h0, q0⟩ | ⟨s1, w, e, e1, e2, h0, q0, q1⟩ | ⟨s1, w, s2, e1, e2, h0, q0, q1⟩
  · exact (Or.inl ⟨l, e, e1, e2, h0, hQ _ _ _ _ q0⟩)
  · exact (Or.inr (Or.inl ⟨l, s1, x, e1, e2, h0, hQ _ _ _ _ q0, hQ _ _ _ _ q1⟩))
  · exact (Or.inr (Or.inr (Or.inl ⟨l, e1, e2, h0, h1⟩)))
  · exact (Or.inr (Or.inr (Or.inr (Or.inl ⟨l, w, e, e1, e2, h0, h1, h2, hQ _ _ _ _ q0⟩))))
  · exact (Or.inr (Or.inr (Or.inr (Or.inr (Or.inl ⟨l, w, s1, x, e1, e2, h0, h1, h2, hQ _ _ _ _ q0, hQ _ _ _ _ q1⟩)))))
  · exact (Or.inr (Or.inr (Or.inr (Or.inr (Or.inr (Or.inl ⟨l, w, e, e1, e2, h0, h1, hQ _ _ _ _ q0⟩))))))
  · exact (Or.inr (Or.inr (Or.inr (Or.inr (Or.inr (Or.inr (Or.inl ⟨l, w, s1, x, e1, e2, h0, h1, hQ _ _ _ _ q0, hQ _ _ _ _ q1⟩)))))))
  · exact (Or.inr (Or.inr (Or.inr (Or.inr (Or.inr (Or.inr (Or.inr (Or.inl ⟨k, e1, e2, h0⟩))))))))
  · exact (Or.inr (Or.inr (Or.inr (Or.inr (Or.inr (Or.inr (Or.inr (Or.inr (Or.inl ⟨k, e1, e2, h0, h1, h2, h3⟩)))))))))
  · exact (Or.inr (Or.inr (Or.inr (Or.inr (Or.inr (Or.inr (Or.inr (Or.inr (Or.inr (Or.inl ⟨e1, e2, h0⟩))))))))))
  · exact (Or.inr (Or.inr (Or.inr (Or.inr (Or.inr (Or.inr (Or.inr (Or.inr (Or.inr (Or.inr (Or.inl ⟨e1, e2, h0, h1, h2⟩)))))))))))
  · exact (Or.inr (Or.inr (Or.inr (Or.inr (Or.inr (Or.inr (Or.inr (Or.inr (Or.inr (Or.inr (Or.inr (Or.inl ⟨e1, e2, h0, h1⟩))))))))))))
  · exact (Or.inr (Or.inr (Or.inr (Or.inr (Or.inr (Or.inr (Or.inr (Or.inr (Or.inr (Or.inr (Or.inr (Or.inr (Or.inl ⟨e, e1, e2, h0, h1, hQ _ _ _ _ q0⟩)))))))))))))
  · exact (Or.inr (Or.inr (Or.inr (Or.inr (Or.inr (Or.inr (Or.inr (Or.inr (Or.inr (Or.inr (Or.inr (Or.inr (Or.inr (Or.inl ⟨s1, e1, e2, h0, h1, h2, hQ _ _ _ _ q0⟩))))))))))))))
  · exact (Or.inr (Or.inr (Or.inr (Or.inr (Or.inr (Or.inr (Or.inr (Or.inr (Or.inr (Or.inr (Or.inr (Or.inr (Or.inr (Or.inr (Or.inl ⟨s1, e1, e2, h0, h1, h2, hQ _ _ _ _ q0⟩)))))))))))))))
  · exact (Or.inr (Or.inr (Or.inr (Or.inr (Or.inr (Or.inr (Or.inr (Or.inr (Or.inr (Or.inr (Or.inr (Or.inr (Or.inr (Or.inr (Or.inr (Or.inl ⟨e1, e2, h0, h1⟩))))))))))))))))
  · exact (Or.inr (Or.inr (Or.inr (Or.inr (Or.inr (Or.inr (Or.inr (Or.inr (Or.inr (Or.inr (Or.inr (Or.inr (Or.inr (Or.inr (Or.inr (Or.inr (Or.inl ⟨e, e1, e2, h0, h1, hQ _ _ _ _ q0⟩)))))))))))))))))
  · exact (Or.inr (Or.inr (Or.inr (Or.inr (Or.inr (Or.inr (Or.inr (Or.inr (Or.inr (Or.inr (Or.inr (Or.inr (Or.inr (Or.inr (Or.inr (Or.inr (Or.inr (Or.inl ⟨s1, e1, e2, h0, h1, hQ _ _ _ _ q0⟩))))))))))))))))))
  · exact (Or.inr (Or.inr (Or.inr (Or.inr (Or.inr (Or.inr (Or.inr (Or.inr (Or.inr (Or.inr (Or.inr (Or.inr (Or.inr (Or.inr (Or.inr (Or.inr (Or.inr (Or.inr (Or.inl ⟨e1, e2, h0, h1⟩)))))))))))))))))))
  · exact (Or.inr (Or.inr (Or.inr (Or.inr (Or.inr (Or.inr (Or.inr (Or.inr (Or.inr (Or.inr (Or.inr (Or.inr (Or.inr (Or.inr (Or.inr (Or.inr (Or.inr (Or.inr (Or.inr (Or.inl ⟨e, e1, e2, h0, h1, hQ _ _ _ _ q0⟩))))))))))))))))))))
  · exact (Or.inr (Or.inr (Or.inr (Or.inr (Or.inr (Or.inr (Or.inr (Or.inr (Or.inr (Or.inr (Or.inr (Or.inr (Or.inr (Or.inr (Or.inr (Or.inr (Or.inr (Or.inr (Or.inr (Or.inr (Or.inl ⟨s1, e1, e2, h0, h1, h2, hQ _ _ _ _ q0⟩)))))))))))))))))))))
  · exact (Or.inr (Or.inr (Or.inr (Or.inr (Or.inr (Or.inr (Or.inr (Or.inr (Or.inr (Or.inr (Or.inr (Or.inr (Or.inr (Or.inr (Or.inr (Or.inr (Or.inr (Or.inr (Or.inr (Or.inr (Or.inr (Or.inl ⟨s1, e1, e2, h0, h1, h2, hQ _ _ _ _ q0⟩))))))))))))))))))))))
  · exact (Or.inr (Or.inr (Or.inr (Or.inr (Or.inr (Or.inr (Or.inr (Or.inr (Or.inr (Or.inr (Or.inr (Or.inr (Or.inr (Or.inr (Or.inr (Or.inr (Or.inr (Or.inr (Or.inr (Or.inr (Or.inr (Or.inr (Or.inl ⟨x, e1, e2, h0, hQ _ _ _ _ q0⟩)))))))))))))))))))))))
  · exact (Or.inr (Or.inr (Or.inr (Or.inr (Or.inr (Or.inr (Or.inr (Or.inr (Or.inr (Or.inr (Or.inr (Or.inr (Or.inr (Or.inr (Or.inr (Or.inr (Or.inr (Or.inr (Or.inr (Or.inr (Or.inr (Or.inr (Or.inr (Or.inl ⟨e, e1, e2, hQ _ _ _ _ q0⟩))))))))))))))))))))))))
  · exact (Or.inr (Or.inr (Or.inr (Or.inr (Or.inr (Or.inr (Or.inr (Or.inr (Or.inr (Or.inr (Or.inr (Or.inr (Or.inr (Or.inr (Or.inr (Or.inr (Or.inr (Or.inr (Or.inr (Or.inr (Or.inr (Or.inr (Or.inr (Or.inr (Or.inl ⟨s1, e1, e2, h0, hQ _ _ _ _ q0⟩)))))))))))))))))))))))))
  · exact (Or.inr (Or.inr (Or.inr (Or.inr (Or.inr (Or.inr (Or.inr (Or.inr (Or.inr (Or.inr (Or.inr (Or.inr (Or.inr (Or.inr (Or.inr (Or.inr (Or.inr (Or.inr (Or.inr (Or.inr (Or.inr (Or.inr (Or.inr (Or.inr (Or.inr (Or.inl ⟨s1, w, e, e1, e2, h0, hQ _ _ _ _ q0, hQ _ _ _ _ q1⟩))))))))))))))))))))))))))
  · exact (Or.inr (Or.inr (Or.inr (Or.inr (Or.inr (Or.inr (Or.inr (Or.inr (Or.inr (Or.inr (Or.inr (Or.inr (Or.inr (Or.inr (Or.inr (Or.inr (Or.inr (Or.inr (Or.inr (Or.inr (Or.inr (Or.inr (Or.inr (Or.inr (Or.inr (Or.inr ⟨s1, w, s2, e1, e2, h0, hQ _ _ _ _ q0, hQ _ _ _ _ q1⟩))))))))))))))))))))))))))
theorem PrF_le {b : Nat → Nat} {n : Nat} : ∀ f g, f ≤ g → ∀ t d s r, PrF b n f t d s r → PrF b n g t d s r := by
  intro f
  induction f with
  | zero => intro g _ t d s r h; exact absurd h (fun x => x)
  | succ f ih =>
    intro g hg t d s r h
    cases g with
    | zero => omega
    | succ g => exact PrS_mono (ih g (by omega)) h
theorem Pr_chainB {b : Nat → Nat} {n d : Nat} {s : Sx} {l : Nat} {e : Int32} (h0 : l < 4) (p0 : Pr b n (opd_ l) d s (.inl e)) : Pr b n l d s (.inl e) := by
  obtain ⟨f0, q0⟩ := p0
  exact ⟨f0 + 1, (Or.inl ⟨l, e, rfl, rfl, h0, PrF_le f0 (f0) (by omega) _ _ _ _ q0⟩)⟩
theorem Pr_chain {b : Nat → Nat} {n d : Nat} {s : Sx} {l : Nat} {s1 : Sx} {x : Res} (h0 : l < 4) (p0 : Pr b n (opd_ l) d s (.inr s1)) (p1 : Pr b n (4 + l) d s1 x) : Pr b n l d s x := by
  obtain ⟨f0, q0⟩ := p0
  obtain ⟨f1, q1⟩ := p1
  exact ⟨(max f0 f1) + 1, (Or.inr (Or.inl ⟨l, s1, x, rfl, rfl, h0, PrF_le f0 (max f0 f1) (by omega) _ _ _ _ q0, PrF_le f1 (max f0 f1) (by omega) _ _ _ _ q1⟩))⟩
theorem Pr_stop {b : Nat → Nat} {n d : Nat} {s : Sx} {l : Nat} (h0 : l < 4) (h1 : ca_ b n (jt_ l) s.p = none) : Pr b n (4 + l) d s (.inr s) := by
  exact ⟨0 + 1, (Or.inr (Or.inr (Or.inl ⟨l, rfl, rfl, h0, h1⟩)))⟩
theorem Pr_arB {b : Nat → Nat} {n d : Nat} {s : Sx} {l : Nat} {w : Nat} {e : Int32} (h0 : l < 4) (h1 : 2 ≤ l) (h2 : ca_ b n (jt_ l) s.p = some w) (p0 : Pr b n (opd_ l) d s.adv (.inl e)) : Pr b n (4 + l) d s (.inl e) := by
  obtain ⟨f0, q0⟩ := p0
  exact ⟨f0 + 1, (Or.inr (Or.inr (Or.inr (Or.inl ⟨l, w, e, rfl, rfl, h0, h1, h2, PrF_le f0 (f0) (by omega) _ _ _ _ q0⟩))))⟩
theorem Pr_ar {b : Nat → Nat} {n d : Nat} {s : Sx} {l : Nat} {w : Nat} {s1 : Sx} {x : Res} (h0 : l < 4) (h1 : 2 ≤ l) (h2 : ca_ b n (jt_ l) s.p = some w) (p0 : Pr b n (opd_ l) d s.adv (.inr s1)) (p1 : Pr b n (4 + l) d (s1.emit w 0) x) : Pr b n (4 + l) d s x := by
  obtain ⟨f0, q0⟩ := p0
  obtain ⟨f1, q1⟩ := p1
  exact ⟨(max f0 f1) + 1, (Or.inr (Or.inr (Or.inr (Or.inr (Or.inl ⟨l, w, s1, x, rfl, rfl, h0, h1, h2, PrF_le f0 (max f0 f1) (by omega) _ _ _ _ q0, PrF_le f1 (max f0 f1) (by omega) _ _ _ _ q1⟩)))))⟩
theorem Pr_lgB {b : Nat → Nat} {n d : Nat} {s : Sx} {l : Nat} {w : Nat} {e : Int32} (h0 : l < 2) (h1 : ca_ b n (jt_ l) s.p = some w) (p0 : Pr b n (opd_ l) d (s.adv.emit w 0) (.inl e)) : Pr b n (4 + l) d s (.inl e) := by
  obtain ⟨f0, q0⟩ := p0
  exact ⟨f0 + 1, (Or.inr (Or.inr (Or.inr (Or.inr (Or.inr (Or.inl ⟨l, w, e, rfl, rfl, h0, h1, PrF_le f0 (f0) (by omega) _ _ _ _ q0⟩))))))⟩
theorem Pr_lg {b : Nat → Nat} {n d : Nat} {s : Sx} {l : Nat} {w : Nat} {s1 : Sx} {x : Res} (h0 : l < 2) (h1 : ca_ b n (jt_ l) s.p = some w) (p0 : Pr b n (opd_ l) d (s.adv.emit w 0) (.inr s1)) (p1 : Pr b n (4 + l) d (s1.land s.c) x) : Pr b n (4 + l) d s x := by
  obtain ⟨f0, q0⟩ := p0
  obtain ⟨f1, q1⟩ := p1
  exact ⟨(max f0 f1) + 1, (Or.inr (Or.inr (Or.inr (Or.inr (Or.inr (Or.inr (Or.inl ⟨l, w, s1, x, rfl, rfl, h0, h1, PrF_le f0 (max f0 f1) (by omega) _ _ _ _ q0, PrF_le f1 (max f0 f1) (by omega) _ _ _ _ q1⟩)))))))⟩
theorem Pr_letter {b : Nat → Nat} {n d : Nat} {s : Sx} {k : Nat} (h0 : ca_ b n lt_ s.p = some k) : Pr b n 9 d s (.inr (s.adv.emit 9 k)) := by
  exact ⟨0 + 1, (Or.inr (Or.inr (Or.inr (Or.inr (Or.inr (Or.inr (Or.inr (Or.inl ⟨k, rfl, rfl, h0⟩))))))))⟩
theorem Pr_num {b : Nat → Nat} {n d : Nat} {s : Sx} {k : Nat} (h0 : 1 ≤ k) (h1 : k ≤ 5) (h2 : (∀ j, j < k → ¬ dg_ b n (s.p + j) = none)) (h3 : dg_ b n (s.p + k) = none) : Pr b n 9 d s (.inr ((s.to (s.p + k)).emit 8 (nu_ b s.p k))) := by
  exact ⟨0 + 1, (Or.inr (Or.inr (Or.inr (Or.inr (Or.inr (Or.inr (Or.inr (Or.inr (Or.inl ⟨k, rfl, rfl, h0, h1, h2, h3⟩)))))))))⟩
theorem Pr_numB {b : Nat → Nat} {n d : Nat} {s : Sx} (h0 : (∀ j, j < 6 → ¬ dg_ b n (s.p + j) = none)) : Pr b n 9 d s (.inl (flt 2 (s.p + 5))) := by
  exact ⟨0 + 1, (Or.inr (Or.inr (Or.inr (Or.inr (Or.inr (Or.inr (Or.inr (Or.inr (Or.inr (Or.inl ⟨rfl, rfl, h0⟩))))))))))⟩
theorem Pr_factB {b : Nat → Nat} {n d : Nat} {s : Sx} (h0 : ca_ b n lt_ s.p = none) (h1 : dg_ b n s.p = none) (h2 : ¬ (s.p < n ∧ b s.p = 91)) : Pr b n 9 d s (.inl (flt 1 s.p)) := by
  exact ⟨0 + 1, (Or.inr (Or.inr (Or.inr (Or.inr (Or.inr (Or.inr (Or.inr (Or.inr (Or.inr (Or.inr (Or.inl ⟨rfl, rfl, h0, h1, h2⟩)))))))))))⟩
theorem Pr_opD {b : Nat → Nat} {n d : Nat} {s : Sx} (h0 : (s.p < n ∧ b s.p = 91)) (h1 : ¬ d < 6) : Pr b n 9 d s (.inl (flt 5 s.p)) := by
  exact ⟨0 + 1, (Or.inr (Or.inr (Or.inr (Or.inr (Or.inr (Or.inr (Or.inr (Or.inr (Or.inr (Or.inr (Or.inr (Or.inl ⟨rfl, rfl, h0, h1⟩))))))))))))⟩
theorem Pr_opE {b : Nat → Nat} {n d : Nat} {s : Sx} {e : Int32} (h0 : (s.p < n ∧ b s.p = 91)) (h1 : d < 6) (p0 : Pr b n 2 (d + 1) s.adv (.inl e)) : Pr b n 9 d s (.inl e) := by
  obtain ⟨f0, q0⟩ := p0
  exact ⟨f0 + 1, (Or.inr (Or.inr (Or.inr (Or.inr (Or.inr (Or.inr (Or.inr (Or.inr (Or.inr (Or.inr (Or.inr (Or.inr (Or.inl ⟨e, rfl, rfl, h0, h1, PrF_le f0 (f0) (by omega) _ _ _ _ q0⟩)))))))))))))⟩
theorem Pr_opC {b : Nat → Nat} {n d : Nat} {s : Sx} {s1 : Sx} (h0 : (s.p < n ∧ b s.p = 91)) (h1 : d < 6) (h2 : ¬ (s1.p < n ∧ b s1.p = 93)) (p0 : Pr b n 2 (d + 1) s.adv (.inr s1)) : Pr b n 9 d s (.inl (flt 1 s1.p)) := by
  obtain ⟨f0, q0⟩ := p0
  exact ⟨f0 + 1, (Or.inr (Or.inr (Or.inr (Or.inr (Or.inr (Or.inr (Or.inr (Or.inr (Or.inr (Or.inr (Or.inr (Or.inr (Or.inr (Or.inl ⟨s1, rfl, rfl, h0, h1, h2, PrF_le f0 (f0) (by omega) _ _ _ _ q0⟩))))))))))))))⟩
theorem Pr_opn {b : Nat → Nat} {n d : Nat} {s : Sx} {s1 : Sx} (h0 : (s.p < n ∧ b s.p = 91)) (h1 : d < 6) (h2 : (s1.p < n ∧ b s1.p = 93)) (p0 : Pr b n 2 (d + 1) s.adv (.inr s1)) : Pr b n 9 d s (.inr s1.adv) := by
  obtain ⟨f0, q0⟩ := p0
  exact ⟨f0 + 1, (Or.inr (Or.inr (Or.inr (Or.inr (Or.inr (Or.inr (Or.inr (Or.inr (Or.inr (Or.inr (Or.inr (Or.inr (Or.inr (Or.inr (Or.inl ⟨s1, rfl, rfl, h0, h1, h2, PrF_le f0 (f0) (by omega) _ _ _ _ q0⟩)))))))))))))))⟩
theorem Pr_ntD {b : Nat → Nat} {n d : Nat} {s : Sx} (h0 : (s.p < n ∧ b s.p = 33)) (h1 : ¬ d < 6) : Pr b n 8 d s (.inl (flt 5 s.p)) := by
  exact ⟨0 + 1, (Or.inr (Or.inr (Or.inr (Or.inr (Or.inr (Or.inr (Or.inr (Or.inr (Or.inr (Or.inr (Or.inr (Or.inr (Or.inr (Or.inr (Or.inr (Or.inl ⟨rfl, rfl, h0, h1⟩))))))))))))))))⟩
theorem Pr_ntE {b : Nat → Nat} {n d : Nat} {s : Sx} {e : Int32} (h0 : (s.p < n ∧ b s.p = 33)) (h1 : d < 6) (p0 : Pr b n 8 (d + 1) s.adv (.inl e)) : Pr b n 8 d s (.inl e) := by
  obtain ⟨f0, q0⟩ := p0
  exact ⟨f0 + 1, (Or.inr (Or.inr (Or.inr (Or.inr (Or.inr (Or.inr (Or.inr (Or.inr (Or.inr (Or.inr (Or.inr (Or.inr (Or.inr (Or.inr (Or.inr (Or.inr (Or.inl ⟨e, rfl, rfl, h0, h1, PrF_le f0 (f0) (by omega) _ _ _ _ q0⟩)))))))))))))))))⟩
theorem Pr_nt {b : Nat → Nat} {n d : Nat} {s : Sx} {s1 : Sx} (h0 : (s.p < n ∧ b s.p = 33)) (h1 : d < 6) (p0 : Pr b n 8 (d + 1) s.adv (.inr s1)) : Pr b n 8 d s (.inr (s1.emit 10 0)) := by
  obtain ⟨f0, q0⟩ := p0
  exact ⟨f0 + 1, (Or.inr (Or.inr (Or.inr (Or.inr (Or.inr (Or.inr (Or.inr (Or.inr (Or.inr (Or.inr (Or.inr (Or.inr (Or.inr (Or.inr (Or.inr (Or.inr (Or.inr (Or.inl ⟨s1, rfl, rfl, h0, h1, PrF_le f0 (f0) (by omega) _ _ _ _ q0⟩))))))))))))))))))⟩
theorem Pr_paD {b : Nat → Nat} {n d : Nat} {s : Sx} (h0 : (s.p < n ∧ b s.p = 40)) (h1 : ¬ d < 6) : Pr b n 8 d s (.inl (flt 5 s.p)) := by
  exact ⟨0 + 1, (Or.inr (Or.inr (Or.inr (Or.inr (Or.inr (Or.inr (Or.inr (Or.inr (Or.inr (Or.inr (Or.inr (Or.inr (Or.inr (Or.inr (Or.inr (Or.inr (Or.inr (Or.inr (Or.inl ⟨rfl, rfl, h0, h1⟩)))))))))))))))))))⟩
theorem Pr_paE {b : Nat → Nat} {n d : Nat} {s : Sx} {e : Int32} (h0 : (s.p < n ∧ b s.p = 40)) (h1 : d < 6) (p0 : Pr b n 0 (d + 1) s.adv (.inl e)) : Pr b n 8 d s (.inl e) := by
  obtain ⟨f0, q0⟩ := p0
  exact ⟨f0 + 1, (Or.inr (Or.inr (Or.inr (Or.inr (Or.inr (Or.inr (Or.inr (Or.inr (Or.inr (Or.inr (Or.inr (Or.inr (Or.inr (Or.inr (Or.inr (Or.inr (Or.inr (Or.inr (Or.inr (Or.inl ⟨e, rfl, rfl, h0, h1, PrF_le f0 (f0) (by omega) _ _ _ _ q0⟩))))))))))))))))))))⟩
theorem Pr_paC {b : Nat → Nat} {n d : Nat} {s : Sx} {s1 : Sx} (h0 : (s.p < n ∧ b s.p = 40)) (h1 : d < 6) (h2 : ¬ (s1.p < n ∧ b s1.p = 41)) (p0 : Pr b n 0 (d + 1) s.adv (.inr s1)) : Pr b n 8 d s (.inl (flt 1 s1.p)) := by
  obtain ⟨f0, q0⟩ := p0
  exact ⟨f0 + 1, (Or.inr (Or.inr (Or.inr (Or.inr (Or.inr (Or.inr (Or.inr (Or.inr (Or.inr (Or.inr (Or.inr (Or.inr (Or.inr (Or.inr (Or.inr (Or.inr (Or.inr (Or.inr (Or.inr (Or.inr (Or.inl ⟨s1, rfl, rfl, h0, h1, h2, PrF_le f0 (f0) (by omega) _ _ _ _ q0⟩)))))))))))))))))))))⟩
theorem Pr_par {b : Nat → Nat} {n d : Nat} {s : Sx} {s1 : Sx} (h0 : (s.p < n ∧ b s.p = 40)) (h1 : d < 6) (h2 : (s1.p < n ∧ b s1.p = 41)) (p0 : Pr b n 0 (d + 1) s.adv (.inr s1)) : Pr b n 8 d s (.inr s1.adv) := by
  obtain ⟨f0, q0⟩ := p0
  exact ⟨f0 + 1, (Or.inr (Or.inr (Or.inr (Or.inr (Or.inr (Or.inr (Or.inr (Or.inr (Or.inr (Or.inr (Or.inr (Or.inr (Or.inr (Or.inr (Or.inr (Or.inr (Or.inr (Or.inr (Or.inr (Or.inr (Or.inr (Or.inl ⟨s1, rfl, rfl, h0, h1, h2, PrF_le f0 (f0) (by omega) _ _ _ _ q0⟩))))))))))))))))))))))⟩
theorem Pr_cmp {b : Nat → Nat} {n d : Nat} {s : Sx} {x : Res} (h0 : ¬ (s.p < n ∧ (b s.p = 33 ∨ b s.p = 40))) (p0 : Pr b n 10 d s x) : Pr b n 8 d s x := by
  obtain ⟨f0, q0⟩ := p0
  exact ⟨f0 + 1, (Or.inr (Or.inr (Or.inr (Or.inr (Or.inr (Or.inr (Or.inr (Or.inr (Or.inr (Or.inr (Or.inr (Or.inr (Or.inr (Or.inr (Or.inr (Or.inr (Or.inr (Or.inr (Or.inr (Or.inr (Or.inr (Or.inr (Or.inl ⟨x, rfl, rfl, h0, PrF_le f0 (f0) (by omega) _ _ _ _ q0⟩)))))))))))))))))))))))⟩
theorem Pr_cpE {b : Nat → Nat} {n d : Nat} {s : Sx} {e : Int32} (p0 : Pr b n 2 d s (.inl e)) : Pr b n 10 d s (.inl e) := by
  obtain ⟨f0, q0⟩ := p0
  exact ⟨f0 + 1, (Or.inr (Or.inr (Or.inr (Or.inr (Or.inr (Or.inr (Or.inr (Or.inr (Or.inr (Or.inr (Or.inr (Or.inr (Or.inr (Or.inr (Or.inr (Or.inr (Or.inr (Or.inr (Or.inr (Or.inr (Or.inr (Or.inr (Or.inr (Or.inl ⟨e, rfl, rfl, PrF_le f0 (f0) (by omega) _ _ _ _ q0⟩))))))))))))))))))))))))⟩
theorem Pr_cpX {b : Nat → Nat} {n d : Nat} {s : Sx} {s1 : Sx} (h0 : ca_ b n cp_ s1.p = none) (p0 : Pr b n 2 d s (.inr s1)) : Pr b n 10 d s (.inl (flt 1 s1.p)) := by
  obtain ⟨f0, q0⟩ := p0
  exact ⟨f0 + 1, (Or.inr (Or.inr (Or.inr (Or.inr (Or.inr (Or.inr (Or.inr (Or.inr (Or.inr (Or.inr (Or.inr (Or.inr (Or.inr (Or.inr (Or.inr (Or.inr (Or.inr (Or.inr (Or.inr (Or.inr (Or.inr (Or.inr (Or.inr (Or.inr (Or.inl ⟨s1, rfl, rfl, h0, PrF_le f0 (f0) (by omega) _ _ _ _ q0⟩)))))))))))))))))))))))))⟩
theorem Pr_cpF {b : Nat → Nat} {n d : Nat} {s : Sx} {s1 : Sx} {w : Nat} {e : Int32} (h0 : ca_ b n cp_ s1.p = some w) (p0 : Pr b n 2 d s (.inr s1)) (p1 : Pr b n 2 d s1.adv (.inl e)) : Pr b n 10 d s (.inl e) := by
  obtain ⟨f0, q0⟩ := p0
  obtain ⟨f1, q1⟩ := p1
  exact ⟨(max f0 f1) + 1, (Or.inr (Or.inr (Or.inr (Or.inr (Or.inr (Or.inr (Or.inr (Or.inr (Or.inr (Or.inr (Or.inr (Or.inr (Or.inr (Or.inr (Or.inr (Or.inr (Or.inr (Or.inr (Or.inr (Or.inr (Or.inr (Or.inr (Or.inr (Or.inr (Or.inr (Or.inl ⟨s1, w, e, rfl, rfl, h0, PrF_le f0 (max f0 f1) (by omega) _ _ _ _ q0, PrF_le f1 (max f0 f1) (by omega) _ _ _ _ q1⟩))))))))))))))))))))))))))⟩
theorem Pr_cpd {b : Nat → Nat} {n d : Nat} {s : Sx} {s1 : Sx} {w : Nat} {s2 : Sx} (h0 : ca_ b n cp_ s1.p = some w) (p0 : Pr b n 2 d s (.inr s1)) (p1 : Pr b n 2 d s1.adv (.inr s2)) : Pr b n 10 d s (.inr (s2.emit w 0)) := by
  obtain ⟨f0, q0⟩ := p0
  obtain ⟨f1, q1⟩ := p1
  exact ⟨(max f0 f1) + 1, (Or.inr (Or.inr (Or.inr (Or.inr (Or.inr (Or.inr (Or.inr (Or.inr (Or.inr (Or.inr (Or.inr (Or.inr (Or.inr (Or.inr (Or.inr (Or.inr (Or.inr (Or.inr (Or.inr (Or.inr (Or.inr (Or.inr (Or.inr (Or.inr (Or.inr (Or.inr ⟨s1, w, s2, rfl, rfl, h0, PrF_le f0 (max f0 f1) (by omega) _ _ _ _ q0, PrF_le f1 (max f0 f1) (by omega) _ _ _ _ q1⟩))))))))))))))))))))))))))⟩
theorem Pr_ind {b : Nat → Nat} {n : Nat} {P : Nat → Nat → Sx → Res → Prop} (c_chainB : ∀ (d : Nat) (s : Sx) (l : Nat) (e : Int32), l < 4 → Pr b n (opd_ l) d s (.inl e) → P (opd_ l) d s (.inl e) → P l d s (.inl e)) (c_chain : ∀ (d : Nat) (s : Sx) (l : Nat) (s1 : Sx) (x : Res), l < 4 → Pr b n (opd_ l) d s (.inr s1) → P (opd_ l) d s (.inr s1) → Pr b n (4 + l) d s1 x → P (4 + l) d s1 x → P l d s x) (c_stop : ∀ (d : Nat) (s : Sx) (l : Nat), l < 4 → ca_ b n (jt_ l) s.p = none → P (4 + l) d s (.inr s)) (c_arB : ∀ (d : Nat) (s : Sx) (l : Nat) (w : Nat) (e : Int32), l < 4 → 2 ≤ l → ca_ b n (jt_ l) s.p = some w → Pr b n (opd_ l) d s.adv (.inl e) → P (opd_ l) d s.adv (.inl e) → P (4 + l) d s (.inl e)) (c_ar : ∀ (d : Nat) (s : Sx) (l : Nat) (w : Nat) (s1 : Sx) (x : Res), l < 4 → 2 ≤ l → ca_ b n (jt_ l) s.p = some w → Pr b n (opd_ l) d s.adv (.inr s1) → P (opd_ l) d s.adv (.inr s1) → Pr b n (4 + l) d (s1.emit w 0) x → P (4 + l) d (s1.emit w 0) x → P (4 + l) d s x) (c_lgB : ∀ (d : Nat) (s : Sx) (l : Nat) (w : Nat) (e : Int32), l < 2 → ca_ b n (jt_ l) s.p = some w → Pr b n (opd_ l) d (s.adv.emit w 0) (.inl e) → P (opd_ l) d (s.adv.emit w 0) (.inl e) → P (4 + l) d s (.inl e)) (c_lg : ∀ (d : Nat) (s : Sx) (l : Nat) (w : Nat) (s1 : Sx) (x : Res), l < 2 → ca_ b n (jt_ l) s.p = some w → Pr b n (opd_ l) d (s.adv.emit w 0) (.inr s1) → P (opd_ l) d (s.adv.emit w 0) (.inr s1) → Pr b n (4 + l) d (s1.land s.c) x → P (4 + l) d (s1.land s.c) x → P (4 + l) d s x) (c_letter : ∀ (d : Nat) (s : Sx) (k : Nat), ca_ b n lt_ s.p = some k → P 9 d s (.inr (s.adv.emit 9 k))) (c_num : ∀ (d : Nat) (s : Sx) (k : Nat), 1 ≤ k → k ≤ 5 → (∀ j, j < k → ¬ dg_ b n (s.p + j) = none) → dg_ b n (s.p + k) = none → P 9 d s (.inr ((s.to (s.p + k)).emit 8 (nu_ b s.p k)))) (c_numB : ∀ (d : Nat) (s : Sx), (∀ j, j < 6 → ¬ dg_ b n (s.p + j) = none) → P 9 d s (.inl (flt 2 (s.p + 5)))) (c_factB : ∀ (d : Nat) (s : Sx), ca_ b n lt_ s.p = none → dg_ b n s.p = none → ¬ (s.p < n ∧ b s.p = 91) → P 9 d s (.inl (flt 1 s.p))) (c_opD : ∀ (d : Nat) (s : Sx), (s.p < n ∧ b s.p = 91) → ¬ d < 6 → P 9 d s (.inl (flt 5 s.p))) (c_opE : ∀ (d : Nat) (s : Sx) (e : Int32), (s.p < n ∧ b s.p = 91) → d < 6 → Pr b n 2 (d + 1) s.adv (.inl e) → P 2 (d + 1) s.adv (.inl e) → P 9 d s (.inl e)) (c_opC : ∀ (d : Nat) (s : Sx) (s1 : Sx), (s.p < n ∧ b s.p = 91) → d < 6 → ¬ (s1.p < n ∧ b s1.p = 93) → Pr b n 2 (d + 1) s.adv (.inr s1) → P 2 (d + 1) s.adv (.inr s1) → P 9 d s (.inl (flt 1 s1.p))) (c_opn : ∀ (d : Nat) (s : Sx) (s1 : Sx), (s.p < n ∧ b s.p = 91) → d < 6 → (s1.p < n ∧ b s1.p = 93) → Pr b n 2 (d + 1) s.adv (.inr s1) → P 2 (d + 1) s.adv (.inr s1) → P 9 d s (.inr s1.adv)) (c_ntD : ∀ (d : Nat) (s : Sx), (s.p < n ∧ b s.p = 33) → ¬ d < 6 → P 8 d s (.inl (flt 5 s.p))) (c_ntE : ∀ (d : Nat) (s : Sx) (e : Int32), (s.p < n ∧ b s.p = 33) → d < 6 → Pr b n 8 (d + 1) s.adv (.inl e) → P 8 (d + 1) s.adv (.inl e) → P 8 d s (.inl e)) (c_nt : ∀ (d : Nat) (s : Sx) (s1 : Sx), (s.p < n ∧ b s.p = 33) → d < 6 → Pr b n 8 (d + 1) s.adv (.inr s1) → P 8 (d + 1) s.adv (.inr s1) → P 8 d s (.inr (s1.emit 10 0))) (c_paD : ∀ (d : Nat) (s : Sx), (s.p < n ∧ b s.p = 40) → ¬ d < 6 → P 8 d s (.inl (flt 5 s.p))) (c_paE : ∀ (d : Nat) (s : Sx) (e : Int32), (s.p < n ∧ b s.p = 40) → d < 6 → Pr b n 0 (d + 1) s.adv (.inl e) → P 0 (d + 1) s.adv (.inl e) → P 8 d s (.inl e)) (c_paC : ∀ (d : Nat) (s : Sx) (s1 : Sx), (s.p < n ∧ b s.p = 40) → d < 6 → ¬ (s1.p < n ∧ b s1.p = 41) → Pr b n 0 (d + 1) s.adv (.inr s1) → P 0 (d + 1) s.adv (.inr s1) → P 8 d s (.inl (flt 1 s1.p))) (c_par : ∀ (d : Nat) (s : Sx) (s1 : Sx), (s.p < n ∧ b s.p = 40) → d < 6 → (s1.p < n ∧ b s1.p = 41) → Pr b n 0 (d + 1) s.adv (.inr s1) → P 0 (d + 1) s.adv (.inr s1) → P 8 d s (.inr s1.adv)) (c_cmp : ∀ (d : Nat) (s : Sx) (x : Res), ¬ (s.p < n ∧ (b s.p = 33 ∨ b s.p = 40)) → Pr b n 10 d s x → P 10 d s x → P 8 d s x) (c_cpE : ∀ (d : Nat) (s : Sx) (e : Int32), Pr b n 2 d s (.inl e) → P 2 d s (.inl e) → P 10 d s (.inl e)) (c_cpX : ∀ (d : Nat) (s : Sx) (s1 : Sx), ca_ b n cp_ s1.p = none → Pr b n 2 d s (.inr s1) → P 2 d s (.inr s1) → P 10 d s (.inl (flt 1 s1.p))) (c_cpF : ∀ (d : Nat) (s : Sx) (s1 : Sx) (w : Nat) (e : Int32), ca_ b n cp_ s1.p = some w → Pr b n 2 d s (.inr s1) → P 2 d s (.inr s1) → Pr b n 2 d s1.adv (.inl e) → P 2 d s1.adv (.inl e) → P 10 d s (.inl e)) (c_cpd : ∀ (d : Nat) (s : Sx) (s1 : Sx) (w : Nat) (s2 : Sx), ca_ b n cp_ s1.p = some w → Pr b n 2 d s (.inr s1) → P 2 d s (.inr s1) → Pr b n 2 d s1.adv (.inr s2) → P 2 d s1.adv (.inr s2) → P 10 d s (.inr (s2.emit w 0))) : ∀ t d s r, Pr b n t d s r → P t d s r := by
  have key : ∀ f t d s r, PrF b n f t d s r → P t d s r := by
    intro f
    induction f with
    | zero => intro t d s r h; exact absurd h (fun x => x)
    | succ f ih =>
      intro t d s r h
      have h : PrS b n (PrF b n f) t d s r := h
      unfold PrS at h
      rcases h with ⟨l, e, rfl, rfl, h0, q0⟩ | ⟨l, s1, x, rfl, rfl, h0, q0, q1⟩ | ⟨l, rfl, rfl, h0, h1⟩ | ⟨l, w, e, rfl, rfl, h0, h1, h2, q0⟩ | ⟨l, w, s1, x, rfl, rfl, h0, h1, h2, q0, q1⟩ | ⟨l, w, e, rfl, rfl, h0, h1, q0⟩ | ⟨l, w, s1, x, rfl, rfl, h0, h1, q0, q1⟩ | ⟨k, rfl, rfl, h0⟩ | ⟨k, rfl, rfl, h0, h1, h2, h3⟩ | ⟨rfl, rfl, h0⟩ | ⟨rfl, rfl, h0, h1, h2⟩ | ⟨rfl, rfl, h0, h1⟩ | ⟨e, rfl, rfl, h0, h1, q0⟩ | ⟨s1, rfl, rfl, h0, h1, h2, q0⟩ | ⟨s1, rfl, rfl, h0, h1, h2, q0⟩ | ⟨rfl, rfl, h0, h1⟩ | ⟨e, rfl, rfl, h0, h1, q0⟩ | ⟨s1, rfl, rfl, h0, h1, q0⟩ | ⟨rfl, rfl, h0, h1⟩ | ⟨e, rfl, rfl, h0, h1, q0⟩ | ⟨s1, rfl, rfl, h0, h1, h2, q0⟩ | ⟨s1, rfl, rfl, h0, h1, h2, q0⟩ | ⟨x, rfl, rfl, h0, q0⟩ | ⟨e, rfl, rfl, q0⟩ | ⟨s1, rfl, rfl, h0, q0⟩ | ⟨s1, w, e, rfl, rfl, h0, q0, q1⟩ | ⟨s1, w, s2, rfl, rfl, h0, q0, q1⟩
      · exact c_chainB d s _ _ h0 ⟨f, q0⟩ (ih _ _ _ _ q0)
      · exact c_chain d s _ _ _ h0 ⟨f, q0⟩ (ih _ _ _ _ q0) ⟨f, q1⟩ (ih _ _ _ _ q1)
      · exact c_stop d s _ h0 h1
      · exact c_arB d s _ _ _ h0 h1 h2 ⟨f, q0⟩ (ih _ _ _ _ q0)
      · exact c_ar d s _ _ _ _ h0 h1 h2 ⟨f, q0⟩ (ih _ _ _ _ q0) ⟨f, q1⟩ (ih _ _ _ _ q1)
      · exact c_lgB d s _ _ _ h0 h1 ⟨f, q0⟩ (ih _ _ _ _ q0)
      · exact c_lg d s _ _ _ _ h0 h1 ⟨f, q0⟩ (ih _ _ _ _ q0) ⟨f, q1⟩ (ih _ _ _ _ q1)
      · exact c_letter d s _ h0
      · exact c_num d s _ h0 h1 h2 h3
      · exact c_numB d s h0
      · exact c_factB d s h0 h1 h2
      · exact c_opD d s h0 h1
      · exact c_opE d s _ h0 h1 ⟨f, q0⟩ (ih _ _ _ _ q0)
      · exact c_opC d s _ h0 h1 h2 ⟨f, q0⟩ (ih _ _ _ _ q0)
      · exact c_opn d s _ h0 h1 h2 ⟨f, q0⟩ (ih _ _ _ _ q0)
      · exact c_ntD d s h0 h1
      · exact c_ntE d s _ h0 h1 ⟨f, q0⟩ (ih _ _ _ _ q0)
      · exact c_nt d s _ h0 h1 ⟨f, q0⟩ (ih _ _ _ _ q0)
      · exact c_paD d s h0 h1
      · exact c_paE d s _ h0 h1 ⟨f, q0⟩ (ih _ _ _ _ q0)
      · exact c_paC d s _ h0 h1 h2 ⟨f, q0⟩ (ih _ _ _ _ q0)
      · exact c_par d s _ h0 h1 h2 ⟨f, q0⟩ (ih _ _ _ _ q0)
      · exact c_cmp d s _ h0 ⟨f, q0⟩ (ih _ _ _ _ q0)
      · exact c_cpE d s _ ⟨f, q0⟩ (ih _ _ _ _ q0)
      · exact c_cpX d s _ h0 ⟨f, q0⟩ (ih _ _ _ _ q0)
      · exact c_cpF d s _ _ _ h0 ⟨f, q0⟩ (ih _ _ _ _ q0) ⟨f, q1⟩ (ih _ _ _ _ q1)
      · exact c_cpd d s _ _ _ h0 ⟨f, q0⟩ (ih _ _ _ _ q0) ⟨f, q1⟩ (ih _ _ _ _ q1)
  intro t d s r h
  obtain ⟨f, h⟩ := h
  exact key f t d s r h
