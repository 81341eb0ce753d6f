-- ===== the law's code, as it is meant: a stack machine on lists =====
def sp_fin (st : List Int32) : Int32 := match st with
  | [x] => x
  | _ => 0
def sp_rk (w a b : Int32) : Int32 := if w = 0 then a + b else if w = 1 then a - b else if w = 2 then a * b else if w = 3 then a / b else if w = 4 then ro_rem a b else if w = 5 then (if b ≤ a then 0 else 1) else if w = 6 then (if a ≤ b then 0 else 1) else if a = b then 1 else 0
def sp_ev (op ar lt : Nat → Int32) (to : Nat) : Nat → Nat → List Int32 → Int32
  | 0, _, st => sp_fin st
  | n + 1, k, st =>
    if k < to ∧ k < 200 then
      if op k = 8 ∨ op k = 9 then
        if 32 ≤ st.length ∨ (op k = 9 ∧ ¬ ro_in (ar k) 12) then 0
        else sp_ev op ar lt to n (k + 1) ((if op k = 8 then ar k else lt (ar k).toNatClampNeg) :: st)
      else if op k < 10 then
        match st with
        | b :: a :: r => if b = 0 ∧ (op k = 3 ∨ op k = 4) then 0 else sp_ev op ar lt to n (k + 1) (sp_rk (op k) a b :: r)
        | _ => 0
      else
        match st with
        | [] => 0
        | y :: r => if op k = 10 then sp_ev op ar lt to n (k + 1) ((if y = 0 then 1 else 0) :: r)
          else if (¬ y = 0) ↔ op k = 12 then sp_ev op ar lt to n (ar k).toNatClampNeg (y :: r)
          else sp_ev op ar lt to n (k + 1) r
    else sp_fin st
/-- the first place from i on, of n, with p -/
def sp_first (p : Nat → Bool) : Nat → Nat → Option Nat
  | 0, _ => none
  | n + 1, i => if p i then some i else sp_first p n (i + 1)
/-- W: a law's cells by their place in it: 0 the object (3: clauses), 1 code, 2 operand, 3 kind, 4 amountStart, 5 conditionStart, 6 conditionEnd -/
def sp_hold (W : Nat → Nat → Int32) (lt : Nat → Int32) (c : Nat) : Bool := decide (¬ sp_ev (W 1) (W 2) lt (W 6 c).toNatClampNeg 200 (W 5 c).toNatClampNeg [] = 0)
def sp_which (W : Nat → Nat → Int32) (lt : Nat → Int32) (kind : Int32) : Option Nat := sp_first (fun c => decide (W 3 c = kind) && sp_hold W lt c) (W 0 3).toNatClampNeg 0
def sp_amt (W : Nat → Nat → Int32) (lt : Nat → Int32) (kind most : Int32) : Int32 := match sp_which W lt kind with
  | none => 0
  | some c => ro_mx 0 (ro_mn most (sp_ev (W 1) (W 2) lt (W 5 c).toNatClampNeg 200 (W 4 c).toNatClampNeg []))
def sp_any (W : Nat → Nat → Int32) (lt : Nat → Int32) (kind : Int32) : Bool := (sp_which W lt kind).isSome
-- ===== an evening, as it is meant =====
def sp_sum (f : Nat → Nat) : Nat → Nat
  | 0 => 0
  | n + 1 => sp_sum f n + f n
/-- S: a score's cells: 0 the object (5 notes, 6 bars, 7 acts), 1 voice, 2 pitch, 3 length, 4 bar, 5 act -/
def sp_lt (S : Nat → Nat → Int32) (mo ss ra : Nat → Int32) (sh : Int32) (i k : Nat) : Nat → Int32 := fun j => [S 1 i, S 2 i + sh, S 3 i, nI i, S 4 i, nI k, S 5 i, ra (S 5 i).toNatClampNeg, ss k / 12, ro_rem (ss k) 12, mo (ss k).toNatClampNeg, 0].getD j 0
def sp_D (S W : Nat → Nat → Int32) (told nailed : Int32) (mo ss lo hi ra : Nat → Int32) (sh : Int32) (i k : Nat) : Nat :=
  if bt told k = true ∧ bt nailed k = false ∧ ¬ S 2 i + sh < lo k ∧ S 2 i + sh ≤ hi k then (sp_amt W (sp_lt S mo ss ra sh i k) 0 99).toNatClampNeg else 0
def sp_F (S W : Nat → Nat → Int32) (mo ss ra : Nat → Int32) (sh : Int32) (i k : Nat) : Nat := (S 5 i).toNatClampNeg + (if sp_any W (sp_lt S mo ss ra sh i k) 1 then 1 else 0)
def sp_share (um : Nat → Int32) (a b d : Nat) : Nat := if um a = 0 then (if a = b then d else 0) else if (a + 1 = b ∨ b + 1 = a) ∧ a / 12 = b / 12 then d / 3 else 0
/-- what of note i through slate k falls on seat s in act a: D drops, F their act -/
def sp_fall (D F : Nat → Nat → Nat) (um ss : Nat → Int32) (a s i k : Nat) : Nat := if 0 < D i k ∧ F i k = a then sp_share um (ss k).toNatClampNeg s (D i k) else 0
/-- what has fallen there ahead of the pair number t = 16 i + k -/
def sp_prev (D F : Nat → Nat → Nat) (um ss : Nat → Int32) (a s t : Nat) : Nat := sp_sum (fun u => sp_fall D F um ss a s (u / 16) (u % 16)) t
def sp_wet (D F : Nat → Nat → Nat) (um ss bu : Nat → Int32) (N a s : Nat) : Nat := sp_prev D F um ss a s (16 * N) - (bu s).toNatClampNeg
def sp_rest (D F : Nat → Nat → Nat) (um ss bu : Nat → Int32) (a s t : Nat) : Nat := (sp_prev D F um ss a s (t + 1) - (bu s).toNatClampNeg) - (sp_prev D F um ss a s t - (bu s).toNatClampNeg)
def sp_bn (D F : Nat → Nat → Nat) (um ss bu : Nat → Int32) (i : Nat) : Nat := sp_sum (fun a => sp_sum (fun s => sp_sum (fun k => sp_rest D F um ss bu a s (16 * i + k)) 16) 96) 4
def sp_bs (D F : Nat → Nat → Nat) (um ss bu : Nat → Int32) (N k : Nat) : Nat := sp_sum (fun a => sp_sum (fun s => sp_sum (fun i => sp_rest D F um ss bu a s (16 * i + k)) N) 96) 4
/-- the evening's arrays hold what they should -/
def iv_E (S W : Nat → Nat → Int32) (told nailed : Int32) (um bu mo ss lo hi ra dr fi we bn bs : Nat → Int32) : Prop :=
  ∃ N, S 0 5 = nI N ∧ N ≤ 32 ∧
  (∀ i k, i < N → k < 16 → dr (16 * i + k) = nI (sp_D S W told nailed mo ss lo hi ra 0 i k) ∧ (0 < sp_D S W told nailed mo ss lo hi ra 0 i k → fi (16 * i + k) = nI (sp_F S W mo ss ra 0 i k))) ∧
  (∀ a s, a < 4 → s < 96 → we (96 * a + s) = nI (sp_wet (sp_D S W told nailed mo ss lo hi ra 0) (sp_F S W mo ss ra 0) um ss bu N a s)) ∧
  (∀ i, i < 32 → bn i = nI (if i < N then sp_bn (sp_D S W told nailed mo ss lo hi ra 0) (sp_F S W mo ss ra 0) um ss bu i else 0)) ∧
  (∀ k, k < 16 → bs k = nI (sp_bs (sp_D S W told nailed mo ss lo hi ra 0) (sp_F S W mo ss ra 0) um ss bu N k))
-- ===== class and reference side by side =====
def iv_U (c m : Nat → Int32) : Prop := ∀ i, i < 96 → m i = c i ∧ (c i = 0 ∨ c i = 1)
def iv_B (c m : Nat → Int32) : Prop := ∀ i, i < 96 → m i = c i ∧ ∃ n, n ≤ 99 ∧ c i = nI n
def iv_S (ss lo hi mss mlo mhi : Nat → Int32) (told nailed mnailed : Int32) : Prop :=
  mnailed = nailed ∧ (∀ k, 16 ≤ k → bt told k = false) ∧ (∀ k, bt nailed k = true → bt told k = true) ∧
  ∀ k, k < 16 → (∃ n, n < 96 ∧ ss k = nI n) ∧ (bt told k = true → mss k = ss k ∧ mlo k = lo k ∧ mhi k = hi k) ∧ (bt told k = false → mss k = -1)
def iv_R (c m : Nat → Int32) : Prop := ∀ a, a < 4 → m a = c a ∧ ∃ n, n ≤ 9 ∧ c a = nI n
def iv_G (rk st mrk mst : Nat → Int32) (told mtold : Int32) : Prop :=
  mtold = told ∧ (∀ g, 10 ≤ g → bt told g = false) ∧
  (∀ g, g < 10 → bt told g = true → mrk g = rk g ∧ ∃ n, 1 ≤ n ∧ n ≤ 99 ∧ rk g = nI n) ∧
  (∀ a g, a < 4 → g < 10 → bt told g = true → mst (10 * a + g) = st (10 * a + g)) ∧
  (∀ a g, a < 4 → g < 10 → st (10 * a + g) = 255 ∨ (bt told g = true ∧ ∃ n, n < 96 ∧ st (10 * a + g) = nI n)) ∧
  (∀ a g g', a < 4 → g < 10 → g' < 10 → st (10 * a + g) = st (10 * a + g') → ¬ st (10 * a + g) = 255 → g = g')
def iv_N (gs sl ns mgs msl mns : Nat → Int32) (ev pd mev mpd : Int32) : Prop :=
  mev = ev ∧ mpd = pd ∧ (∀ g, g < 10 → mgs g = gs g) ∧ (∀ k, k < 16 → msl k = sl k) ∧ (∀ i, i < 32 → mns i = ns i)
def iv_X (x mx : Int32) : Prop := mx = x ∧ ∃ n, n < 65536 ∧ x = nI n
def iv_T (bb mbb : Nat → Int32) (sz msz : Int32) : Prop := msz = sz ∧ (∃ n, n ≤ 220 ∧ sz = nI n) ∧ ∀ i, i < 220 → (mbb i &&& 255) = bb i ∧ ∃ n, n < 256 ∧ bb i = nI n
/-- the score: M the reference's five rows -/
def iv_C (S M : Nat → Nat → Int32) (n b a : Int32) : Prop :=
  n = S 0 5 ∧ b = S 0 6 ∧ a = S 0 7 ∧ ∃ N B A, N ≤ 32 ∧ B ≤ 12 ∧ A ≤ 4 ∧ S 0 5 = nI N ∧ S 0 6 = nI B ∧ S 0 7 = nI A ∧
  (∀ j i, 1 ≤ j → j ≤ 5 → i < N → M j i = S j i) ∧
  ∃ V Pt Ln Br Ac : Nat → Nat, (∀ i, i < N → S 1 i = nI (V i) ∧ V i < 4 ∧ S 2 i = nI (Pt i) ∧ Pt i < 48 ∧ S 3 i = nI (Ln i) ∧ 1 ≤ Ln i ∧ Ln i ≤ 9 ∧ S 4 i = nI (Br i) ∧ Br i < B ∧ S 5 i = nI (Ac i) ∧ Ac i < A) ∧
  (∀ i, i + 1 < N → Ac i ≤ Ac (i + 1) ∧ Br i ≤ Br (i + 1)) ∧ (∀ x, x < A → ∃ i, i < N ∧ Ac i = x)
-- code that is in order: a value, a condition; s: how much of the stack it may use
def sg_E (op ar : Nat → Int32) : Nat → Nat → Nat → Nat → Prop
  | 0, _, _, _ => False
  | n + 1, s, a, b => (b = a + 1 ∧ 1 ≤ s ∧ (op a = 8 ∨ (op a = 9 ∧ ro_in (ar a) 12))) ∨
    ∃ m w, a < m ∧ m + 1 < b ∧ w < 5 ∧ op (b - 1) = nI w ∧ 2 ≤ s ∧ sg_E op ar n s a m ∧ sg_E op ar n (s - 1) m (b - 1)
def sg_C (op ar : Nat → Int32) : Nat → Nat → Nat → Prop
  | 0, _, _ => False
  | n + 1, a, b => (∃ m w, a < m ∧ m + 1 < b ∧ 5 ≤ w ∧ w ≤ 7 ∧ op (b - 1) = nI w ∧ sg_E op ar n 32 a m ∧ sg_E op ar n 31 m (b - 1)) ∨
    (a + 1 < b ∧ op (b - 1) = 10 ∧ sg_C op ar n a (b - 1)) ∨
    ∃ m, a < m ∧ m + 1 < b ∧ (op m = 11 ∨ op m = 12) ∧ ar m = nI b ∧ sg_C op ar n a m ∧ sg_C op ar n (m + 1) b
/-- how the reference writes an operation -/
def iv_mop (w : Nat) : Nat := if w < 8 then w + 2 else if w = 8 then 0 else if w = 9 then 1 else w
def iv_let (kd : Nat) : Nat := [100, 115, 109, 113].getD kd 0
/-- the law: M 0 clauseOf, 1 codeFrom, 2 codeHalf, 3 codeTo, 4 codes; cl: the reference's clauses -/
def iv_W (W M : Nat → Nat → Int32) (cl : Int32) : Prop :=
  cl = W 0 3 ∧ ∃ C, C ≤ 14 ∧ W 0 3 = nI C ∧ ∀ c, c < C → ∃ kd a h e, kd < 4 ∧ a ≤ h ∧ h < e ∧ e ≤ 200 ∧ W 3 c = nI kd ∧ W 4 c = nI a ∧ W 5 c = nI h ∧ W 6 c = nI e ∧ M 0 c = nI (iv_let kd) ∧ M 1 c = nI a ∧ M 2 c = nI h ∧ M 3 c = nI e ∧
  (∀ k, a ≤ k → k < e → ∃ w v, w ≤ 12 ∧ v < 1048576 ∧ W 1 k = nI w ∧ W 2 k = nI v ∧ M 4 k = nI (1048576 * iv_mop w + v)) ∧
  (¬ kd = 1 → ∃ n, sg_E (W 1) (W 2) n 32 a h) ∧ ∃ n, sg_C (W 1) (W 2) n h e
def iv_SW (μ : ro_Mem) : Prop := (∃ s, (s = 15 ∨ s = 44) ∧ μ 1 1 = nI s ∧ μ 0 3 = nI (59 - s)) ∧ ∃ w, (w = 21 ∨ w = 51) ∧ μ 1 2 = nI w ∧ μ 50 0 = nI (72 - w)
def iv_sc (μ : ro_Mem) : Nat → Nat → Int32 := fun j => if j ≤ 5 then μ (ro_rf μ 1 1 + j) else fun _ => 0
def iv_lw (μ : ro_Mem) : Nat → Nat → Int32 := fun j => if j ≤ 6 then μ (ro_rf μ 1 2 + j) else fun _ => 0
def iv_mc (μ : ro_Mem) : Nat → Nat → Int32 := fun j => if 1 ≤ j ∧ j ≤ 5 then μ (217 + j) else fun _ => 0
def iv_mw (μ : ro_Mem) : Nat → Nat → Int32 := fun j => [μ 235, μ 236, μ 237, μ 238, μ 234].getD j (μ 234)
def iv_now (μ : ro_Mem) : Prop := iv_U (μ 3) (μ 208) ∧ iv_B (μ 4) (μ 209) ∧ iv_B (μ 5) (μ 210) ∧ iv_S (μ 6) (μ 7) (μ 8) (μ 211) (μ 212) (μ 213) (μ 2 6) (μ 2 7) (μ 207 1) ∧ iv_R (μ 9) (μ 214) ∧ iv_G (μ 10) (μ 11) (μ 215) (μ 216) (μ 2 11) (μ 207 2) ∧ iv_N (μ 12) (μ 13) (μ 14) (μ 257) (μ 258) (μ 259) (μ 2 12) (μ 2 13) (μ 207 70) (μ 207 71) ∧ iv_X (μ 2 17) (μ 207 0)
def iv_kept (μ : ro_Mem) : Prop := iv_U (μ 32) (μ 261) ∧ iv_B (μ 33) (μ 262) ∧ iv_B (μ 34) (μ 263) ∧ iv_S (μ 35) (μ 36) (μ 37) (μ 264) (μ 265) (μ 266) (μ 31 6) (μ 31 7) (μ 207 78) ∧ iv_R (μ 38) (μ 267) ∧ iv_G (μ 39) (μ 40) (μ 268) (μ 269) (μ 31 11) (μ 207 79) ∧ iv_N (μ 41) (μ 42) (μ 43) (μ 270) (μ 271) (μ 272) (μ 31 12) (μ 31 13) (μ 207 80) (μ 207 81) ∧ iv_X (μ 31 17) (μ 207 77)
def iv_eve (μ : ro_Mem) : Prop := iv_E (iv_sc μ) (iv_lw μ) (μ 2 6) (μ 2 7) (μ 3) (μ 4) (μ 5) (μ 6) (μ 7) (μ 8) (μ 9) (μ 63) (μ 64) (μ 65) (μ 66) (μ 67)
def Inv (μ : ro_Mem) : Prop :=
  iv_now μ ∧ ((μ 0 2 = 0 ∧ μ 207 76 = 0) ∨ (μ 0 2 = 1 ∧ μ 207 76 = 1 ∧ iv_kept μ)) ∧ iv_T (μ 61) (μ 217) (μ 60 1) (μ 207 13) ∧ iv_SW μ ∧
  iv_C (iv_sc μ) (iv_mc μ) (μ 207 18) (μ 207 19) (μ 207 20) ∧ iv_W (iv_lw μ) (iv_mw μ) (μ 207 38) ∧
  (μ 0 7 = 1 ∨ (μ 0 7 = 0 ∧ iv_eve μ)) ∧ μ 207 52 = 0
