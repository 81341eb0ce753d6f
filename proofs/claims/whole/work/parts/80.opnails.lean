theorem bt_tb (S i : Nat) (hi : i < 32) : bt (nI S) i = S.testBit i := by
  show (BitVec.ofNat 32 S).getLsbD i = _
  rw [BitVec.getLsbD_ofNat]
  simp [hi]
def SubS (S Y : Nat) : Prop := ∀ k, S.testBit k = true → Y.testBit k = true
theorem SubS.le {S Y : Nat} (h : SubS S Y) : S ≤ Y := Nat.le_of_testBit h
theorem rt_sub {S Y : Nat} (hS : S < 65536) (hY : Y < 65536) : ((nI S &&& (nI Y ^^^ (-1))) = 0) ↔ SubS S Y := by
  have hhi : ∀ X, X < 65536 → ∀ k, 16 ≤ k → X.testBit k = false := fun X hX k hk => Nat.testBit_lt_two_pow (Nat.lt_of_lt_of_le (show X < 2 ^ 16 from hX) (Nat.pow_le_pow_right (by decide) hk))
  constructor
  · intro h k hk
    by_cases c : k < 16
    · have : bt (nI S &&& (nI Y ^^^ (-1))) k = bt 0 k := by rw [h]
      rw [b_and, b_xor, b_m1 k (by omega), b_0, bt_tb S k (by omega), bt_tb Y k (by omega), hk] at this
      simpa using this
    · rw [hhi S hS k (by omega)] at hk; cases hk
  · intro h
    apply b_ext
    intro i hi
    rw [b_and, b_xor, b_m1 i hi, b_0, bt_tb S i hi, bt_tb Y i hi]
    cases c : S.testBit i
    · rfl
    · rw [h i c]; rfl
def my_ (p : Nat → Bool) : Nat → Nat
  | 0 => 0
  | k + 1 => if p k = true then 2 ^ k + my_ p k else my_ p k
theorem my_lt {p : Nat → Bool} : ∀ n, my_ p n < 2 ^ n := by
  intro n
  induction n with
  | zero => show 0 < 2 ^ 0; decide
  | succ n ih =>
    unfold my_
    rw [Nat.pow_succ]
    by_cases c : p n = true
    · rw [if_pos c]; omega
    · rw [if_neg c]; omega
theorem my_bit {p : Nat → Bool} : ∀ n k, my_ p n / 2 ^ k % 2 = if k < n ∧ p k = true then 1 else 0 := by
  intro n
  induction n with
  | zero => intro k; show 0 / 2 ^ k % 2 = _; rw [Nat.zero_div, if_neg (by omega)]
  | succ n ih =>
    intro k
    unfold my_
    by_cases c : p n = true
    · rw [if_pos c, bit_top (my_lt n), ih k]
      by_cases e : k = n
      · rw [if_pos e, e, if_neg (by omega), if_pos ⟨by omega, c⟩]
      · rw [if_neg e]
        by_cases c2 : k < n ∧ p k = true
        · rw [if_pos c2, if_pos ⟨by omega, c2.2⟩]
        · rw [if_neg c2, if_neg (fun h => c2 ⟨by omega, h.2⟩)]
    · rw [if_neg c, ih k]
      by_cases c2 : k < n ∧ p k = true
      · rw [if_pos c2, if_pos ⟨by omega, c2.2⟩]
      · rw [if_neg c2, if_neg (fun h => c2 ⟨by
          rcases Nat.lt_or_ge k n with q | q
          · exact q
          · have : k = n := by omega
            rw [this] at h
            exact absurd h.2 c, h.2⟩)]
/-- the slates that may be nailed -/
def op_ (m : ro_Mem) (k : Nat) : Bool := bt (m 2 6) k && !(bt (m 2 7) k)
theorem rt_may {M : ro_Mem} {N : Nat} (hw : Wd M N) {v2 : Int32} : fl_X12_nails_41 v2 M (0, 0) = some (nI (my_ (op_ M) 16)) := by
  have hS := hw.1.2.2.2.1
  have key := rt_loop (b := fun rec (s : Int32 × Int32) => fb_X12_nails_41 v2 M rec s.1 s.2) (fun k => (nI (my_ (op_ M) k), nI k)) 16 (e := some (nI (my_ (op_ M) 16))) (fun k hk rec => by
    show fb_X12_nails_41 v2 M rec (nI (my_ (op_ M) k)) (nI k) = rec (nI (if op_ M k = true then 2 ^ k + my_ (op_ M) k else my_ (op_ M) k), nI (k + 1))
    unfold fb_X12_nails_41
    rw [if_neg (show ¬ (16 : Int32) ≤ nI k from nI_ge (b := 16) hk (by decide)), rt_slateI hS hk, Option.bind_some, nI_1]
    by_cases c1 : bt (M 2 6) k = true
    · rw [if_pos c1, if_neg rt_10, rt_nailM (by omega), hS.1, Option.bind_some]
      by_cases c2 : bt (M 2 7) k = true
      · rw [if_pos c2, if_neg rt_10, if_neg (show ¬ op_ M k = true by unfold op_; rw [c2]; simp)]
      · have c2' : bt (M 2 7) k = false := by simpa using c2
        rw [if_neg c2, if_pos rfl, if_pos (show op_ M k = true by unfold op_; rw [c1, c2']; rfl), rt_shl1 (by omega), fa_or, ro_lt]
        have := Nat.two_pow_add_eq_or_of_lt (my_lt (p := op_ M) k) 1
        rw [Nat.mul_one] at this
        rw [Nat.or_comm, ← this]
    · rw [if_neg c1, if_pos rfl, if_neg (show ¬ op_ M k = true by unfold op_; simp [c1])]) (fun rec => rfl) ro_FU (by decide)
  exact key
def lex_ (S T : Nat) : Prop := cn_ S < cn_ T ∨ (cn_ S = cn_ T ∧ S ≤ T)
theorem rt_least {m M : ro_Mem} {N G Y : Nat} (hw : Wd m N) (hP : LTd m N G 40 M) (hY : Y < 65536) (hYo : OkG m N G Y) {v2 : Int32} : ∃ S, fl_X12_nails_88 v2 (nI Y) M (nI Y, 0) = some (nI S) ∧ SubS S Y ∧ OkG m N G S ∧ ∀ S', SubS S' Y → OkG m N G S' → lex_ S S' := by
  have key : ∃ b : Nat, (b < 65536 ∧ SubS b Y ∧ OkG m N G b ∧ ∀ S', S' < Y + 1 → SubS S' Y → OkG m N G S' → lex_ b S') ∧ fl_X12_nails_88 v2 (nI Y) M (nI Y, 0) = some (nI b) := by
    unfold fl_X12_nails_88
    refine rt_cnt (fun i (b : Nat) => (nI b, nI i)) (fun b => nI b) (Y + 1) (fun i b => b < 65536 ∧ SubS b Y ∧ OkG m N G b ∧ ∀ S', S' < i → SubS S' Y → OkG m N G S' → lex_ b S') ?_ ?_ ro_FU (Nat.lt_of_le_of_lt (show Y + 1 ≤ 65536 by omega) (by decide)) Y ⟨hY, fun _ h => h, hYo, fun S' h => absurd h (by omega)⟩
    · intro i hi rec b hb
      obtain ⟨b1, b2, b3, b4⟩ := hb
      show ∃ s', _ ∧ fb_X12_nails_88 v2 (nI Y) M rec (nI b) (nI i) = rec (nI s', nI (i + 1))
      unfold fb_X12_nails_88
      have hc1 := cn_le i
      have hc2 := cn_le b
      have stay : (SubS i Y → OkG m N G i → lex_ b i) → ∃ s', (s' < 65536 ∧ SubS s' Y ∧ OkG m N G s' ∧ ∀ S', S' < i + 1 → SubS S' Y → OkG m N G S' → lex_ s' S') ∧ rec (nI b, nI (i + 1)) = rec (nI s', nI (i + 1)) := fun h => ⟨b, ⟨b1, b2, b3, fun S' h1 h2 h3 => by
        by_cases e : S' = i
        · rw [e] at h2 h3 ⊢; exact h h2 h3
        · exact b4 S' (by omega) h2 h3⟩, rfl⟩
      have take : SubS i Y → (cn_ i < cn_ b ∨ (cn_ i = cn_ b ∧ i < b)) → ∃ s', (s' < 65536 ∧ SubS s' Y ∧ OkG m N G s' ∧ ∀ S', S' < i + 1 → SubS S' Y → OkG m N G S' → lex_ s' S') ∧ fj_X12_nails_136 rec v2 (nI Y) (nI b) (nI i) M = rec (nI s', nI (i + 1)) := fun hsub hl => by
        obtain ⟨bb, e, hbb⟩ := rt_areDry (S := i) hw hP (by omega)
        unfold fj_X12_nails_136
        rw [e, Option.bind_some, nI_1]
        cases bb with
        | false =>
          rw [if_neg (show ¬ false = true by decide), if_pos rfl]
          exact stay (fun _ h => by have := hbb.mpr h; cases this)
        | true =>
          rw [if_pos rfl, if_neg rt_10]
          refine ⟨i, ⟨by omega, hsub, hbb.mp rfl, fun S' h1 h2 h3 => ?_⟩, rfl⟩
          by_cases e : S' = i
          · rw [e]; exact Or.inr ⟨rfl, Nat.le_refl _⟩
          · have := b4 S' (by omega) h2 h3
            unfold lex_ at this ⊢
            omega
      rw [if_neg (show ¬ nI Y < nI i from nI_nlt (by omega) (by omega)), nI_1]
      by_cases cs : SubS i Y
      · rw [if_pos ((rt_sub (by omega) hY).mpr cs), rt_bitsM (by omega), rt_bitsM (by omega), Option.bind_some, Option.bind_some]
        by_cases c1 : cn_ i < cn_ b
        · rw [if_pos (nI_lt c1 (by omega))]
          exact take cs (Or.inl c1)
        · rw [if_neg (nI_nlt (by omega) (by omega)), Option.bind_some, Option.bind_some]
          by_cases c2 : cn_ i = cn_ b
          · rw [if_pos (show nI (cn_ i) = nI (cn_ b) by rw [c2])]
            by_cases c3 : b ≤ i
            · rw [if_pos (nI_le c3 (by omega))]
              exact stay (fun _ _ => Or.inr ⟨c2.symm, c3⟩)
            · rw [if_neg (nI_ge (by omega) (by omega))]
              exact take cs (Or.inr ⟨c2, by omega⟩)
          · rw [if_neg (fun q => c2 ((nI_eq (by omega) (by omega)).mp q))]
            exact stay (fun _ _ => Or.inl (by omega))
      · rw [if_neg (fun q => cs ((rt_sub (by omega) hY).mp q))]
        exact stay (fun h _ => absurd h cs)
    · intro rec b _
      show fb_X12_nails_88 v2 (nI Y) M rec (nI b) (nI (Y + 1)) = _
      unfold fb_X12_nails_88
      rw [if_pos (nI_lt (by omega) (by omega))]
  obtain ⟨b, ⟨b1, b2, b3, b4⟩, e⟩ := key
  exact ⟨b, e, b2, b3, fun S' h1 h2 => b4 S' (by have := h1.le; omega) h1 h2⟩
theorem ev_D_open {m : ro_Mem} {sh : Int32} {i k : Nat} (h : ¬ op_ m k = true) : ev_D m sh i k = 0 := by
  unfold ev_D sp_D
  rw [if_neg]
  rintro ⟨h1, h2, -⟩
  exact h (by unfold op_; rw [h1, h2]; rfl)
theorem fs_open {m : ro_Mem} {N a g k : Nat} (h : ¬ op_ m k = true) : fs_ m N a g k = 0 := by
  unfold fs_ ev_fs
  refine sp_sum_zero (fun i _ => ?_)
  unfold ev_fl sp_fall
  rw [ev_D_open h, if_neg (by omega)]
theorem OkG.may {m : ro_Mem} {N G : Nat} : OkG m N G (my_ (op_ m) 16) := by
  refine ⟨my_lt 16, fun a g _ _ _ => ?_⟩
  have e : gq_ (fs_ m N a g) (my_ (op_ m) 16) = sp_sum (fs_ m N a g) 16 := by
    unfold gq_
    refine sp_sum_cg (fun k hk => ?_)
    rw [my_bit]
    by_cases c : op_ m k = true
    · rw [if_pos ⟨hk, c⟩, Nat.one_mul]
    · rw [if_neg (fun h => c h.2), fs_open c]
  have h2 : sp_sum (fs_ m N a g) 16 = ev_al m 0 N a (st_ m a g) := (ev_al_s m 0 N a (st_ m a g)).symm
  rw [e, h2]
  unfold gw_ ev_wt
  by_cases c : st_ m a g < 96
  · rw [if_pos c]; omega
  · rw [if_neg c]; omega
theorem LexMin.sub {m : ro_Mem} {N G S : Nat} (h : LexMin (OkG m N G) S) : SubS S (my_ (op_ m) 16) := by
  intro k hk
  have hS : S < 2 ^ 16 := h.1.1
  have hk16 : k < 16 := by
    rcases Nat.lt_or_ge k 16 with q | q
    · exact q
    · rw [Nat.testBit_lt_two_pow (Nat.lt_of_lt_of_le hS (Nat.pow_le_pow_right (by decide) q))] at hk; cases hk
  have hb := bit_tb (my_ (op_ m) 16) k
  rw [my_bit] at hb
  by_cases c : op_ m k = true
  · rw [if_pos ⟨hk16, c⟩] at hb
    by_cases q : (my_ (op_ m) 16).testBit k = true
    · exact q
    · rw [if_neg q] at hb; omega
  · exfalso
    have bits : ∀ j, (S ^^^ 2 ^ k) / 2 ^ j % 2 + (if j = k then 1 else 0) = S / 2 ^ j % 2 := fun j => by
      rw [bit_tb, bit_tb, Nat.testBit_xor, Nat.testBit_two_pow]
      by_cases e : j = k
      · subst e
        rw [hk]; simp
      · have : ¬ k = j := fun q => e q.symm
        simp [e, this]
    have c1 : cn_ S = cn_ (S ^^^ 2 ^ k) + 1 := by
      unfold cn_
      exact sp_sum_one hk16 (fun j _ => (bits j).symm)
    have c2 : ∀ a g, gq_ (fs_ m N a g) S = gq_ (fs_ m N a g) (S ^^^ 2 ^ k) := fun a g => by
      unfold gq_
      refine sp_sum_cg (fun j _ => ?_)
      rw [← bits j]
      by_cases e : j = k
      · rw [e, fs_open c, Nat.mul_zero, Nat.mul_zero]
      · rw [if_neg e, Nat.add_zero]
    have h2 : (2 : Nat) ^ k < 2 ^ 16 := Nat.pow_lt_pow_right (by decide) hk16
    have := h.2 (S ^^^ 2 ^ k) ⟨Nat.xor_lt_two_pow hS h2, fun a g ha hg hG => by rw [← c2]; exact h.1.2 a g ha hg hG⟩
    omega
theorem op_nails (a b : Int32) (μ : ro_Mem) (hI : Inv μ) : ∃ r μ1 μ2, fn_X11_nails a b μ = some (r, μ1) ∧ fn_X12_nails a b μ1 = some (r, μ2) ∧ Inv μ2 := by
  obtain ⟨N, hw⟩ := hI.wd
  have hbit := hw.1.2.2.2.2.2.1.2.1
  by_cases hm : (a &&& (μ 2 11 ^^^ (-1))) = 0
  · obtain ⟨G, hG, rfl, hGt⟩ := rt_guestBits hbit hm
    by_cases G0 : G = 0
    · refine ⟨-1, μ, μ, ?_, ?_, hI⟩
      · unfold fn_X11_nails fn_X11_areGuests
        rw [if_pos (show nI G = 0 by rw [G0]; rfl), Option.bind_some, if_pos rfl]
      · unfold fn_X12_nails
        rw [if_pos (show nI G < 1 from nI_lt (b := 1) (by omega) (by decide))]
    · have ag : fn_X11_areGuests (nI G) μ = some 1 := by
        unfold fn_X11_areGuests
        rw [if_neg (nI_ne0 (by omega) (by omega)), if_pos hm]
      have n1 : ¬ nI G < 1 := nI_nlt (b := 1) (by omega) (by omega)
      rcases rt_ix b 2 (by decide) with hb | ⟨j, hj, rfl⟩
      · refine ⟨-1, μ, μ, ?_, ?_, hI⟩
        · unfold fn_X11_nails
          rw [ag, Option.bind_some, if_neg rt_10]
          rcases hb with h | h
          · rw [if_pos h]
          · by_cases c : b < 0
            · rw [if_pos c]
            · rw [if_neg c, if_neg (by rw [fa_le] at *; have h5 : (nI 2).toInt = 2 := by decide
                                       have h4 : (1 : Int32).toInt = 1 := by decide
                                       omega)]
        · unfold fn_X12_nails
          rw [if_neg n1, hw.gst, if_pos hm, show fn_X12_in b 0 1 = some 0 from rt_inO 0 2 (by decide) (by decide) hb, Option.bind_some, if_pos rfl]
      · have i1 : fn_X12_in (nI j) 0 1 = some 1 := by
          have := rt_inI (a := 0) (n := 2) (j := j) (by decide) hj
          rwa [Nat.zero_add] at this
        obtain ⟨m, e, hI1, hw1, hE, hof, -⟩ := rt_fresh hI hw
        obtain ⟨M0, S, M, e1, e2, hS, o1⟩ := rt_nailsC hw1 hE hG (v2 := nI j)
        have hfr : Fr m M := Fr.of (fun o => 76 ≤ o ∧ o ≤ 198) (fun o ho => o1 o ho) (fun o ho => by unfold fr_id; omega)
        have hIM : Inv M := hI1.scr (fun o ho => o1 o (fun q => ho (by unfold qy_s; omega)))
        have hwM := hw1.fr hfr
        obtain ⟨m2, e3, hI2, hL, hof2⟩ := rt_laid hIM hwM
        have t211 : M 2 11 = μ 2 11 := by rw [o1 2 (by omega), hof 2 (by omega) (by omega) (by omega) (by omega)]
        obtain ⟨M3, e4, f1, f2⟩ := rt_laysThrough hwM hL (hof2 209 (by omega)) (hof2 216 (by omega)) hG (fun g hg hq => by rw [t211]; exact hGt g hg hq)
        have hI3 : Inv M3 := hI2.scr (fun o ho => f1 o (fun q => ho (by unfold qy_s; omega)) (fun q => ho (by unfold qy_s; omega)))
        have hfr3 : Fr M M3 := by
          refine Fr.of (fun o => (239 ≤ o ∧ o ≤ 242) ∨ o = 252 ∨ o = 253) (fun o ho => ?_) (fun o ho => by unfold fr_id; omega)
          rw [f1 o (by omega) (by omega), hof2 o (by omega)]
        have hw3 := hwM.fr hfr3
        have eop : op_ M3 = op_ M := by
          funext k
          unfold op_
          rw [f1 2 (by decide) (by decide), hof2 2 (by omega)]
        have hmay := rt_may hw3 (v2 := nI j)
        rw [eop] at hmay
        obtain ⟨T, e5, t1, t2, t3⟩ := rt_least hwM f2 (my_lt (p := op_ M) 16) OkG.may (v2 := nI j)
        have eok : ∀ X, OkG M N G X ↔ OkG m N G X := fun X => by
          have ew := hfr.wt hw1.2.1 N
          have hgw : ∀ a g, gw_ M 0 N a g = gw_ m 0 N a g := fun a g => ew.2.2.2.2.2.2.1 0 a g
          have hfs : ∀ a g, fs_ M N a g = fs_ m N a g := fun a g => by
            funext k
            unfold fs_
            rw [ew.2.2.2.2.2.2.2, ew.2.2.2.2.2.1]
          unfold OkG
          constructor
          · rintro ⟨x1, x2⟩
            exact ⟨x1, fun a g h1 h2 h3 => by rw [← hgw, ← hfs]; exact x2 a g h1 h2 h3⟩
          · rintro ⟨x1, x2⟩
            exact ⟨x1, fun a g h1 h2 h3 => by rw [hgw, hfs]; exact x2 a g h1 h2 h3⟩
        have hSM : LexMin (OkG M N G) S := ⟨(eok S).mpr hS.1, fun X hX => hS.2 X ((eok X).mp hX)⟩
        have hST : S = T := by
          have a1 := hSM.2 T t2
          have a2 := t3 S hSM.sub hSM.1
          unfold lex_ at a2
          omega
        rw [← hST] at e5
        have hS16 : S < 65536 := hS.1.1
        have h3 : M 207 2 = μ 2 11 := by rw [hwM.gst, t211]
        have cls : fn_X11_nails (nI G) (nI j) μ = if nI j = 0 then some (nI (cn_ S), M) else some (nI S, M) := by
          unfold fn_X11_nails fn_X4_clear
          rw [ag, Option.bind_some, if_neg rt_10, if_neg (nI_pos (by omega)), if_pos (show nI j ≤ 1 from nI_le (b := 1) (by omega) (by decide)), e, Option.bind_some, ro_lt, Option.bind_some, e1, Option.bind_some, e2, Option.bind_some]
          show (if nI j = 0 then ((fn_J6_bitCount_0f7a4 (nI S)).bind fun q26 => some (q26, M)) else some (nI S, M)) = _
          rw [rt_bitCount hS16, Option.bind_some]
        have md : fn_X12_nails (nI G) (nI j) M = if nI j = 0 then some (nI (cn_ S), M3) else some (nI S, M3) := by
          unfold fn_X12_nails
          rw [if_neg n1, h3, if_pos hm, i1, Option.bind_some, if_neg rt_10, e3, Option.bind_some, e4, Option.bind_some, hmay, Option.bind_some, e5, Option.bind_some, rt_bitsM (by omega), Option.bind_some]
        by_cases cj : nI j = 0
        · rw [if_pos cj] at cls md
          exact ⟨_, _, _, cls, md, hI3⟩
        · rw [if_neg cj] at cls md
          exact ⟨_, _, _, cls, md, hI3⟩
  · refine ⟨-1, μ, μ, ?_, ?_, hI⟩
    · unfold fn_X11_nails fn_X11_areGuests
      by_cases c : a = 0
      · rw [if_pos c, Option.bind_some, if_pos rfl]
      · rw [if_neg c, if_neg hm, Option.bind_some, if_pos rfl]
    · unfold fn_X12_nails
      by_cases c : a < 1
      · rw [if_pos c]
      · rw [if_neg c, hw.gst, if_neg hm]
