theorem rt_neg1 {v : Int32} (h : (-1 : Int32) ≤ v) (h2 : ¬ v = -1) : ¬ v < 0 := by
  intro h3
  rw [fa_le] at h
  rw [fa_lt] at h3
  have h4 : ¬ v.toInt = (-1 : Int32).toInt := fun e => h2 ((fa_eq _ _).mpr e)
  have e1 : (-1 : Int32).toInt = -1 := by decide
  have e0 : (0 : Int32).toInt = 0 := by decide
  omega
theorem rt_below1 {v : Int32} (h : ¬ (-1 : Int32) ≤ v) : v < 0 ∧ ¬ v = -1 := by
  rw [fa_le] at h
  have e1 : (-1 : Int32).toInt = -1 := by decide
  have e0 : (0 : Int32).toInt = 0 := by decide
  refine ⟨by rw [fa_lt]; omega, fun e => ?_⟩
  rw [e] at h
  exact h (Int.le_refl _)
theorem op_leftOut (a b c : Int32) (μ : ro_Mem) (hI : Inv μ) : ∃ r μ1 μ2, fn_X11_leftOut a b c μ = some (r, μ1) ∧ fn_X12_leftOut a b c μ1 = some (r, μ2) ∧ Inv μ2 := by
  obtain ⟨N, hw⟩ := hI.wd
  rcases rt_isG hw a with ⟨h1, h2⟩ | ⟨g, hg, rfl, ht, h1, h2⟩
  · refine ⟨-1, μ, μ, ?_, ?_, hI⟩
    · unfold fn_X11_leftOut; rw [h1, Option.bind_some, if_pos rfl]
    · unfold fn_X12_leftOut; rw [h2, Option.bind_some, if_pos rfl]
  rcases rt_ix b 4 (by decide) with hb | ⟨j, hj, rfl⟩
  · refine ⟨-1, μ, μ, ?_, ?_, hI⟩
    · unfold fn_X11_leftOut; rw [h1, Option.bind_some, if_neg rt_10, (rt_actN hb).1, Option.bind_some, if_pos rfl]
    · unfold fn_X12_leftOut; rw [h2, Option.bind_some, if_neg rt_10, (rt_actN hb).2, Option.bind_some, if_pos rfl]
  obtain ⟨m, e, hI1, hw1, hE, hof, -⟩ := rt_fresh hI hw
  have hN : N ≤ 32 := hw1.2.2.2.2.2
  have ht1 : bt (m 2 11) g = true := by rw [hof 2 (by omega) (by omega) (by omega) (by omega)]; exact ht
  obtain ⟨s1, s2, s3, s4⟩ := hw1.st hj hg
  obtain ⟨m', e1, o1, w205, ord, hS⟩ := rt_weigh (a := j) (s := st_ m j g) hw1 hE hj (by omega)
  have hfr : Fr m m' := Fr.of (fun o => o = 205 ∨ o = 206) (fun o ho => o1 o (by omega) (by omega)) (fun o ho => by unfold fr_id; omega)
  have hI' : Inv m' := hI1.scr (fun o ho => o1 o (fun q => ho (by unfold qy_s; omega)) (fun q => ho (by unfold qy_s; omega)))
  have hw' := hw1.fr hfr
  have ht' : bt (m' 2 11) g = true := by rw [o1 2 (by omega) (by omega)]; exact ht1
  obtain ⟨need, hneed⟩ : ∃ need, need = gw_ m 0 N j g := ⟨_, rfl⟩
  have hn9 : need ≤ 50688 := by rw [hneed]; exact gw_le hN 0 j g
  obtain ⟨w, hwe⟩ : ∃ w, w = lw_ m N j (st_ m j g) := ⟨_, rfl⟩
  rw [← hwe] at w205 hS
  have hwB : ∀ i, w i ≤ 1584 := fun i => by
    rw [hwe]
    unfold lw_
    have := ev_fn_le m 0 j (st_ m j g) i
    by_cases q : i < N ∧ nt_ m 5 i = j
    · rw [if_pos q]; omega
    · rw [if_neg q]; omega
  have hz : ∀ i, N ≤ i → w i = 0 := fun i hi => by
    rw [hwe]
    unfold lw_
    rw [if_neg (by omega)]
  have hB0 : ∀ n lo c, n ≤ 32 → tp_ w n lo c < 2 ^ 28 := fun n lo c hn => by
    have h1 := tp_le hwB n lo c
    have h2 : n * 1584 ≤ 32 * 1584 := Nat.mul_le_mul_right _ hn
    omega
  have hwC : ∀ i, i < 32 → m' 205 i = nI (w i) ∧ w i < 2 ^ 20 := fun i hi => ⟨w205 i hi, by have := hwB i; omega⟩
  have hfw := rt_fewest hwC hS (need := need) (by omega) (fun c => by have := hB0 32 0 c (by omega); omega)
  have cls : fn_X11_leftOut (nI g) (nI j) c μ = (if sp_wv (fw_ w need) = -1 then some (-2, m') else if c = -1 then some (sp_wv (fw_ w need), m') else if c < 0 then some (-2, m') else if c < sp_wv (fw_ w need) then ((fn_X10_pick 204 (nI need) c m').bind fun q22 => some (q22, m')) else some (-2, m')) := by
    unfold fn_X11_leftOut
    rw [h1, Option.bind_some, if_neg rt_10, (rt_actY hj).1, Option.bind_some, if_neg rt_10, e, Option.bind_some, rt_e10, if_pos (rt_in (n := 40) (by omega) (by decide)), nI_clamp (show 10 * j + g < 2 ^ 31 by omega), s1, ro_lt, rt_wog hw1 hE.2.2.2.2.1 hg hj, Option.bind_some, e1, Option.bind_some, ← hneed, hfw, Option.bind_some]
  have h2' : fn_X12_isGuest (nI g) m' = some 1 := by rw [rt_guestM hg, hw'.gst, if_pos ht']
  by_cases c1 : (-1 : Int32) ≤ c
  · obtain ⟨m2, e2, hI2, hL, hof2⟩ := rt_laid hI' hw'
    have egw : gw_ m' 0 N j g = need := by rw [hneed]; exact (hfr.wt hw1.2.1 N).2.2.2.2.2.2.1 0 j g
    have wet := rt_wetSt hw' hL hj hg ht' (hof2 216 (by omega))
    rw [egw] at wet
    have mdl : fn_X12_leftOut (nI g) (nI j) c m' = (if nI need = 0 then (if c = -1 then some (0, m2) else some (-2, m2)) else ((fl_X12_leftOut_71 (nI j) c (m2 216 (10 * j + g)) (nI need) (0, m2)).bind fun q25 => (fn_X12_mostBy 0 32 q25).bind fun q27 => if nI need ≤ q27 then ((fl_X12_leftOut_135 c (nI need) q25 1).bind fun q35 => if c = -1 then some (q35, q25) else (if c < q35 then ((fl_X12_leftOut_183 c q35 q25 (0, nI need, 0)).bind fun q56 => some (q56 - 1, q25)) else some (-2, q25))) else some (-2, q25))) := by
      unfold fn_X12_leftOut
      rw [h2', Option.bind_some, if_neg rt_10, (rt_actY hj).2, Option.bind_some, if_neg rt_10, if_pos c1, e2, Option.bind_some, rt_e10', if_pos (rt_in (n := 40) (by omega) (by decide)), nI_clamp (show 10 * j + g < 2 ^ 31 by omega), ro_lt, wet, Option.bind_some]
    by_cases n0 : need = 0
    · have f0 : fw_ w need = some 0 := by
        unfold fw_ sp_first
        rw [if_pos (decide_eq_true (by omega))]
      rw [f0] at cls
      rw [if_neg (show ¬ sp_wv (some 0) = -1 by decide)] at cls
      rw [if_pos (show nI need = 0 by rw [n0]; rfl)] at mdl
      by_cases c2 : c = -1
      · rw [if_pos c2] at cls mdl
        exact ⟨0, m', m2, cls, mdl, hI2⟩
      · rw [if_neg c2] at cls mdl
        have c3 := rt_neg1 c1 c2
        rw [if_neg c3, if_neg (show ¬ c < sp_wv (some 0) from c3)] at cls
        exact ⟨-2, m', m2, cls, mdl, hI2⟩
    · rw [if_neg (nI_ne0 (by omega) (by omega))] at mdl
      have hs9 : st_ m j g < 96 := by
        rcases s2 with q | q
        · exfalso
          have : gw_ m 0 N j g = 0 := by unfold gw_; rw [if_neg (by omega)]
          omega
        · exact q
      have e216 : m2 216 (10 * j + g) = nI (st_ m j g) := by rw [hof2 216 (by omega), o1 216 (by omega) (by omega)]; exact s3 ht1
      rw [e216] at mdl
      have h18 : m2 207 18 = nI N := by rw [hof2 207 (by omega)]; exact hw'.notes.1
      have l71 : fl_X12_leftOut_71 (nI j) c (nI (st_ m j g)) (nI need) (0, m2) = some (ro_arr m2 251 (rt_mix (fun i => nI (w i)) (m2 251) N)) := by
        unfold fl_X12_leftOut_71
        have gen : ∀ rec mm, mm 207 18 = nI N → fb_X12_leftOut_71 (nI j) c (nI (st_ m j g)) (nI need) rec (nI N) mm = some mm := fun rec mm h => by
          unfold fb_X12_leftOut_71
          rw [h, if_pos (Int32.le_refl _)]
        have h0 : ((0 : Int32), m2) = (fun i => (nI i, ro_arr m2 251 (rt_mix (fun i => nI (w i)) (m2 251) i))) 0 := by
          show _ = (nI 0, ro_arr m2 251 (rt_mix (fun i => nI (w i)) (m2 251) 0))
          have : rt_mix (fun i => nI (w i)) (m2 251) 0 = m2 251 := by
            funext j
            exact if_neg (by omega)
          rw [this, ro_arr_self]
          rfl
        rw [h0]
        refine rt_loop (fun i => (nI i, ro_arr m2 251 (rt_mix (fun i => nI (w i)) (m2 251) i))) N ?_ ?_ ro_FU (Nat.lt_of_le_of_lt hN (by decide))
        · intro i hi rec
          show fb_X12_leftOut_71 (nI j) c (nI (st_ m j g)) (nI need) rec (nI i) (ro_arr m2 251 (rt_mix (fun i => nI (w i)) (m2 251) i)) = rec (nI (i + 1), ro_arr m2 251 (rt_mix (fun i => nI (w i)) (m2 251) (i + 1)))
          have nx : ro_arr m2 251 (upd (rt_mix (fun i => nI (w i)) (m2 251) i) i (nI (w i))) = ro_arr m2 251 (rt_mix (fun i => nI (w i)) (m2 251) (i + 1)) := by
            congr 1
            funext k
            unfold upd rt_mix
            by_cases ek : k = i
            · rw [if_pos ek, if_pos (by omega), ek]
            · rw [if_neg ek]
              by_cases hk : k < i
              · rw [if_pos hk, if_pos (by omega)]
              · rw [if_neg hk, if_neg (by omega)]
          rw [← nx]
          generalize rt_mix (fun i => nI (w i)) (m2 251) i = f
          obtain ⟨hnt, -, -, -, hac⟩ := hw1.nt hi
          have e222 : m2 222 i = nI (nt_ m 5 i) := by rw [hof2 222 (by omega), o1 222 (by omega) (by omega)]; exact (hnt 5 (by decide) (by decide)).2.1
          have hL' : LM m' 0 N (ro_arr m2 251 f) := hL.put (fun o ho => ro_arr_ne _ _ (by omega)) (by rw [ro_arr_ne _ _ (by decide)])
          have efn : ev_fn m' 0 j (st_ m j g) i = ev_fn m 0 j (st_ m j g) i := (hfr.wt hw1.2.1 N).2.2.2.2.1 0 j _ i
          unfold fb_X12_leftOut_71
          rw [ro_arr_ne _ _ (show 207 ≠ 251 by decide), h18, if_neg (nI_ge hi (by omega)), if_pos (rt_in (n := 32) (by omega) (by decide)), ro_arr_ne _ _ (show 222 ≠ 251 by decide), nI_clamp (show i < 2 ^ 31 by omega), e222, ro_arr_set, nI_1]
          have ewi : w i = if i < N ∧ nt_ m 5 i = j then ev_fn m 0 j (st_ m j g) i else 0 := by rw [hwe]; rfl
          by_cases q : nt_ m 5 i = j
          · rw [if_pos (show nI (nt_ m 5 i) = nI j by rw [q]), rt_byNote hw' hL' hi hj (by omega), Option.bind_some, efn, ro_arr_set, ro_lt, ewi, if_pos ⟨hi, q⟩]
          · rw [if_neg (fun h => q ((nI_eq (by omega) (by omega)).mp h)), ro_lt, ewi, if_neg (show ¬ (i < N ∧ nt_ m 5 i = j) from fun h => q h.2)]
            rfl
        · intro rec
          exact gen rec (ro_arr m2 251 (rt_mix (fun i => nI (w i)) (m2 251) N)) (by rw [ro_arr_ne _ _ (by decide)]; exact h18)
      rw [l71, Option.bind_some] at mdl
      obtain ⟨m3, e3⟩ : ∃ m3, m3 = ro_arr m2 251 (rt_mix (fun i => nI (w i)) (m2 251) N) := ⟨_, rfl⟩
      rw [← e3] at mdl
      have hI3 : Inv m3 := hI2.scr (fun o ho => by rw [e3, ro_arr_ne _ _ (fun q => ho (by unfold qy_s; omega))])
      have h183 : m3 207 18 = nI N := by rw [e3, ro_arr_ne _ _ (by decide)]; exact h18
      have hwM : ∀ i, i < N → m3 251 i = nI (w i) ∧ w i < 2 ^ 20 := fun i hi => ⟨by rw [e3, ro_arr_same, rt_mix_lt hi], by have := hwB i; omega⟩
      have mb : ∀ n, n ≤ 32 → fn_X12_mostBy 0 (nI n) m3 = some (nI (tp_ w 32 0 n)) := fun n hn => rt_mostBy (lo := 0) hN (by omega) hn h183 hwM hz
      have mb32 : fn_X12_mostBy 0 32 m3 = some (nI (tp_ w 32 0 32)) := mb 32 (Nat.le_refl _)
      have b32 := hB0 32 0 32 (Nat.le_refl _)
      rw [mb32, Option.bind_some] at mdl
      by_cases q32 : need ≤ tp_ w 32 0 32
      · rw [if_pos (nI_le q32 (by omega))] at mdl
        obtain ⟨cc, ef⟩ : ∃ cc, fw_ w need = some cc := by
          cases hf : fw_ w need with
          | some cc => exact ⟨cc, rfl⟩
          | none =>
            have := sp_first_none hf 32 (by omega) (by omega)
            exact absurd q32 (of_decide_eq_false this)
        obtain ⟨-, f2, f3, f4⟩ := sp_first_some ef
        have f3 := of_decide_eq_true f3
        have f4 : ∀ x, x < cc → ¬ need ≤ tp_ w 32 0 x := fun x hx => of_decide_eq_false (f4 x (by omega) hx)
        have hcc : 1 ≤ cc := by
          rcases Nat.eq_zero_or_pos cc with q | q
          · rw [q, tp_c0] at f3; omega
          · exact q
        have hcc2 : cc ≤ 32 := by omega
        rw [ef] at cls
        rw [if_neg (show ¬ sp_wv (some cc) = -1 from rt_m1 (by omega))] at cls
        have l135 : fl_X12_leftOut_135 c (nI need) m3 1 = some (nI cc) := by
          unfold fl_X12_leftOut_135
          have st : ∀ d i, i + d = cc → LD (fun rec (s : Int32) => fb_X12_leftOut_135 c (nI need) m3 rec s) (nI i) (nI cc) d := by
            intro d
            induction d with
            | zero =>
              intro i hi
              have : i = cc := by omega
              subst this
              refine LD.done (fun rec => ?_)
              show fb_X12_leftOut_135 c (nI need) m3 rec (nI i) = _
              have := hB0 32 0 i (by omega)
              unfold fb_X12_leftOut_135
              rw [mb i hcc2, Option.bind_some, if_pos (nI_le f3 (by omega))]
            | succ d ih =>
              intro i hi
              refine LD.step (fun rec => ?_) (ih (i + 1) (by omega))
              show fb_X12_leftOut_135 c (nI need) m3 rec (nI i) = _
              have := hB0 32 0 i (by omega)
              have := f4 i (by omega)
              unfold fb_X12_leftOut_135
              rw [mb i (by omega), Option.bind_some, if_neg (nI_ge (by omega) (by omega)), nI_1, ro_lt]
          exact st (cc - 1) 1 (by omega) ro_FU (Nat.lt_of_le_of_lt (show cc - 1 ≤ 32 by omega) (by decide))
        rw [l135, Option.bind_some] at mdl
        by_cases c2 : c = -1
        · rw [if_pos c2] at cls mdl
          exact ⟨nI cc, m', m3, cls, mdl, hI3⟩
        · rw [if_neg c2] at cls mdl
          have c3 := rt_neg1 c1 c2
          rw [if_neg c3] at cls
          obtain ⟨k, hk, rfl⟩ := nI_of c3
          have cls : fn_X11_leftOut (nI g) (nI j) (nI k) μ = (if nI k < nI cc then ((fn_X10_pick 204 (nI need) (nI k) m').bind fun q22 => some (q22, m')) else some (-2, m')) := cls
          by_cases kc : k < cc
          · rw [if_pos (nI_lt kc (by omega))] at cls mdl
            obtain ⟨x, x1, x2, x3⟩ := rt_picks (m := m') (M := m3) (few := cc) (wanted := k) hN hwC hS (fun n lo c => by
              have h1 := tp_ub (w := w) 0 n lo c
              rw [Nat.zero_mul, Nat.add_zero] at h1
              have h2 : sp_sum (fun i => w (lo + i) - 0) n ≤ 32 * 1584 := by
                have h3 : ∀ n lo, sp_sum (fun i => w (lo + i) - 0) n ≤ sp_sum w 32 := by
                  intro n lo
                  have h4 : sp_sum (fun i => w (lo + i) - 0) n ≤ sp_sum w (lo + n) := by
                    rw [sp_sum_app]
                    exact Nat.le_add_left _ _
                  refine Nat.le_trans h4 ?_
                  rcases Nat.le_total (lo + n) 32 with h5 | h5
                  · exact sp_sum_mono h5
                  · obtain ⟨d, hd⟩ : ∃ d, lo + n = 32 + d := ⟨lo + n - 32, by omega⟩
                    rw [hd, sp_sum_app, sp_sum_zero (f := fun i => w (32 + i)) (fun i _ => hz _ (by omega))]
                    exact Nat.le_refl _
                exact Nat.le_trans (h3 n lo) (sp_sum_bd (fun i _ => hwB i))
              omega) h183 hwM hz hcc2 kc k 0 0 need (by omega) (by omega) (by omega) f3 (by
              have := f4 (cc - 1) (by omega)
              rw [show cc - 0 - 1 = cc - 1 by omega]
              show tp_ w 32 0 (cc - 1) < need
              omega)
            have hp1 : fl_X10_pick_15 204 (nI k) (nI cc) m' (nI need, 0, 0) = some (.inl (nI x)) := x2 ro_FU (by decide)
            have hp2 : fl_X12_leftOut_183 (nI k) (nI cc) m3 (0, nI need, 0) = some (nI (x + 1)) := x3 ro_FU (Nat.lt_of_le_of_lt (show k + 1 ≤ 33 by omega) (by decide))
            have hpk : fn_X10_pick 204 (nI need) (nI k) m' = some (nI x) := by
              unfold fn_X10_pick
              rw [hfw, ef, Option.bind_some]
              show ((fl_X10_pick_15 204 (nI k) (nI cc) m' (nI need, 0, 0)).bind _) = _
              rw [hp1, Option.bind_some]
              rfl
            rw [hpk, Option.bind_some] at cls
            rw [hp2, Option.bind_some, nI_pred] at mdl
            exact ⟨nI x, m', m3, cls, mdl, hI3⟩
          · rw [if_neg (nI_nlt (by omega) (by omega))] at cls mdl
            exact ⟨-2, m', m3, cls, mdl, hI3⟩
      · rw [if_neg (nI_ge (by omega) (by omega))] at mdl
        have ef : fw_ w need = none := by
          cases hf : fw_ w need with
          | none => rfl
          | some cc =>
            exfalso
            obtain ⟨-, f2, f3, -⟩ := sp_first_some hf
            have f3 := of_decide_eq_true f3
            have := tp_mono (w := w) 32 0 cc 32 (by omega)
            omega
        rw [ef] at cls
        rw [if_pos (show sp_wv none = -1 from rfl)] at cls
        exact ⟨-2, m', m3, cls, mdl, hI3⟩
  · obtain ⟨c2, c3⟩ := rt_below1 c1
    refine ⟨-2, m', m', ?_, ?_, hI'⟩
    · rw [cls, if_neg c3, if_pos c2]
      by_cases q : sp_wv (fw_ w need) = -1
      · rw [if_pos q]
      · rw [if_neg q]
    · unfold fn_X12_leftOut
      rw [h2', Option.bind_some, if_neg rt_10, (rt_actY hj).2, Option.bind_some, if_neg rt_10, if_neg c1]
