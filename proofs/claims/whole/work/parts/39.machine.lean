theorem cl_L_X11 : Cond.classLink RL 7 RX11 ∈ ro_WT := ro_tb 23 (by decide +kernel) rfl
theorem ml_L_X11_init : Cond.methodLink RL 9 yX11_init ∈ ro_WT := ro_tb 25 (by decide +kernel) rfl
theorem im_L_X11_init : Cond.instanceMethod yX11_init ∈ ro_WT := ro_tb 26 (by decide +kernel) rfl
theorem mw_L_X11_init : ry_MW yX11_init cX11_init 1 0 := ⟨ro_tb 1 (by decide +kernel) rfl, ro_tk1 27 rfl rfl, by decide +kernel, by decide⟩
theorem is_L_11 : Cond.instantiable RX11 12 ∈ ro_WT := ro_tb 24 (by decide +kernel) rfl
theorem it_L_11 : Cond.initialized RX11 ∈ ro_WT := ro_tb 1 (by decide +kernel) rfl
theorem df_L_11 : ∀ k, k < 12 → defaultValue (tyX11 k) = if (ro_fk 11 k).1 = 0 then .int 0 else .null := by decide +kernel
theorem cl_L_X12 : Cond.classLink RL 10 RX12 ∈ ro_WT := ro_tb 1077 (by decide +kernel) rfl
theorem ml_L_X12_init : Cond.methodLink RL 12 yX12_init ∈ ro_WT := ro_tb 1079 (by decide +kernel) rfl
theorem im_L_X12_init : Cond.instanceMethod yX12_init ∈ ro_WT := ro_tb 1080 (by decide +kernel) rfl
theorem mw_L_X12_init : ry_MW yX12_init cX12_init 2 0 := ⟨ro_tb 15 (by decide +kernel) rfl, ro_tk5 121 rfl rfl, by decide +kernel, by decide⟩
theorem is_L_12 : Cond.instantiable RX12 94 ∈ ro_WT := ro_tb 1078 (by decide +kernel) rfl
theorem it_L_12 : Cond.initialized RX12 ∈ ro_WT := ro_tb 15 (by decide +kernel) rfl
theorem df_L_12 : ∀ k, k < 94 → defaultValue (tyX12 k) = if (ro_fk 12 k).1 = 0 then .int 0 else .null := by decide +kernel
theorem rz_zs : Cond.initialized "java/lang/String" ∈ ro_WT := ro_tb 16 (by decide +kernel) rfl
theorem is_Z_0 : Cond.instantiable RX0 6 ∈ ro_WT := ro_tb 293 (by decide +kernel) rfl
theorem is_Z_1 : Cond.instantiable RX1 18 ∈ ro_WT := ro_tb 38 (by decide +kernel) rfl
theorem is_Z_2 : Cond.instantiable RX2 10 ∈ ro_WT := ro_tb 182 (by decide +kernel) rfl
theorem is_Z_3 : Cond.instantiable RX3 1 ∈ ro_WT := ro_tb 251 (by decide +kernel) rfl
theorem is_Z_4 : Cond.instantiable RX4 4 ∈ ro_WT := ro_tb 354 (by decide +kernel) rfl
theorem is_Z_5 : Cond.instantiable RX5 8 ∈ ro_WT := ro_tb 131 (by decide +kernel) rfl
theorem is_Z_6 : Cond.instantiable RX6 7 ∈ ro_WT := ro_tb 323 (by decide +kernel) rfl
theorem is_Z_7 : Cond.instantiable RX7 11 ∈ ro_WT := ro_tb 392 (by decide +kernel) rfl
theorem is_Z_8 : Cond.instantiable RX8 5 ∈ ro_WT := ro_tb 264 (by decide +kernel) rfl
theorem is_Z_9 : Cond.instantiable RX9 4 ∈ ro_WT := ro_tb 32 (by decide +kernel) rfl
theorem is_Z_10 : Cond.instantiable RX10 2 ∈ ro_WT := ro_tb 361 (by decide +kernel) rfl
theorem is_Z_11 : Cond.instantiable RX11 12 ∈ ro_WT := ro_tb 24 (by decide +kernel) rfl
theorem is_Z_12 : Cond.instantiable RX12 94 ∈ ro_WT := ro_tb 1078 (by decide +kernel) rfl
theorem rz_tab {w : Cond} (i : Nat) (h : tables_1[i]? = some w) : w ∈ lw_tbl := List.mem_append_right _ (List.mem_of_getElem? h)
theorem rz_nest {s : State} {a : Array Value} (hts : ∀ w ∈ lw_tbl, w.before a s = true) : ∀ q ∈ ry_nl, va_Nw (.methodLinkNest q.1 q.2.1 q.2.2 "RainOpera") s := by
  intro q hq
  have h : ∀ q ∈ ry_nl, (Cond.methodLinkNest q.1 q.2.1 q.2.2 "RainOpera") ∈ [33, 132, 183, 249, 252, 257, 265, 294, 324, 393].filterMap (fun i => tables_1[i]?) := by decide +kernel
  obtain ⟨i, -, hi⟩ := List.mem_filterMap.mp (h q hq)
  exact va_Nw.of rfl (hts _ (rz_tab i hi))

theorem rz_va_D {G : ro_G} (had : ∀ i, ro_ad G i = ro_sz G + i) (m : ro_Mem) : va_D (ro_A G) (ro_wl G m) := by
  have key : ∀ (k : Nat) (q : Nat × va_E), (ro_wl G m)[k]? = some q → q.1 = ro_sz G + k := by
    intro k q hk
    have hlt : k < NID := by
      have := (List.getElem?_eq_some_iff.mp hk).1
      simpa [ro_wl] using this
    rw [ro_wl_at hlt] at hk
    obtain rfl := Option.some.inj hk
    exact had k
  refine ⟨fun i j p q hp hq e => ?_, fun k q hk => ?_⟩
  · have h1 := key i p hp
    have h2 := key j q hq
    omega
  · have h1 := key k q hk
    show ro_sz G ≤ q.1
    omega

set_option maxHeartbeats 4000000 in
set_option maxRecDepth 100000 in
/-- THE MACHINE LEVEL: if the law's loop, as a function, comes to its end on this script, so does the law -/
theorem rz_start {p : Program} {e : Env} {s : State} {m : MethodId} {below : List Frame} {meth : Method} {c : Code} (l : Launch) {b L : Nat} {xs : Nat → Int32} (C0 : lw_At p s m meth c b L xs) {μ' : ro_Mem} (hlaw : fl_L_law_18 L xs (0, rz_m0) = some μ') : W p l e room_1 s m #[Value.ref b] below meth c s.heap [] 0 0 (lw_Z below #[Value.ref b] s) (entryFrame m ([Value.ref b] : List Value).toArray 4) := by
  obtain ⟨hx, hb, hr, hml, hown, hts, hX, hbl, hlocks, hgv⟩ := id C0
  have hWT : ∀ w ∈ ro_WT, w.before #[Value.ref b] s = true := fun w hw => hts w (List.mem_filter.mp hw).1
  have hs := flat_of_before _ hgv
  obtain ⟨c0, iS0, hKn0⟩ := u_known (C := RX0) (T := TX0) (N := 6) (n := 6) hWT inw_0 (hWT _ is_Z_0)
  obtain ⟨c1, iS1, hKn1⟩ := u_known (C := RX1) (T := TX1) (N := 18) (n := 18) hWT inw_1 (hWT _ is_Z_1)
  obtain ⟨c2, iS2, hKn2⟩ := u_known (C := RX2) (T := TX2) (N := 10) (n := 10) hWT inw_2 (hWT _ is_Z_2)
  obtain ⟨c3, iS3, hKn3⟩ := u_known (C := RX3) (T := TX3) (N := 1) (n := 1) hWT inw_3 (hWT _ is_Z_3)
  obtain ⟨c4, iS4, hKn4⟩ := u_known (C := RX4) (T := TX4) (N := 4) (n := 4) hWT inw_4 (hWT _ is_Z_4)
  obtain ⟨c5, iS5, hKn5⟩ := u_known (C := RX5) (T := TX5) (N := 8) (n := 8) hWT inw_5 (hWT _ is_Z_5)
  obtain ⟨c6, iS6, hKn6⟩ := u_known (C := RX6) (T := TX6) (N := 7) (n := 7) hWT inw_6 (hWT _ is_Z_6)
  obtain ⟨c7, iS7, hKn7⟩ := u_known (C := RX7) (T := TX7) (N := 11) (n := 11) hWT inw_7 (hWT _ is_Z_7)
  obtain ⟨c8, iS8, hKn8⟩ := u_known (C := RX8) (T := TX8) (N := 5) (n := 5) hWT inw_8 (hWT _ is_Z_8)
  obtain ⟨c9, iS9, hKn9⟩ := u_known (C := RX9) (T := TX9) (N := 4) (n := 4) hWT inw_9 (hWT _ is_Z_9)
  obtain ⟨c10, iS10, hKn10⟩ := u_known (C := RX10) (T := TX10) (N := 2) (n := 2) hWT inw_10 (hWT _ is_Z_10)
  obtain ⟨c11, iS11, hKn11⟩ := u_known (C := RX11) (T := TX11) (N := 12) (n := 12) hWT inw_11 (hWT _ is_Z_11)
  obtain ⟨c12, iS12, hKn12⟩ := u_known (C := RX12) (T := TX12) (N := 94) (n := 94) hWT inw_12 (hWT _ is_Z_12)
  obtain ⟨dC, dI, hKc⟩ : ∃ (dC : Nat → ClassId) (dI : Nat → Nat → Nat), ∀ (k : Nat) (q : vw_C), cls[k]? = some q → u_Kn s q.1 q.2.1 q.2.2 (dC k) (dI k) := by
    refine ⟨fun k => [c0, c1, c2, c3, c4, c5, c6, c7, c8, c9, c10, c11, c12].getD k c0, fun k => [iS0, iS1, iS2, iS3, iS4, iS5, iS6, iS7, iS8, iS9, iS10, iS11, iS12].getD k iS0, ?_⟩
    intro k q hq
    match k, hq with
    | 0, hq => cases hq; exact hKn0
    | 1, hq => cases hq; exact hKn1
    | 2, hq => cases hq; exact hKn2
    | 3, hq => cases hq; exact hKn3
    | 4, hq => cases hq; exact hKn4
    | 5, hq => cases hq; exact hKn5
    | 6, hq => cases hq; exact hKn6
    | 7, hq => cases hq; exact hKn7
    | 8, hq => cases hq; exact hKn8
    | 9, hq => cases hq; exact hKn9
    | 10, hq => cases hq; exact hKn10
    | 11, hq => cases hq; exact hKn11
    | 12, hq => cases hq; exact hKn12
    | k + 13, hq => simp [cls] at hq
  obtain ⟨a1, k1, comp1, f1, f2, f3⟩ := Cond.arrayClass_spec (hWT _ ka_int)
  obtain ⟨a2, k2, comp2, g1, g2, g3⟩ := Cond.arrayClass_spec (hWT _ ka_boolean)
  obtain ⟨a3, k3, comp3, i1, i2, i3⟩ := Cond.arrayClass_spec (hWT _ ka_byte)
  have hover : (Cond.arrayOver (.object "RainOpera$Weights")).before #[Value.ref b] s = true := hts _ (rz_tab 360 (by decide +kernel))
  obtain ⟨comp4, a4, k4, j1, -, j2, j3, j4⟩ := Cond.arrayOver_spec hover
  obtain ⟨adK, adV, hvS, hev⟩ := rz_str (A := fun q => s.heap.size ≤ q) hs (fun a h => Nat.not_le.mpr h)
  obtain ⟨G, hGe⟩ : ∃ G : ro_G, G = ((dC, dI), (fun i => s.heap.size + i), (fun t => [a1, a1, a2, a3, a4].getD t a1), s.heap.size, adK, adV) := ⟨_, rfl⟩
  have had : ∀ i, ro_ad G i = ro_sz G + i := by intro i; rw [hGe]
  have hsz : ro_sz G = s.heap.size := by rw [hGe]
  have hKa : va_K (ro_D G) cls (ro_tys G) s := by
    rw [hGe]
    refine ⟨hKc, fun k q hk => ?_⟩
    match k, hk with
    | 0, hk => cases hk; exact ⟨fun n z => ⟨fun k h => (by cases h), k1, f2, comp1, f3⟩, f1⟩
    | 1, hk => cases hk; exact ⟨fun n z => ⟨fun k h => (by cases h), k2, g2, comp2, g3⟩, g1⟩
    | 2, hk => cases hk; exact ⟨fun n z => ⟨fun k h => (by cases h), k3, i2, comp3, i3⟩, i1⟩
    | 3, hk => cases hk; exact ⟨fun n z => ⟨fun k h => (by cases h), k4, j2, comp4, j3⟩, k4, comp4, j2, j3, j1, j4⟩
    | k + 4, hk => simp [ro_tys] at hk
  have hks : ro_ks G s := by
    rw [hGe]
    exact ⟨vk_R.of (A := #[Value.ref b]) (hts _ (rz_tab 554 (by decide +kernel))) (hev 0 (by decide)), vk_R.of (A := #[Value.ref b]) (hts _ (rz_tab 680 (by decide +kernel))) (hev 1 (by decide)), vk_R.of (A := #[Value.ref b]) (hts _ (rz_tab 705 (by decide +kernel))) (hev 2 (by decide)), vk_R.of (A := #[Value.ref b]) (hts _ (rz_tab 710 (by decide +kernel))) (hev 3 (by decide)), vk_R.of (A := #[Value.ref b]) (hts _ (rz_tab 819 (by decide +kernel))) (va_eqR (hs (.eq (.string "RainOpera$Score" 53) (.string "RainOpera" 197)) (by decide +kernel)) (hev 0 (by decide)))⟩
  have hst : ro_st G s s.heap := by
    rw [hGe]
    exact ⟨hvS, va_Zof (hts _ (rz_tab 576 (by decide +kernel))) (hWT _ rz_zs) (va_eqt (hs (.eq (.static "java/lang/String" "COMPACT_STRINGS" "Z") (.int 1)) (by decide +kernel))) (fun a h => Nat.not_le.mpr h)⟩
  have hN : ry_N s := ⟨rz_nest hts, va_AO.of hover⟩
  obtain ⟨K, hKe⟩ : ∃ K : ro_K, K = (G, p, l, e, room_1, s, m, #[Value.ref b], below, meth, c, 4, 273, 13738, lw_Z below #[Value.ref b] s, fun _ _ => True) := ⟨_, rfl⟩
  have hC : ro_C K RL cL_law 4 300 := by
    rw [hKe]
    exact ⟨hx, hb, hml, hown, hWT, hKa, rz_va_D had, hks, hst, Nat.le_of_ble_eq_true rfl, Nat.le_of_ble_eq_true rfl, Nat.le_of_ble_eq_true rfl, Nat.le_of_ble_eq_true rfl, rfl⟩
  have hY : ry_C K RL cL_law 4 300 600000 7302250 := by
    rw [hKe]
    exact ⟨hx, hb, hml, hown, hWT, hKa, had, hN, (by show ro_sz G ≤ s.heap.size; rw [hsz]; exact Nat.le_refl _), Nat.le_of_ble_eq_true rfl, Nat.le_of_ble_eq_true rfl, Nat.le_of_ble_eq_true rfl, Nat.le_of_ble_eq_true rfl, rfl⟩
  have hXK : va_X b L xs (ks K) (ks K).heap := by rw [hKe]; exact hX
  have hblK : b < (ks K).heap.size := by rw [hKe]; exact hbl
  have hbA : ¬ ro_A (kG K) b := by
    rw [hKe]
    show ¬ ro_sz G ≤ b
    rw [hsz]
    exact Nat.not_le.mpr hbl
  -- the end
  have hend : ro_X K 1179 [] [] μ' := by
    rw [hKe]
    intro H lo ls hP hS hl
    refine lv_iconst (v := 1) hx hb dL_law_1179 (by decide) ?_
    refine va_forget (fun q hq => ?_) ?_
    · have := hS.2.2 q hq
      show s.heap.size ≤ q.base
      rw [← hsz]
      exact this
    · refine W.widen (k := 600000) (n := 7302250) (Nat.le_of_ble_eq_true rfl) (Nat.le_of_ble_eq_true rfl) ?_
      exact lw_ret hx hb hr hlocks dL_law_1180
  have hloop : ro_X K 18 [(0, .ref b), (1, .ref (ro_ad (kG K) 0)), (2, .ref (ro_ad (kG K) 207)), (3, .int 0)] [] rz_m0 := lp_L_law_18 hC hXK hblK hbA hlaw hend
  -- the start
  have hstart : ry_Y K 0 0 0 [(0, .ref b)] [] 0 (fun _ _ => 0) := by
    refine ry_new hY tyX11 sh_0 rfl rfl inw_11 tyX11_ok df_L_11 cl_L_X11 is_L_11 it_L_11 (by decide) (by decide) dL_law_0 ?_
    refine ry_dup hY dL_law_3 rfl ?_
    refine ry_calli hY [] ml_L_X11_init im_L_X11_init rfl mw_L_X11_init (cy_X11_init_0 (kl K) (kG K) _) (by decide) rfl rfl (Nat.le_of_ble_eq_true rfl) (by decide) (by decide) dL_law_4 ?_
    refine ry_astore_n (L' := [(1, .ref (ro_ad (kG K) 0)), (0, .ref b)]) hY dL_law_7 rfl (by decide) rfl ?_
    refine ry_new hY tyX12 sh_207 rfl rfl inw_12 tyX12_ok df_L_12 cl_L_X12 is_L_12 it_L_12 (by decide) (by decide) dL_law_8 ?_
    refine ry_dup hY dL_law_11 rfl ?_
    refine ry_calli hY [] ml_L_X12_init im_L_X12_init rfl mw_L_X12_init (cy_X12_init_207 (kl K) (kG K) _) (by decide) rfl rfl (Nat.le_of_ble_eq_true rfl) (by decide) (by decide) dL_law_12 ?_
    refine ry_astore_n (L' := [(2, .ref (ro_ad (kG K) 207)), (1, .ref (ro_ad (kG K) 0)), (0, .ref b)]) hY dL_law_15 rfl (by decide) rfl ?_
    refine ry_iconst (v := 0) hY dL_law_16 (by decide) ?_
    refine ry_istore_n (L' := [(3, .int 0), (2, .ref (ro_ad (kG K) 207)), (1, .ref (ro_ad (kG K) 0)), (0, .ref b)]) hY dL_law_17 rfl (by decide) rfl ?_
    refine ry_sub (L' := [(0, .ref b), (1, .ref (ro_ad (kG K) 0)), (2, .ref (ro_ad (kG K) 207)), (3, .int 0)]) [3, 2, 1, 0] rfl ?_
    intro H lo ls hP hz hS hl
    have h1 := hloop H lo ls (rz_P hP) hS hl
    rw [hKe] at h1 ⊢
    exact h1
  have hl := lv_entry ([.ref b]) (n := 4) (Nat.le_of_ble_eq_true rfl)
  rw [lg_entry_eq]
  rw [hKe] at hstart
  exact hstart s.heap [] _ (fun id h => absurd h (by omega)) hsz.symm va_S.rf hl
