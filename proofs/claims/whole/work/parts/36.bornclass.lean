def cm_J7_fill_53178_11 (μ : ro_Mem) : ro_Mem := ro_set (ro_set (ro_set (ro_set (ro_set (ro_set (ro_set (ro_set (ro_set (ro_set (ro_set (ro_set (ro_set (ro_set (ro_set (ro_set (ro_set (ro_set (ro_set (ro_set (ro_set (ro_set (ro_set (ro_set (ro_set (ro_set (ro_set (ro_set (ro_set (ro_set (ro_set (ro_set (ro_set (ro_set (ro_set (ro_set (ro_set (ro_set (ro_set (ro_set (μ) 11 (0 : Int32).toNatClampNeg 255) 11 (1 : Int32).toNatClampNeg 255) 11 (2 : Int32).toNatClampNeg 255) 11 (3 : Int32).toNatClampNeg 255) 11 (4 : Int32).toNatClampNeg 255) 11 (5 : Int32).toNatClampNeg 255) 11 (6 : Int32).toNatClampNeg 255) 11 (7 : Int32).toNatClampNeg 255) 11 (8 : Int32).toNatClampNeg 255) 11 (9 : Int32).toNatClampNeg 255) 11 (10 : Int32).toNatClampNeg 255) 11 (11 : Int32).toNatClampNeg 255) 11 (12 : Int32).toNatClampNeg 255) 11 (13 : Int32).toNatClampNeg 255) 11 (14 : Int32).toNatClampNeg 255) 11 (15 : Int32).toNatClampNeg 255) 11 (16 : Int32).toNatClampNeg 255) 11 (17 : Int32).toNatClampNeg 255) 11 (18 : Int32).toNatClampNeg 255) 11 (19 : Int32).toNatClampNeg 255) 11 (20 : Int32).toNatClampNeg 255) 11 (21 : Int32).toNatClampNeg 255) 11 (22 : Int32).toNatClampNeg 255) 11 (23 : Int32).toNatClampNeg 255) 11 (24 : Int32).toNatClampNeg 255) 11 (25 : Int32).toNatClampNeg 255) 11 (26 : Int32).toNatClampNeg 255) 11 (27 : Int32).toNatClampNeg 255) 11 (28 : Int32).toNatClampNeg 255) 11 (29 : Int32).toNatClampNeg 255) 11 (30 : Int32).toNatClampNeg 255) 11 (31 : Int32).toNatClampNeg 255) 11 (32 : Int32).toNatClampNeg 255) 11 (33 : Int32).toNatClampNeg 255) 11 (34 : Int32).toNatClampNeg 255) 11 (35 : Int32).toNatClampNeg 255) 11 (36 : Int32).toNatClampNeg 255) 11 (37 : Int32).toNatClampNeg 255) 11 (38 : Int32).toNatClampNeg 255) 11 (39 : Int32).toNatClampNeg 255
set_option maxRecDepth 100000 in
theorem cy_J7_fill_53178_11 (l : Launch) (G : ro_G) (μ : ro_Mem) : ry_MY l G yJ7_fill_53178 cJ7_fill_53178 4 0 0 0 [.ref (ro_ad G 11), .int 255] 15 μ 15 (cm_J7_fill_53178_11 μ) := by
  refine ry_MY.of (by decide +kernel) (Nat.le_of_ble_eq_true rfl) (fun K hG hl hK hR hin => ?_)
  subst hG
  subst hl
  unfold cm_J7_fill_53178_11 at hR
  refine ry_iconst (v := 0) hK dJ7_fill_53178_0 (by decide) ?_
  refine ry_istore_n (L' := [(2, .int 0), (0, .ref (ro_ad (kG K) 11)), (1, .int 255)]) hK dJ7_fill_53178_1 rfl (by decide) rfl ?_
  refine ry_aload_n hK 1 rfl dJ7_fill_53178_2 rfl ?_
  refine ry_alen hK sh_11 (by decide) dJ7_fill_53178_3 ?_
  refine ry_istore_n (L' := [(3, .int (nI 40)), (2, .int 0), (0, .ref (ro_ad (kG K) 11)), (1, .int 255)]) hK dJ7_fill_53178_4 rfl (by decide) rfl ?_
  refine ry_iload_n hK 1 rfl dJ7_fill_53178_5 rfl ?_
  refine ry_iload_n hK 0 rfl dJ7_fill_53178_6 rfl ?_
  refine ry_icmp_ge hK 20 dJ7_fill_53178_7 (by decide) (fun q => absurd q (by decide)) (fun _ => ?_)
  refine ry_aload_n hK 2 rfl dJ7_fill_53178_10 rfl ?_
  refine ry_iload_n hK 1 rfl dJ7_fill_53178_11 rfl ?_
  refine ry_iload_n hK 3 rfl dJ7_fill_53178_12 rfl ?_
  refine ry_iast hK sh_11 (by decide) (by decide) dJ7_fill_53178_13 ?_
  refine ry_iinc (v := 1) (L' := [(2, .int 1), (3, .int (nI 40)), (0, .ref (ro_ad (kG K) 11)), (1, .int 255)]) hK 1 rfl dJ7_fill_53178_14 (by decide) (by decide) rfl ?_
  refine ry_goto hK 5 dJ7_fill_53178_17 (by decide) ?_
  refine ry_iload_n hK 0 rfl dJ7_fill_53178_5 rfl ?_
  refine ry_iload_n hK 1 rfl dJ7_fill_53178_6 rfl ?_
  refine ry_icmp_ge hK 20 dJ7_fill_53178_7 (by decide) (fun q => absurd q (by decide)) (fun _ => ?_)
  refine ry_aload_n hK 2 rfl dJ7_fill_53178_10 rfl ?_
  refine ry_iload_n hK 0 rfl dJ7_fill_53178_11 rfl ?_
  refine ry_iload_n hK 3 rfl dJ7_fill_53178_12 rfl ?_
  refine ry_iast hK sh_11 (by decide) (by decide) dJ7_fill_53178_13 ?_
  refine ry_iinc (v := 2) (L' := [(2, .int 2), (3, .int (nI 40)), (0, .ref (ro_ad (kG K) 11)), (1, .int 255)]) hK 0 rfl dJ7_fill_53178_14 (by decide) (by decide) rfl ?_
  refine ry_goto hK 5 dJ7_fill_53178_17 (by decide) ?_
  refine ry_iload_n hK 0 rfl dJ7_fill_53178_5 rfl ?_
  refine ry_iload_n hK 1 rfl dJ7_fill_53178_6 rfl ?_
  refine ry_icmp_ge hK 20 dJ7_fill_53178_7 (by decide) (fun q => absurd q (by decide)) (fun _ => ?_)
  refine ry_aload_n hK 2 rfl dJ7_fill_53178_10 rfl ?_
  refine ry_iload_n hK 0 rfl dJ7_fill_53178_11 rfl ?_
  refine ry_iload_n hK 3 rfl dJ7_fill_53178_12 rfl ?_
  refine ry_iast hK sh_11 (by decide) (by decide) dJ7_fill_53178_13 ?_
  refine ry_iinc (v := 3) (L' := [(2, .int 3), (3, .int (nI 40)), (0, .ref (ro_ad (kG K) 11)), (1, .int 255)]) hK 0 rfl dJ7_fill_53178_14 (by decide) (by decide) rfl ?_
  refine ry_goto hK 5 dJ7_fill_53178_17 (by decide) ?_
  refine ry_iload_n hK 0 rfl dJ7_fill_53178_5 rfl ?_
  refine ry_iload_n hK 1 rfl dJ7_fill_53178_6 rfl ?_
  refine ry_icmp_ge hK 20 dJ7_fill_53178_7 (by decide) (fun q => absurd q (by decide)) (fun _ => ?_)
  refine ry_aload_n hK 2 rfl dJ7_fill_53178_10 rfl ?_
  refine ry_iload_n hK 0 rfl dJ7_fill_53178_11 rfl ?_
  refine ry_iload_n hK 3 rfl dJ7_fill_53178_12 rfl ?_
  refine ry_iast hK sh_11 (by decide) (by decide) dJ7_fill_53178_13 ?_
  refine ry_iinc (v := 4) (L' := [(2, .int 4), (3, .int (nI 40)), (0, .ref (ro_ad (kG K) 11)), (1, .int 255)]) hK 0 rfl dJ7_fill_53178_14 (by decide) (by decide) rfl ?_
  refine ry_goto hK 5 dJ7_fill_53178_17 (by decide) ?_
  refine ry_iload_n hK 0 rfl dJ7_fill_53178_5 rfl ?_
  refine ry_iload_n hK 1 rfl dJ7_fill_53178_6 rfl ?_
  refine ry_icmp_ge hK 20 dJ7_fill_53178_7 (by decide) (fun q => absurd q (by decide)) (fun _ => ?_)
  refine ry_aload_n hK 2 rfl dJ7_fill_53178_10 rfl ?_
  refine ry_iload_n hK 0 rfl dJ7_fill_53178_11 rfl ?_
  refine ry_iload_n hK 3 rfl dJ7_fill_53178_12 rfl ?_
  refine ry_iast hK sh_11 (by decide) (by decide) dJ7_fill_53178_13 ?_
  refine ry_iinc (v := 5) (L' := [(2, .int 5), (3, .int (nI 40)), (0, .ref (ro_ad (kG K) 11)), (1, .int 255)]) hK 0 rfl dJ7_fill_53178_14 (by decide) (by decide) rfl ?_
  refine ry_goto hK 5 dJ7_fill_53178_17 (by decide) ?_
  refine ry_iload_n hK 0 rfl dJ7_fill_53178_5 rfl ?_
  refine ry_iload_n hK 1 rfl dJ7_fill_53178_6 rfl ?_
  refine ry_icmp_ge hK 20 dJ7_fill_53178_7 (by decide) (fun q => absurd q (by decide)) (fun _ => ?_)
  refine ry_aload_n hK 2 rfl dJ7_fill_53178_10 rfl ?_
  refine ry_iload_n hK 0 rfl dJ7_fill_53178_11 rfl ?_
  refine ry_iload_n hK 3 rfl dJ7_fill_53178_12 rfl ?_
  refine ry_iast hK sh_11 (by decide) (by decide) dJ7_fill_53178_13 ?_
  refine ry_iinc (v := 6) (L' := [(2, .int 6), (3, .int (nI 40)), (0, .ref (ro_ad (kG K) 11)), (1, .int 255)]) hK 0 rfl dJ7_fill_53178_14 (by decide) (by decide) rfl ?_
  refine ry_goto hK 5 dJ7_fill_53178_17 (by decide) ?_
  refine ry_iload_n hK 0 rfl dJ7_fill_53178_5 rfl ?_
  refine ry_iload_n hK 1 rfl dJ7_fill_53178_6 rfl ?_
  refine ry_icmp_ge hK 20 dJ7_fill_53178_7 (by decide) (fun q => absurd q (by decide)) (fun _ => ?_)
  refine ry_aload_n hK 2 rfl dJ7_fill_53178_10 rfl ?_
  refine ry_iload_n hK 0 rfl dJ7_fill_53178_11 rfl ?_
  refine ry_iload_n hK 3 rfl dJ7_fill_53178_12 rfl ?_
  refine ry_iast hK sh_11 (by decide) (by decide) dJ7_fill_53178_13 ?_
  refine ry_iinc (v := 7) (L' := [(2, .int 7), (3, .int (nI 40)), (0, .ref (ro_ad (kG K) 11)), (1, .int 255)]) hK 0 rfl dJ7_fill_53178_14 (by decide) (by decide) rfl ?_
  refine ry_goto hK 5 dJ7_fill_53178_17 (by decide) ?_
  refine ry_iload_n hK 0 rfl dJ7_fill_53178_5 rfl ?_
  refine ry_iload_n hK 1 rfl dJ7_fill_53178_6 rfl ?_
  refine ry_icmp_ge hK 20 dJ7_fill_53178_7 (by decide) (fun q => absurd q (by decide)) (fun _ => ?_)
  refine ry_aload_n hK 2 rfl dJ7_fill_53178_10 rfl ?_
  refine ry_iload_n hK 0 rfl dJ7_fill_53178_11 rfl ?_
  refine ry_iload_n hK 3 rfl dJ7_fill_53178_12 rfl ?_
  refine ry_iast hK sh_11 (by decide) (by decide) dJ7_fill_53178_13 ?_
  refine ry_iinc (v := 8) (L' := [(2, .int 8), (3, .int (nI 40)), (0, .ref (ro_ad (kG K) 11)), (1, .int 255)]) hK 0 rfl dJ7_fill_53178_14 (by decide) (by decide) rfl ?_
  refine ry_goto hK 5 dJ7_fill_53178_17 (by decide) ?_
  refine ry_iload_n hK 0 rfl dJ7_fill_53178_5 rfl ?_
  refine ry_iload_n hK 1 rfl dJ7_fill_53178_6 rfl ?_
  refine ry_icmp_ge hK 20 dJ7_fill_53178_7 (by decide) (fun q => absurd q (by decide)) (fun _ => ?_)
  refine ry_aload_n hK 2 rfl dJ7_fill_53178_10 rfl ?_
  refine ry_iload_n hK 0 rfl dJ7_fill_53178_11 rfl ?_
  refine ry_iload_n hK 3 rfl dJ7_fill_53178_12 rfl ?_
  refine ry_iast hK sh_11 (by decide) (by decide) dJ7_fill_53178_13 ?_
  refine ry_iinc (v := 9) (L' := [(2, .int 9), (3, .int (nI 40)), (0, .ref (ro_ad (kG K) 11)), (1, .int 255)]) hK 0 rfl dJ7_fill_53178_14 (by decide) (by decide) rfl ?_
  refine ry_goto hK 5 dJ7_fill_53178_17 (by decide) ?_
  refine ry_iload_n hK 0 rfl dJ7_fill_53178_5 rfl ?_
  refine ry_iload_n hK 1 rfl dJ7_fill_53178_6 rfl ?_
  refine ry_icmp_ge hK 20 dJ7_fill_53178_7 (by decide) (fun q => absurd q (by decide)) (fun _ => ?_)
  refine ry_aload_n hK 2 rfl dJ7_fill_53178_10 rfl ?_
  refine ry_iload_n hK 0 rfl dJ7_fill_53178_11 rfl ?_
  refine ry_iload_n hK 3 rfl dJ7_fill_53178_12 rfl ?_
  refine ry_iast hK sh_11 (by decide) (by decide) dJ7_fill_53178_13 ?_
  refine ry_iinc (v := 10) (L' := [(2, .int 10), (3, .int (nI 40)), (0, .ref (ro_ad (kG K) 11)), (1, .int 255)]) hK 0 rfl dJ7_fill_53178_14 (by decide) (by decide) rfl ?_
  refine ry_goto hK 5 dJ7_fill_53178_17 (by decide) ?_
  refine ry_iload_n hK 0 rfl dJ7_fill_53178_5 rfl ?_
  refine ry_iload_n hK 1 rfl dJ7_fill_53178_6 rfl ?_
  refine ry_icmp_ge hK 20 dJ7_fill_53178_7 (by decide) (fun q => absurd q (by decide)) (fun _ => ?_)
  refine ry_aload_n hK 2 rfl dJ7_fill_53178_10 rfl ?_
  refine ry_iload_n hK 0 rfl dJ7_fill_53178_11 rfl ?_
  refine ry_iload_n hK 3 rfl dJ7_fill_53178_12 rfl ?_
  refine ry_iast hK sh_11 (by decide) (by decide) dJ7_fill_53178_13 ?_
  refine ry_iinc (v := 11) (L' := [(2, .int 11), (3, .int (nI 40)), (0, .ref (ro_ad (kG K) 11)), (1, .int 255)]) hK 0 rfl dJ7_fill_53178_14 (by decide) (by decide) rfl ?_
  refine ry_goto hK 5 dJ7_fill_53178_17 (by decide) ?_
  refine ry_iload_n hK 0 rfl dJ7_fill_53178_5 rfl ?_
  refine ry_iload_n hK 1 rfl dJ7_fill_53178_6 rfl ?_
  refine ry_icmp_ge hK 20 dJ7_fill_53178_7 (by decide) (fun q => absurd q (by decide)) (fun _ => ?_)
  refine ry_aload_n hK 2 rfl dJ7_fill_53178_10 rfl ?_
  refine ry_iload_n hK 0 rfl dJ7_fill_53178_11 rfl ?_
  refine ry_iload_n hK 3 rfl dJ7_fill_53178_12 rfl ?_
  refine ry_iast hK sh_11 (by decide) (by decide) dJ7_fill_53178_13 ?_
  refine ry_iinc (v := 12) (L' := [(2, .int 12), (3, .int (nI 40)), (0, .ref (ro_ad (kG K) 11)), (1, .int 255)]) hK 0 rfl dJ7_fill_53178_14 (by decide) (by decide) rfl ?_
  refine ry_goto hK 5 dJ7_fill_53178_17 (by decide) ?_
  refine ry_iload_n hK 0 rfl dJ7_fill_53178_5 rfl ?_
  refine ry_iload_n hK 1 rfl dJ7_fill_53178_6 rfl ?_
  refine ry_icmp_ge hK 20 dJ7_fill_53178_7 (by decide) (fun q => absurd q (by decide)) (fun _ => ?_)
  refine ry_aload_n hK 2 rfl dJ7_fill_53178_10 rfl ?_
  refine ry_iload_n hK 0 rfl dJ7_fill_53178_11 rfl ?_
  refine ry_iload_n hK 3 rfl dJ7_fill_53178_12 rfl ?_
  refine ry_iast hK sh_11 (by decide) (by decide) dJ7_fill_53178_13 ?_
  refine ry_iinc (v := 13) (L' := [(2, .int 13), (3, .int (nI 40)), (0, .ref (ro_ad (kG K) 11)), (1, .int 255)]) hK 0 rfl dJ7_fill_53178_14 (by decide) (by decide) rfl ?_
  refine ry_goto hK 5 dJ7_fill_53178_17 (by decide) ?_
  refine ry_iload_n hK 0 rfl dJ7_fill_53178_5 rfl ?_
  refine ry_iload_n hK 1 rfl dJ7_fill_53178_6 rfl ?_
  refine ry_icmp_ge hK 20 dJ7_fill_53178_7 (by decide) (fun q => absurd q (by decide)) (fun _ => ?_)
  refine ry_aload_n hK 2 rfl dJ7_fill_53178_10 rfl ?_
  refine ry_iload_n hK 0 rfl dJ7_fill_53178_11 rfl ?_
  refine ry_iload_n hK 3 rfl dJ7_fill_53178_12 rfl ?_
  refine ry_iast hK sh_11 (by decide) (by decide) dJ7_fill_53178_13 ?_
  refine ry_iinc (v := 14) (L' := [(2, .int 14), (3, .int (nI 40)), (0, .ref (ro_ad (kG K) 11)), (1, .int 255)]) hK 0 rfl dJ7_fill_53178_14 (by decide) (by decide) rfl ?_
  refine ry_goto hK 5 dJ7_fill_53178_17 (by decide) ?_
  refine ry_iload_n hK 0 rfl dJ7_fill_53178_5 rfl ?_
  refine ry_iload_n hK 1 rfl dJ7_fill_53178_6 rfl ?_
  refine ry_icmp_ge hK 20 dJ7_fill_53178_7 (by decide) (fun q => absurd q (by decide)) (fun _ => ?_)
  refine ry_aload_n hK 2 rfl dJ7_fill_53178_10 rfl ?_
  refine ry_iload_n hK 0 rfl dJ7_fill_53178_11 rfl ?_
  refine ry_iload_n hK 3 rfl dJ7_fill_53178_12 rfl ?_
  refine ry_iast hK sh_11 (by decide) (by decide) dJ7_fill_53178_13 ?_
  refine ry_iinc (v := 15) (L' := [(2, .int 15), (3, .int (nI 40)), (0, .ref (ro_ad (kG K) 11)), (1, .int 255)]) hK 0 rfl dJ7_fill_53178_14 (by decide) (by decide) rfl ?_
  refine ry_goto hK 5 dJ7_fill_53178_17 (by decide) ?_
  refine ry_iload_n hK 0 rfl dJ7_fill_53178_5 rfl ?_
  refine ry_iload_n hK 1 rfl dJ7_fill_53178_6 rfl ?_
  refine ry_icmp_ge hK 20 dJ7_fill_53178_7 (by decide) (fun q => absurd q (by decide)) (fun _ => ?_)
  refine ry_aload_n hK 2 rfl dJ7_fill_53178_10 rfl ?_
  refine ry_iload_n hK 0 rfl dJ7_fill_53178_11 rfl ?_
  refine ry_iload_n hK 3 rfl dJ7_fill_53178_12 rfl ?_
  refine ry_iast hK sh_11 (by decide) (by decide) dJ7_fill_53178_13 ?_
  refine ry_iinc (v := 16) (L' := [(2, .int 16), (3, .int (nI 40)), (0, .ref (ro_ad (kG K) 11)), (1, .int 255)]) hK 0 rfl dJ7_fill_53178_14 (by decide) (by decide) rfl ?_
  refine ry_goto hK 5 dJ7_fill_53178_17 (by decide) ?_
  refine ry_iload_n hK 0 rfl dJ7_fill_53178_5 rfl ?_
  refine ry_iload_n hK 1 rfl dJ7_fill_53178_6 rfl ?_
  refine ry_icmp_ge hK 20 dJ7_fill_53178_7 (by decide) (fun q => absurd q (by decide)) (fun _ => ?_)
  refine ry_aload_n hK 2 rfl dJ7_fill_53178_10 rfl ?_
  refine ry_iload_n hK 0 rfl dJ7_fill_53178_11 rfl ?_
  refine ry_iload_n hK 3 rfl dJ7_fill_53178_12 rfl ?_
  refine ry_iast hK sh_11 (by decide) (by decide) dJ7_fill_53178_13 ?_
  refine ry_iinc (v := 17) (L' := [(2, .int 17), (3, .int (nI 40)), (0, .ref (ro_ad (kG K) 11)), (1, .int 255)]) hK 0 rfl dJ7_fill_53178_14 (by decide) (by decide) rfl ?_
  refine ry_goto hK 5 dJ7_fill_53178_17 (by decide) ?_
  refine ry_iload_n hK 0 rfl dJ7_fill_53178_5 rfl ?_
  refine ry_iload_n hK 1 rfl dJ7_fill_53178_6 rfl ?_
  refine ry_icmp_ge hK 20 dJ7_fill_53178_7 (by decide) (fun q => absurd q (by decide)) (fun _ => ?_)
  refine ry_aload_n hK 2 rfl dJ7_fill_53178_10 rfl ?_
  refine ry_iload_n hK 0 rfl dJ7_fill_53178_11 rfl ?_
  refine ry_iload_n hK 3 rfl dJ7_fill_53178_12 rfl ?_
  refine ry_iast hK sh_11 (by decide) (by decide) dJ7_fill_53178_13 ?_
  refine ry_iinc (v := 18) (L' := [(2, .int 18), (3, .int (nI 40)), (0, .ref (ro_ad (kG K) 11)), (1, .int 255)]) hK 0 rfl dJ7_fill_53178_14 (by decide) (by decide) rfl ?_
  refine ry_goto hK 5 dJ7_fill_53178_17 (by decide) ?_
  refine ry_iload_n hK 0 rfl dJ7_fill_53178_5 rfl ?_
  refine ry_iload_n hK 1 rfl dJ7_fill_53178_6 rfl ?_
  refine ry_icmp_ge hK 20 dJ7_fill_53178_7 (by decide) (fun q => absurd q (by decide)) (fun _ => ?_)
  refine ry_aload_n hK 2 rfl dJ7_fill_53178_10 rfl ?_
  refine ry_iload_n hK 0 rfl dJ7_fill_53178_11 rfl ?_
  refine ry_iload_n hK 3 rfl dJ7_fill_53178_12 rfl ?_
  refine ry_iast hK sh_11 (by decide) (by decide) dJ7_fill_53178_13 ?_
  refine ry_iinc (v := 19) (L' := [(2, .int 19), (3, .int (nI 40)), (0, .ref (ro_ad (kG K) 11)), (1, .int 255)]) hK 0 rfl dJ7_fill_53178_14 (by decide) (by decide) rfl ?_
  refine ry_goto hK 5 dJ7_fill_53178_17 (by decide) ?_
  refine ry_iload_n hK 0 rfl dJ7_fill_53178_5 rfl ?_
  refine ry_iload_n hK 1 rfl dJ7_fill_53178_6 rfl ?_
  refine ry_icmp_ge hK 20 dJ7_fill_53178_7 (by decide) (fun q => absurd q (by decide)) (fun _ => ?_)
  refine ry_aload_n hK 2 rfl dJ7_fill_53178_10 rfl ?_
  refine ry_iload_n hK 0 rfl dJ7_fill_53178_11 rfl ?_
  refine ry_iload_n hK 3 rfl dJ7_fill_53178_12 rfl ?_
  refine ry_iast hK sh_11 (by decide) (by decide) dJ7_fill_53178_13 ?_
  refine ry_iinc (v := 20) (L' := [(2, .int 20), (3, .int (nI 40)), (0, .ref (ro_ad (kG K) 11)), (1, .int 255)]) hK 0 rfl dJ7_fill_53178_14 (by decide) (by decide) rfl ?_
  refine ry_goto hK 5 dJ7_fill_53178_17 (by decide) ?_
  refine ry_iload_n hK 0 rfl dJ7_fill_53178_5 rfl ?_
  refine ry_iload_n hK 1 rfl dJ7_fill_53178_6 rfl ?_
  refine ry_icmp_ge hK 20 dJ7_fill_53178_7 (by decide) (fun q => absurd q (by decide)) (fun _ => ?_)
  refine ry_aload_n hK 2 rfl dJ7_fill_53178_10 rfl ?_
  refine ry_iload_n hK 0 rfl dJ7_fill_53178_11 rfl ?_
  refine ry_iload_n hK 3 rfl dJ7_fill_53178_12 rfl ?_
  refine ry_iast hK sh_11 (by decide) (by decide) dJ7_fill_53178_13 ?_
  refine ry_iinc (v := 21) (L' := [(2, .int 21), (3, .int (nI 40)), (0, .ref (ro_ad (kG K) 11)), (1, .int 255)]) hK 0 rfl dJ7_fill_53178_14 (by decide) (by decide) rfl ?_
  refine ry_goto hK 5 dJ7_fill_53178_17 (by decide) ?_
  refine ry_iload_n hK 0 rfl dJ7_fill_53178_5 rfl ?_
  refine ry_iload_n hK 1 rfl dJ7_fill_53178_6 rfl ?_
  refine ry_icmp_ge hK 20 dJ7_fill_53178_7 (by decide) (fun q => absurd q (by decide)) (fun _ => ?_)
  refine ry_aload_n hK 2 rfl dJ7_fill_53178_10 rfl ?_
  refine ry_iload_n hK 0 rfl dJ7_fill_53178_11 rfl ?_
  refine ry_iload_n hK 3 rfl dJ7_fill_53178_12 rfl ?_
  refine ry_iast hK sh_11 (by decide) (by decide) dJ7_fill_53178_13 ?_
  refine ry_iinc (v := 22) (L' := [(2, .int 22), (3, .int (nI 40)), (0, .ref (ro_ad (kG K) 11)), (1, .int 255)]) hK 0 rfl dJ7_fill_53178_14 (by decide) (by decide) rfl ?_
  refine ry_goto hK 5 dJ7_fill_53178_17 (by decide) ?_
  refine ry_iload_n hK 0 rfl dJ7_fill_53178_5 rfl ?_
  refine ry_iload_n hK 1 rfl dJ7_fill_53178_6 rfl ?_
  refine ry_icmp_ge hK 20 dJ7_fill_53178_7 (by decide) (fun q => absurd q (by decide)) (fun _ => ?_)
  refine ry_aload_n hK 2 rfl dJ7_fill_53178_10 rfl ?_
  refine ry_iload_n hK 0 rfl dJ7_fill_53178_11 rfl ?_
  refine ry_iload_n hK 3 rfl dJ7_fill_53178_12 rfl ?_
  refine ry_iast hK sh_11 (by decide) (by decide) dJ7_fill_53178_13 ?_
  refine ry_iinc (v := 23) (L' := [(2, .int 23), (3, .int (nI 40)), (0, .ref (ro_ad (kG K) 11)), (1, .int 255)]) hK 0 rfl dJ7_fill_53178_14 (by decide) (by decide) rfl ?_
  refine ry_goto hK 5 dJ7_fill_53178_17 (by decide) ?_
  refine ry_iload_n hK 0 rfl dJ7_fill_53178_5 rfl ?_
  refine ry_iload_n hK 1 rfl dJ7_fill_53178_6 rfl ?_
  refine ry_icmp_ge hK 20 dJ7_fill_53178_7 (by decide) (fun q => absurd q (by decide)) (fun _ => ?_)
  refine ry_aload_n hK 2 rfl dJ7_fill_53178_10 rfl ?_
  refine ry_iload_n hK 0 rfl dJ7_fill_53178_11 rfl ?_
  refine ry_iload_n hK 3 rfl dJ7_fill_53178_12 rfl ?_
  refine ry_iast hK sh_11 (by decide) (by decide) dJ7_fill_53178_13 ?_
  refine ry_iinc (v := 24) (L' := [(2, .int 24), (3, .int (nI 40)), (0, .ref (ro_ad (kG K) 11)), (1, .int 255)]) hK 0 rfl dJ7_fill_53178_14 (by decide) (by decide) rfl ?_
  refine ry_goto hK 5 dJ7_fill_53178_17 (by decide) ?_
  refine ry_iload_n hK 0 rfl dJ7_fill_53178_5 rfl ?_
  refine ry_iload_n hK 1 rfl dJ7_fill_53178_6 rfl ?_
  refine ry_icmp_ge hK 20 dJ7_fill_53178_7 (by decide) (fun q => absurd q (by decide)) (fun _ => ?_)
  refine ry_aload_n hK 2 rfl dJ7_fill_53178_10 rfl ?_
  refine ry_iload_n hK 0 rfl dJ7_fill_53178_11 rfl ?_
  refine ry_iload_n hK 3 rfl dJ7_fill_53178_12 rfl ?_
  refine ry_iast hK sh_11 (by decide) (by decide) dJ7_fill_53178_13 ?_
  refine ry_iinc (v := 25) (L' := [(2, .int 25), (3, .int (nI 40)), (0, .ref (ro_ad (kG K) 11)), (1, .int 255)]) hK 0 rfl dJ7_fill_53178_14 (by decide) (by decide) rfl ?_
  refine ry_goto hK 5 dJ7_fill_53178_17 (by decide) ?_
  refine ry_iload_n hK 0 rfl dJ7_fill_53178_5 rfl ?_
  refine ry_iload_n hK 1 rfl dJ7_fill_53178_6 rfl ?_
  refine ry_icmp_ge hK 20 dJ7_fill_53178_7 (by decide) (fun q => absurd q (by decide)) (fun _ => ?_)
  refine ry_aload_n hK 2 rfl dJ7_fill_53178_10 rfl ?_
  refine ry_iload_n hK 0 rfl dJ7_fill_53178_11 rfl ?_
  refine ry_iload_n hK 3 rfl dJ7_fill_53178_12 rfl ?_
  refine ry_iast hK sh_11 (by decide) (by decide) dJ7_fill_53178_13 ?_
  refine ry_iinc (v := 26) (L' := [(2, .int 26), (3, .int (nI 40)), (0, .ref (ro_ad (kG K) 11)), (1, .int 255)]) hK 0 rfl dJ7_fill_53178_14 (by decide) (by decide) rfl ?_
  refine ry_goto hK 5 dJ7_fill_53178_17 (by decide) ?_
  refine ry_iload_n hK 0 rfl dJ7_fill_53178_5 rfl ?_
  refine ry_iload_n hK 1 rfl dJ7_fill_53178_6 rfl ?_
  refine ry_icmp_ge hK 20 dJ7_fill_53178_7 (by decide) (fun q => absurd q (by decide)) (fun _ => ?_)
  refine ry_aload_n hK 2 rfl dJ7_fill_53178_10 rfl ?_
  refine ry_iload_n hK 0 rfl dJ7_fill_53178_11 rfl ?_
  refine ry_iload_n hK 3 rfl dJ7_fill_53178_12 rfl ?_
  refine ry_iast hK sh_11 (by decide) (by decide) dJ7_fill_53178_13 ?_
  refine ry_iinc (v := 27) (L' := [(2, .int 27), (3, .int (nI 40)), (0, .ref (ro_ad (kG K) 11)), (1, .int 255)]) hK 0 rfl dJ7_fill_53178_14 (by decide) (by decide) rfl ?_
  refine ry_goto hK 5 dJ7_fill_53178_17 (by decide) ?_
  refine ry_iload_n hK 0 rfl dJ7_fill_53178_5 rfl ?_
  refine ry_iload_n hK 1 rfl dJ7_fill_53178_6 rfl ?_
  refine ry_icmp_ge hK 20 dJ7_fill_53178_7 (by decide) (fun q => absurd q (by decide)) (fun _ => ?_)
  refine ry_aload_n hK 2 rfl dJ7_fill_53178_10 rfl ?_
  refine ry_iload_n hK 0 rfl dJ7_fill_53178_11 rfl ?_
  refine ry_iload_n hK 3 rfl dJ7_fill_53178_12 rfl ?_
  refine ry_iast hK sh_11 (by decide) (by decide) dJ7_fill_53178_13 ?_
  refine ry_iinc (v := 28) (L' := [(2, .int 28), (3, .int (nI 40)), (0, .ref (ro_ad (kG K) 11)), (1, .int 255)]) hK 0 rfl dJ7_fill_53178_14 (by decide) (by decide) rfl ?_
  refine ry_goto hK 5 dJ7_fill_53178_17 (by decide) ?_
  refine ry_iload_n hK 0 rfl dJ7_fill_53178_5 rfl ?_
  refine ry_iload_n hK 1 rfl dJ7_fill_53178_6 rfl ?_
  refine ry_icmp_ge hK 20 dJ7_fill_53178_7 (by decide) (fun q => absurd q (by decide)) (fun _ => ?_)
  refine ry_aload_n hK 2 rfl dJ7_fill_53178_10 rfl ?_
  refine ry_iload_n hK 0 rfl dJ7_fill_53178_11 rfl ?_
  refine ry_iload_n hK 3 rfl dJ7_fill_53178_12 rfl ?_
  refine ry_iast hK sh_11 (by decide) (by decide) dJ7_fill_53178_13 ?_
  refine ry_iinc (v := 29) (L' := [(2, .int 29), (3, .int (nI 40)), (0, .ref (ro_ad (kG K) 11)), (1, .int 255)]) hK 0 rfl dJ7_fill_53178_14 (by decide) (by decide) rfl ?_
  refine ry_goto hK 5 dJ7_fill_53178_17 (by decide) ?_
  refine ry_iload_n hK 0 rfl dJ7_fill_53178_5 rfl ?_
  refine ry_iload_n hK 1 rfl dJ7_fill_53178_6 rfl ?_
  refine ry_icmp_ge hK 20 dJ7_fill_53178_7 (by decide) (fun q => absurd q (by decide)) (fun _ => ?_)
  refine ry_aload_n hK 2 rfl dJ7_fill_53178_10 rfl ?_
  refine ry_iload_n hK 0 rfl dJ7_fill_53178_11 rfl ?_
  refine ry_iload_n hK 3 rfl dJ7_fill_53178_12 rfl ?_
  refine ry_iast hK sh_11 (by decide) (by decide) dJ7_fill_53178_13 ?_
  refine ry_iinc (v := 30) (L' := [(2, .int 30), (3, .int (nI 40)), (0, .ref (ro_ad (kG K) 11)), (1, .int 255)]) hK 0 rfl dJ7_fill_53178_14 (by decide) (by decide) rfl ?_
  refine ry_goto hK 5 dJ7_fill_53178_17 (by decide) ?_
  refine ry_iload_n hK 0 rfl dJ7_fill_53178_5 rfl ?_
  refine ry_iload_n hK 1 rfl dJ7_fill_53178_6 rfl ?_
  refine ry_icmp_ge hK 20 dJ7_fill_53178_7 (by decide) (fun q => absurd q (by decide)) (fun _ => ?_)
  refine ry_aload_n hK 2 rfl dJ7_fill_53178_10 rfl ?_
  refine ry_iload_n hK 0 rfl dJ7_fill_53178_11 rfl ?_
  refine ry_iload_n hK 3 rfl dJ7_fill_53178_12 rfl ?_
  refine ry_iast hK sh_11 (by decide) (by decide) dJ7_fill_53178_13 ?_
  refine ry_iinc (v := 31) (L' := [(2, .int 31), (3, .int (nI 40)), (0, .ref (ro_ad (kG K) 11)), (1, .int 255)]) hK 0 rfl dJ7_fill_53178_14 (by decide) (by decide) rfl ?_
  refine ry_goto hK 5 dJ7_fill_53178_17 (by decide) ?_
  refine ry_iload_n hK 0 rfl dJ7_fill_53178_5 rfl ?_
  refine ry_iload_n hK 1 rfl dJ7_fill_53178_6 rfl ?_
  refine ry_icmp_ge hK 20 dJ7_fill_53178_7 (by decide) (fun q => absurd q (by decide)) (fun _ => ?_)
  refine ry_aload_n hK 2 rfl dJ7_fill_53178_10 rfl ?_
  refine ry_iload_n hK 0 rfl dJ7_fill_53178_11 rfl ?_
  refine ry_iload_n hK 3 rfl dJ7_fill_53178_12 rfl ?_
  refine ry_iast hK sh_11 (by decide) (by decide) dJ7_fill_53178_13 ?_
  refine ry_iinc (v := 32) (L' := [(2, .int 32), (3, .int (nI 40)), (0, .ref (ro_ad (kG K) 11)), (1, .int 255)]) hK 0 rfl dJ7_fill_53178_14 (by decide) (by decide) rfl ?_
  refine ry_goto hK 5 dJ7_fill_53178_17 (by decide) ?_
  refine ry_iload_n hK 0 rfl dJ7_fill_53178_5 rfl ?_
  refine ry_iload_n hK 1 rfl dJ7_fill_53178_6 rfl ?_
  refine ry_icmp_ge hK 20 dJ7_fill_53178_7 (by decide) (fun q => absurd q (by decide)) (fun _ => ?_)
  refine ry_aload_n hK 2 rfl dJ7_fill_53178_10 rfl ?_
  refine ry_iload_n hK 0 rfl dJ7_fill_53178_11 rfl ?_
  refine ry_iload_n hK 3 rfl dJ7_fill_53178_12 rfl ?_
  refine ry_iast hK sh_11 (by decide) (by decide) dJ7_fill_53178_13 ?_
  refine ry_iinc (v := 33) (L' := [(2, .int 33), (3, .int (nI 40)), (0, .ref (ro_ad (kG K) 11)), (1, .int 255)]) hK 0 rfl dJ7_fill_53178_14 (by decide) (by decide) rfl ?_
  refine ry_goto hK 5 dJ7_fill_53178_17 (by decide) ?_
  refine ry_iload_n hK 0 rfl dJ7_fill_53178_5 rfl ?_
  refine ry_iload_n hK 1 rfl dJ7_fill_53178_6 rfl ?_
  refine ry_icmp_ge hK 20 dJ7_fill_53178_7 (by decide) (fun q => absurd q (by decide)) (fun _ => ?_)
  refine ry_aload_n hK 2 rfl dJ7_fill_53178_10 rfl ?_
  refine ry_iload_n hK 0 rfl dJ7_fill_53178_11 rfl ?_
  refine ry_iload_n hK 3 rfl dJ7_fill_53178_12 rfl ?_
  refine ry_iast hK sh_11 (by decide) (by decide) dJ7_fill_53178_13 ?_
  refine ry_iinc (v := 34) (L' := [(2, .int 34), (3, .int (nI 40)), (0, .ref (ro_ad (kG K) 11)), (1, .int 255)]) hK 0 rfl dJ7_fill_53178_14 (by decide) (by decide) rfl ?_
  refine ry_goto hK 5 dJ7_fill_53178_17 (by decide) ?_
  refine ry_iload_n hK 0 rfl dJ7_fill_53178_5 rfl ?_
  refine ry_iload_n hK 1 rfl dJ7_fill_53178_6 rfl ?_
  refine ry_icmp_ge hK 20 dJ7_fill_53178_7 (by decide) (fun q => absurd q (by decide)) (fun _ => ?_)
  refine ry_aload_n hK 2 rfl dJ7_fill_53178_10 rfl ?_
  refine ry_iload_n hK 0 rfl dJ7_fill_53178_11 rfl ?_
  refine ry_iload_n hK 3 rfl dJ7_fill_53178_12 rfl ?_
  refine ry_iast hK sh_11 (by decide) (by decide) dJ7_fill_53178_13 ?_
  refine ry_iinc (v := 35) (L' := [(2, .int 35), (3, .int (nI 40)), (0, .ref (ro_ad (kG K) 11)), (1, .int 255)]) hK 0 rfl dJ7_fill_53178_14 (by decide) (by decide) rfl ?_
  refine ry_goto hK 5 dJ7_fill_53178_17 (by decide) ?_
  refine ry_iload_n hK 0 rfl dJ7_fill_53178_5 rfl ?_
  refine ry_iload_n hK 1 rfl dJ7_fill_53178_6 rfl ?_
  refine ry_icmp_ge hK 20 dJ7_fill_53178_7 (by decide) (fun q => absurd q (by decide)) (fun _ => ?_)
  refine ry_aload_n hK 2 rfl dJ7_fill_53178_10 rfl ?_
  refine ry_iload_n hK 0 rfl dJ7_fill_53178_11 rfl ?_
  refine ry_iload_n hK 3 rfl dJ7_fill_53178_12 rfl ?_
  refine ry_iast hK sh_11 (by decide) (by decide) dJ7_fill_53178_13 ?_
  refine ry_iinc (v := 36) (L' := [(2, .int 36), (3, .int (nI 40)), (0, .ref (ro_ad (kG K) 11)), (1, .int 255)]) hK 0 rfl dJ7_fill_53178_14 (by decide) (by decide) rfl ?_
  refine ry_goto hK 5 dJ7_fill_53178_17 (by decide) ?_
  refine ry_iload_n hK 0 rfl dJ7_fill_53178_5 rfl ?_
  refine ry_iload_n hK 1 rfl dJ7_fill_53178_6 rfl ?_
  refine ry_icmp_ge hK 20 dJ7_fill_53178_7 (by decide) (fun q => absurd q (by decide)) (fun _ => ?_)
  refine ry_aload_n hK 2 rfl dJ7_fill_53178_10 rfl ?_
  refine ry_iload_n hK 0 rfl dJ7_fill_53178_11 rfl ?_
  refine ry_iload_n hK 3 rfl dJ7_fill_53178_12 rfl ?_
  refine ry_iast hK sh_11 (by decide) (by decide) dJ7_fill_53178_13 ?_
  refine ry_iinc (v := 37) (L' := [(2, .int 37), (3, .int (nI 40)), (0, .ref (ro_ad (kG K) 11)), (1, .int 255)]) hK 0 rfl dJ7_fill_53178_14 (by decide) (by decide) rfl ?_
  refine ry_goto hK 5 dJ7_fill_53178_17 (by decide) ?_
  refine ry_iload_n hK 0 rfl dJ7_fill_53178_5 rfl ?_
  refine ry_iload_n hK 1 rfl dJ7_fill_53178_6 rfl ?_
  refine ry_icmp_ge hK 20 dJ7_fill_53178_7 (by decide) (fun q => absurd q (by decide)) (fun _ => ?_)
  refine ry_aload_n hK 2 rfl dJ7_fill_53178_10 rfl ?_
  refine ry_iload_n hK 0 rfl dJ7_fill_53178_11 rfl ?_
  refine ry_iload_n hK 3 rfl dJ7_fill_53178_12 rfl ?_
  refine ry_iast hK sh_11 (by decide) (by decide) dJ7_fill_53178_13 ?_
  refine ry_iinc (v := 38) (L' := [(2, .int 38), (3, .int (nI 40)), (0, .ref (ro_ad (kG K) 11)), (1, .int 255)]) hK 0 rfl dJ7_fill_53178_14 (by decide) (by decide) rfl ?_
  refine ry_goto hK 5 dJ7_fill_53178_17 (by decide) ?_
  refine ry_iload_n hK 0 rfl dJ7_fill_53178_5 rfl ?_
  refine ry_iload_n hK 1 rfl dJ7_fill_53178_6 rfl ?_
  refine ry_icmp_ge hK 20 dJ7_fill_53178_7 (by decide) (fun q => absurd q (by decide)) (fun _ => ?_)
  refine ry_aload_n hK 2 rfl dJ7_fill_53178_10 rfl ?_
  refine ry_iload_n hK 0 rfl dJ7_fill_53178_11 rfl ?_
  refine ry_iload_n hK 3 rfl dJ7_fill_53178_12 rfl ?_
  refine ry_iast hK sh_11 (by decide) (by decide) dJ7_fill_53178_13 ?_
  refine ry_iinc (v := 39) (L' := [(2, .int 39), (3, .int (nI 40)), (0, .ref (ro_ad (kG K) 11)), (1, .int 255)]) hK 0 rfl dJ7_fill_53178_14 (by decide) (by decide) rfl ?_
  refine ry_goto hK 5 dJ7_fill_53178_17 (by decide) ?_
  refine ry_iload_n hK 0 rfl dJ7_fill_53178_5 rfl ?_
  refine ry_iload_n hK 1 rfl dJ7_fill_53178_6 rfl ?_
  refine ry_icmp_ge hK 20 dJ7_fill_53178_7 (by decide) (fun q => absurd q (by decide)) (fun _ => ?_)
  refine ry_aload_n hK 2 rfl dJ7_fill_53178_10 rfl ?_
  refine ry_iload_n hK 0 rfl dJ7_fill_53178_11 rfl ?_
  refine ry_iload_n hK 3 rfl dJ7_fill_53178_12 rfl ?_
  refine ry_iast hK sh_11 (by decide) (by decide) dJ7_fill_53178_13 ?_
  refine ry_iinc (v := 40) (L' := [(2, .int 40), (3, .int (nI 40)), (0, .ref (ro_ad (kG K) 11)), (1, .int 255)]) hK 0 rfl dJ7_fill_53178_14 (by decide) (by decide) rfl ?_
  refine ry_goto hK 5 dJ7_fill_53178_17 (by decide) ?_
  refine ry_iload_n hK 0 rfl dJ7_fill_53178_5 rfl ?_
  refine ry_iload_n hK 1 rfl dJ7_fill_53178_6 rfl ?_
  refine ry_icmp_ge hK 20 dJ7_fill_53178_7 (by decide) (fun _ => ?_) (fun q => absurd (by decide) q)
  exact ry_ret hK hR dJ7_fill_53178_20
theorem dX1_init_0 : decode cX1_init 0 = .ok (.aload_n 0, 1) := by decide +kernel
theorem dX1_init_1 : decode cX1_init 1 = .ok (.invokespecial 3, 3) := by decide +kernel
theorem dX1_init_4 : decode cX1_init 4 = .ok (.aload_n 0, 1) := by decide +kernel
theorem dX1_init_5 : decode cX1_init 5 = .ok (.bipush 96, 2) := by decide +kernel
theorem dX1_init_7 : decode cX1_init 7 = .ok (.newarray .boolean, 2) := by decide +kernel
theorem dX1_init_9 : decode cX1_init 9 = .ok (.putfield 9, 3) := by decide +kernel
theorem dX1_init_12 : decode cX1_init 12 = .ok (.aload_n 0, 1) := by decide +kernel
theorem dX1_init_13 : decode cX1_init 13 = .ok (.bipush 96, 2) := by decide +kernel
theorem dX1_init_15 : decode cX1_init 15 = .ok (.newarray .int, 2) := by decide +kernel
theorem dX1_init_17 : decode cX1_init 17 = .ok (.putfield 15, 3) := by decide +kernel
theorem dX1_init_20 : decode cX1_init 20 = .ok (.aload_n 0, 1) := by decide +kernel
theorem dX1_init_21 : decode cX1_init 21 = .ok (.bipush 96, 2) := by decide +kernel
theorem dX1_init_23 : decode cX1_init 23 = .ok (.newarray .int, 2) := by decide +kernel
theorem dX1_init_25 : decode cX1_init 25 = .ok (.putfield 19, 3) := by decide +kernel
theorem dX1_init_28 : decode cX1_init 28 = .ok (.aload_n 0, 1) := by decide +kernel
theorem dX1_init_29 : decode cX1_init 29 = .ok (.bipush 16, 2) := by decide +kernel
theorem dX1_init_31 : decode cX1_init 31 = .ok (.newarray .int, 2) := by decide +kernel
theorem dX1_init_33 : decode cX1_init 33 = .ok (.putfield 22, 3) := by decide +kernel
theorem dX1_init_36 : decode cX1_init 36 = .ok (.aload_n 0, 1) := by decide +kernel
theorem dX1_init_37 : decode cX1_init 37 = .ok (.bipush 16, 2) := by decide +kernel
theorem dX1_init_39 : decode cX1_init 39 = .ok (.newarray .int, 2) := by decide +kernel
theorem dX1_init_41 : decode cX1_init 41 = .ok (.putfield 25, 3) := by decide +kernel
theorem dX1_init_44 : decode cX1_init 44 = .ok (.aload_n 0, 1) := by decide +kernel
theorem dX1_init_45 : decode cX1_init 45 = .ok (.bipush 16, 2) := by decide +kernel
theorem dX1_init_47 : decode cX1_init 47 = .ok (.newarray .int, 2) := by decide +kernel
theorem dX1_init_49 : decode cX1_init 49 = .ok (.putfield 28, 3) := by decide +kernel
theorem dX1_init_52 : decode cX1_init 52 = .ok (.aload_n 0, 1) := by decide +kernel
theorem dX1_init_53 : decode cX1_init 53 = .ok (.iconst 4, 1) := by decide +kernel
theorem dX1_init_54 : decode cX1_init 54 = .ok (.newarray .int, 2) := by decide +kernel
theorem dX1_init_56 : decode cX1_init 56 = .ok (.putfield 31, 3) := by decide +kernel
theorem dX1_init_59 : decode cX1_init 59 = .ok (.aload_n 0, 1) := by decide +kernel
theorem dX1_init_60 : decode cX1_init 60 = .ok (.bipush 10, 2) := by decide +kernel
theorem dX1_init_62 : decode cX1_init 62 = .ok (.newarray .int, 2) := by decide +kernel
theorem dX1_init_64 : decode cX1_init 64 = .ok (.putfield 34, 3) := by decide +kernel
theorem dX1_init_67 : decode cX1_init 67 = .ok (.aload_n 0, 1) := by decide +kernel
theorem dX1_init_68 : decode cX1_init 68 = .ok (.bipush 40, 2) := by decide +kernel
theorem dX1_init_70 : decode cX1_init 70 = .ok (.newarray .int, 2) := by decide +kernel
theorem dX1_init_72 : decode cX1_init 72 = .ok (.putfield 37, 3) := by decide +kernel
theorem dX1_init_75 : decode cX1_init 75 = .ok (.aload_n 0, 1) := by decide +kernel
theorem dX1_init_76 : decode cX1_init 76 = .ok (.bipush 10, 2) := by decide +kernel
theorem dX1_init_78 : decode cX1_init 78 = .ok (.newarray .int, 2) := by decide +kernel
theorem dX1_init_80 : decode cX1_init 80 = .ok (.putfield 40, 3) := by decide +kernel
theorem dX1_init_83 : decode cX1_init 83 = .ok (.aload_n 0, 1) := by decide +kernel
theorem dX1_init_84 : decode cX1_init 84 = .ok (.bipush 16, 2) := by decide +kernel
theorem dX1_init_86 : decode cX1_init 86 = .ok (.newarray .int, 2) := by decide +kernel
theorem dX1_init_88 : decode cX1_init 88 = .ok (.putfield 43, 3) := by decide +kernel
theorem dX1_init_91 : decode cX1_init 91 = .ok (.aload_n 0, 1) := by decide +kernel
theorem dX1_init_92 : decode cX1_init 92 = .ok (.bipush 32, 2) := by decide +kernel
theorem dX1_init_94 : decode cX1_init 94 = .ok (.newarray .int, 2) := by decide +kernel
theorem dX1_init_96 : decode cX1_init 96 = .ok (.putfield 46, 3) := by decide +kernel
theorem dX1_init_99 : decode cX1_init 99 = .ok (.aload_n 0, 1) := by decide +kernel
theorem dX1_init_100 : decode cX1_init 100 = .ok (.getfield 37, 3) := by decide +kernel
theorem dX1_init_103 : decode cX1_init 103 = .ok (.sipush 255, 3) := by decide +kernel
theorem dX1_init_106 : decode cX1_init 106 = .ok (.invokestatic 49, 3) := by decide +kernel
theorem dX1_init_109 : decode cX1_init 109 = .ok (.aload_n 0, 1) := by decide +kernel
theorem dX1_init_110 : decode cX1_init 110 = .ok (.iconst 1, 1) := by decide +kernel
theorem dX1_init_111 : decode cX1_init 111 = .ok (.putfield 55, 3) := by decide +kernel
theorem dX1_init_114 : decode cX1_init 114 = .ok (.return_, 1) := by decide +kernel
def cm_X1_init_2 (μ : ro_Mem) : ro_Mem := ro_set (cm_J7_fill_53178_11 (ro_set (ro_arr (ro_set (ro_arr (ro_set (ro_arr (ro_set (ro_arr (ro_set (ro_arr (ro_set (ro_arr (ro_set (ro_arr (ro_set (ro_arr (ro_set (ro_arr (ro_set (ro_arr (ro_set (ro_arr (ro_set (ro_arr (μ) 3 (fun _ => 0)) 2 0 (nI (3 + 1))) 4 (fun _ => 0)) 2 1 (nI (4 + 1))) 5 (fun _ => 0)) 2 2 (nI (5 + 1))) 6 (fun _ => 0)) 2 3 (nI (6 + 1))) 7 (fun _ => 0)) 2 4 (nI (7 + 1))) 8 (fun _ => 0)) 2 5 (nI (8 + 1))) 9 (fun _ => 0)) 2 8 (nI (9 + 1))) 10 (fun _ => 0)) 2 9 (nI (10 + 1))) 11 (fun _ => 0)) 2 10 (nI (11 + 1))) 12 (fun _ => 0)) 2 14 (nI (12 + 1))) 13 (fun _ => 0)) 2 15 (nI (13 + 1))) 14 (fun _ => 0)) 2 16 (nI (14 + 1)))) 2 17 1
set_option maxRecDepth 100000 in
theorem cy_X1_init_2 (l : Launch) (G : ro_G) (μ : ro_Mem) : ry_MY l G yX1_init cX1_init 1 1 12 448 [.ref (ro_ad G 2)] 3 μ 15 (cm_X1_init_2 μ) := by
  refine ry_MY.of (by decide +kernel) (Nat.le_of_ble_eq_true rfl) (fun K hG hl hK hR hin => ?_)
  subst hG
  subst hl
  unfold cm_X1_init_2 at hR
  refine ry_aload_n hK 0 rfl dX1_init_0 rfl ?_
  refine ry_obj hK ob_X1_3 ko_in ko_cd (Nat.le_of_ble_eq_true rfl) dX1_init_1 ?_
  refine ry_aload_n hK 0 rfl dX1_init_4 rfl ?_
  refine ry_bipush (v := 96) hK dX1_init_5 (by decide) ?_
  refine ry_newa (at0 := .boolean) hK sh_3 ka_boolean (Or.inr (Or.inl ⟨rfl, rfl⟩)) (by decide) (by decide) (by decide) (by decide) (by decide) dX1_init_7 ?_
  refine ry_put (x := nI (3 + 1)) hK hin fl_X1_9 (fun q h => by cases h; rfl) sh_2 (by decide) (ry_fvr ⟨_, rfl⟩ (by decide)) rfl rfl dX1_init_9 ?_
  refine ry_aload_n hK 0 rfl dX1_init_12 rfl ?_
  refine ry_bipush (v := 96) hK dX1_init_13 (by decide) ?_
  refine ry_newa (at0 := .int) hK sh_4 ka_int (Or.inl ⟨rfl, rfl⟩) (by decide) (by decide) (by decide) (by decide) (by decide) dX1_init_15 ?_
  refine ry_put (x := nI (4 + 1)) hK hin fl_X1_15 (fun q h => by cases h; rfl) sh_2 (by decide) (ry_fvr ⟨_, rfl⟩ (by decide)) rfl rfl dX1_init_17 ?_
  refine ry_aload_n hK 0 rfl dX1_init_20 rfl ?_
  refine ry_bipush (v := 96) hK dX1_init_21 (by decide) ?_
  refine ry_newa (at0 := .int) hK sh_5 ka_int (Or.inl ⟨rfl, rfl⟩) (by decide) (by decide) (by decide) (by decide) (by decide) dX1_init_23 ?_
  refine ry_put (x := nI (5 + 1)) hK hin fl_X1_19 (fun q h => by cases h; rfl) sh_2 (by decide) (ry_fvr ⟨_, rfl⟩ (by decide)) rfl rfl dX1_init_25 ?_
  refine ry_aload_n hK 0 rfl dX1_init_28 rfl ?_
  refine ry_bipush (v := 16) hK dX1_init_29 (by decide) ?_
  refine ry_newa (at0 := .int) hK sh_6 ka_int (Or.inl ⟨rfl, rfl⟩) (by decide) (by decide) (by decide) (by decide) (by decide) dX1_init_31 ?_
  refine ry_put (x := nI (6 + 1)) hK hin fl_X1_22 (fun q h => by cases h; rfl) sh_2 (by decide) (ry_fvr ⟨_, rfl⟩ (by decide)) rfl rfl dX1_init_33 ?_
  refine ry_aload_n hK 0 rfl dX1_init_36 rfl ?_
  refine ry_bipush (v := 16) hK dX1_init_37 (by decide) ?_
  refine ry_newa (at0 := .int) hK sh_7 ka_int (Or.inl ⟨rfl, rfl⟩) (by decide) (by decide) (by decide) (by decide) (by decide) dX1_init_39 ?_
  refine ry_put (x := nI (7 + 1)) hK hin fl_X1_25 (fun q h => by cases h; rfl) sh_2 (by decide) (ry_fvr ⟨_, rfl⟩ (by decide)) rfl rfl dX1_init_41 ?_
  refine ry_aload_n hK 0 rfl dX1_init_44 rfl ?_
  refine ry_bipush (v := 16) hK dX1_init_45 (by decide) ?_
  refine ry_newa (at0 := .int) hK sh_8 ka_int (Or.inl ⟨rfl, rfl⟩) (by decide) (by decide) (by decide) (by decide) (by decide) dX1_init_47 ?_
  refine ry_put (x := nI (8 + 1)) hK hin fl_X1_28 (fun q h => by cases h; rfl) sh_2 (by decide) (ry_fvr ⟨_, rfl⟩ (by decide)) rfl rfl dX1_init_49 ?_
  refine ry_aload_n hK 0 rfl dX1_init_52 rfl ?_
  refine ry_iconst (v := 4) hK dX1_init_53 (by decide) ?_
  refine ry_newa (at0 := .int) hK sh_9 ka_int (Or.inl ⟨rfl, rfl⟩) (by decide) (by decide) (by decide) (by decide) (by decide) dX1_init_54 ?_
  refine ry_put (x := nI (9 + 1)) hK hin fl_X1_31 (fun q h => by cases h; rfl) sh_2 (by decide) (ry_fvr ⟨_, rfl⟩ (by decide)) rfl rfl dX1_init_56 ?_
  refine ry_aload_n hK 0 rfl dX1_init_59 rfl ?_
  refine ry_bipush (v := 10) hK dX1_init_60 (by decide) ?_
  refine ry_newa (at0 := .int) hK sh_10 ka_int (Or.inl ⟨rfl, rfl⟩) (by decide) (by decide) (by decide) (by decide) (by decide) dX1_init_62 ?_
  refine ry_put (x := nI (10 + 1)) hK hin fl_X1_34 (fun q h => by cases h; rfl) sh_2 (by decide) (ry_fvr ⟨_, rfl⟩ (by decide)) rfl rfl dX1_init_64 ?_
  refine ry_aload_n hK 0 rfl dX1_init_67 rfl ?_
  refine ry_bipush (v := 40) hK dX1_init_68 (by decide) ?_
  refine ry_newa (at0 := .int) hK sh_11 ka_int (Or.inl ⟨rfl, rfl⟩) (by decide) (by decide) (by decide) (by decide) (by decide) dX1_init_70 ?_
  refine ry_put (x := nI (11 + 1)) hK hin fl_X1_37 (fun q h => by cases h; rfl) sh_2 (by decide) (ry_fvr ⟨_, rfl⟩ (by decide)) rfl rfl dX1_init_72 ?_
  refine ry_aload_n hK 0 rfl dX1_init_75 rfl ?_
  refine ry_bipush (v := 10) hK dX1_init_76 (by decide) ?_
  refine ry_newa (at0 := .int) hK sh_12 ka_int (Or.inl ⟨rfl, rfl⟩) (by decide) (by decide) (by decide) (by decide) (by decide) dX1_init_78 ?_
  refine ry_put (x := nI (12 + 1)) hK hin fl_X1_40 (fun q h => by cases h; rfl) sh_2 (by decide) (ry_fvr ⟨_, rfl⟩ (by decide)) rfl rfl dX1_init_80 ?_
  refine ry_aload_n hK 0 rfl dX1_init_83 rfl ?_
  refine ry_bipush (v := 16) hK dX1_init_84 (by decide) ?_
  refine ry_newa (at0 := .int) hK sh_13 ka_int (Or.inl ⟨rfl, rfl⟩) (by decide) (by decide) (by decide) (by decide) (by decide) dX1_init_86 ?_
  refine ry_put (x := nI (13 + 1)) hK hin fl_X1_43 (fun q h => by cases h; rfl) sh_2 (by decide) (ry_fvr ⟨_, rfl⟩ (by decide)) rfl rfl dX1_init_88 ?_
  refine ry_aload_n hK 0 rfl dX1_init_91 rfl ?_
  refine ry_bipush (v := 32) hK dX1_init_92 (by decide) ?_
  refine ry_newa (at0 := .int) hK sh_14 ka_int (Or.inl ⟨rfl, rfl⟩) (by decide) (by decide) (by decide) (by decide) (by decide) dX1_init_94 ?_
  refine ry_put (x := nI (14 + 1)) hK hin fl_X1_46 (fun q h => by cases h; rfl) sh_2 (by decide) (ry_fvr ⟨_, rfl⟩ (by decide)) rfl rfl dX1_init_96 ?_
  refine ry_aload_n hK 0 rfl dX1_init_99 rfl ?_
  refine ry_get hK fl_X1_37 sh_2 (by decide) (ry_fvg (r := 11) ⟨_, rfl⟩ rfl (by decide)) dX1_init_100 ?_
  refine ry_sipush (v := 255) hK dX1_init_103 (by decide) ?_
  refine ry_calls hK [.ref (ro_ad (kG K) 11), .int 255] ml_X1_49 st_J7_fill_53178 mw_J7_fill_53178 (cy_J7_fill_53178_11 (kl K) (kG K) _) (by decide) rfl rfl (Nat.le_of_ble_eq_true rfl) (by decide) (by decide) dX1_init_106 ?_
  refine ry_aload_n hK 0 rfl dX1_init_109 rfl ?_
  refine ry_iconst (v := 1) hK dX1_init_110 (by decide) ?_
  refine ry_put (x := 1) hK hin fl_X1_55 (fun q h => by cases h; rfl) sh_2 (by decide) (ry_fvi rfl) rfl rfl dX1_init_111 ?_
  exact ry_ret hK hR dX1_init_114
theorem dX5_init_0 : decode cX5_init 0 = .ok (.aload_n 0, 1) := by decide +kernel
theorem dX5_init_1 : decode cX5_init 1 = .ok (.invokespecial 3, 3) := by decide +kernel
theorem dX5_init_4 : decode cX5_init 4 = .ok (.aload_n 0, 1) := by decide +kernel
theorem dX5_init_5 : decode cX5_init 5 = .ok (.bipush 32, 2) := by decide +kernel
theorem dX5_init_7 : decode cX5_init 7 = .ok (.newarray .int, 2) := by decide +kernel
theorem dX5_init_9 : decode cX5_init 9 = .ok (.putfield 9, 3) := by decide +kernel
theorem dX5_init_12 : decode cX5_init 12 = .ok (.aload_n 0, 1) := by decide +kernel
theorem dX5_init_13 : decode cX5_init 13 = .ok (.bipush 32, 2) := by decide +kernel
theorem dX5_init_15 : decode cX5_init 15 = .ok (.newarray .int, 2) := by decide +kernel
theorem dX5_init_17 : decode cX5_init 17 = .ok (.putfield 15, 3) := by decide +kernel
theorem dX5_init_20 : decode cX5_init 20 = .ok (.aload_n 0, 1) := by decide +kernel
theorem dX5_init_21 : decode cX5_init 21 = .ok (.bipush 32, 2) := by decide +kernel
theorem dX5_init_23 : decode cX5_init 23 = .ok (.newarray .int, 2) := by decide +kernel
theorem dX5_init_25 : decode cX5_init 25 = .ok (.putfield 18, 3) := by decide +kernel
theorem dX5_init_28 : decode cX5_init 28 = .ok (.aload_n 0, 1) := by decide +kernel
theorem dX5_init_29 : decode cX5_init 29 = .ok (.bipush 32, 2) := by decide +kernel
theorem dX5_init_31 : decode cX5_init 31 = .ok (.newarray .int, 2) := by decide +kernel
theorem dX5_init_33 : decode cX5_init 33 = .ok (.putfield 21, 3) := by decide +kernel
theorem dX5_init_36 : decode cX5_init 36 = .ok (.aload_n 0, 1) := by decide +kernel
theorem dX5_init_37 : decode cX5_init 37 = .ok (.bipush 32, 2) := by decide +kernel
theorem dX5_init_39 : decode cX5_init 39 = .ok (.newarray .int, 2) := by decide +kernel
theorem dX5_init_41 : decode cX5_init 41 = .ok (.putfield 24, 3) := by decide +kernel
theorem dX5_init_44 : decode cX5_init 44 = .ok (.return_, 1) := by decide +kernel
def cm_X5_init_15 (μ : ro_Mem) : ro_Mem := ro_set (ro_arr (ro_set (ro_arr (ro_set (ro_arr (ro_set (ro_arr (ro_set (ro_arr (μ) 16 (fun _ => 0)) 15 0 (nI (16 + 1))) 17 (fun _ => 0)) 15 1 (nI (17 + 1))) 18 (fun _ => 0)) 15 2 (nI (18 + 1))) 19 (fun _ => 0)) 15 3 (nI (19 + 1))) 20 (fun _ => 0)) 15 4 (nI (20 + 1))
set_option maxRecDepth 100000 in
theorem cy_X5_init_15 (l : Launch) (G : ro_G) (μ : ro_Mem) : ry_MY l G yX5_init cX5_init 1 0 5 160 [.ref (ro_ad G 15)] 16 μ 21 (cm_X5_init_15 μ) := by
  refine ry_MY.of (by decide +kernel) (Nat.le_of_ble_eq_true rfl) (fun K hG hl hK hR hin => ?_)
  subst hG
  subst hl
  unfold cm_X5_init_15 at hR
  refine ry_aload_n hK 0 rfl dX5_init_0 rfl ?_
  refine ry_obj hK ob_X5_3 ko_in ko_cd (Nat.le_of_ble_eq_true rfl) dX5_init_1 ?_
  refine ry_aload_n hK 0 rfl dX5_init_4 rfl ?_
  refine ry_bipush (v := 32) hK dX5_init_5 (by decide) ?_
  refine ry_newa (at0 := .int) hK sh_16 ka_int (Or.inl ⟨rfl, rfl⟩) (by decide) (by decide) (by decide) (by decide) (by decide) dX5_init_7 ?_
  refine ry_put (x := nI (16 + 1)) hK hin fl_X5_9 (fun q h => by cases h; rfl) sh_15 (by decide) (ry_fvr ⟨_, rfl⟩ (by decide)) rfl rfl dX5_init_9 ?_
  refine ry_aload_n hK 0 rfl dX5_init_12 rfl ?_
  refine ry_bipush (v := 32) hK dX5_init_13 (by decide) ?_
  refine ry_newa (at0 := .int) hK sh_17 ka_int (Or.inl ⟨rfl, rfl⟩) (by decide) (by decide) (by decide) (by decide) (by decide) dX5_init_15 ?_
  refine ry_put (x := nI (17 + 1)) hK hin fl_X5_15 (fun q h => by cases h; rfl) sh_15 (by decide) (ry_fvr ⟨_, rfl⟩ (by decide)) rfl rfl dX5_init_17 ?_
  refine ry_aload_n hK 0 rfl dX5_init_20 rfl ?_
  refine ry_bipush (v := 32) hK dX5_init_21 (by decide) ?_
  refine ry_newa (at0 := .int) hK sh_18 ka_int (Or.inl ⟨rfl, rfl⟩) (by decide) (by decide) (by decide) (by decide) (by decide) dX5_init_23 ?_
  refine ry_put (x := nI (18 + 1)) hK hin fl_X5_18 (fun q h => by cases h; rfl) sh_15 (by decide) (ry_fvr ⟨_, rfl⟩ (by decide)) rfl rfl dX5_init_25 ?_
  refine ry_aload_n hK 0 rfl dX5_init_28 rfl ?_
  refine ry_bipush (v := 32) hK dX5_init_29 (by decide) ?_
  refine ry_newa (at0 := .int) hK sh_19 ka_int (Or.inl ⟨rfl, rfl⟩) (by decide) (by decide) (by decide) (by decide) (by decide) dX5_init_31 ?_
  refine ry_put (x := nI (19 + 1)) hK hin fl_X5_21 (fun q h => by cases h; rfl) sh_15 (by decide) (ry_fvr ⟨_, rfl⟩ (by decide)) rfl rfl dX5_init_33 ?_
  refine ry_aload_n hK 0 rfl dX5_init_36 rfl ?_
  refine ry_bipush (v := 32) hK dX5_init_37 (by decide) ?_
  refine ry_newa (at0 := .int) hK sh_20 ka_int (Or.inl ⟨rfl, rfl⟩) (by decide) (by decide) (by decide) (by decide) (by decide) dX5_init_39 ?_
  refine ry_put (x := nI (20 + 1)) hK hin fl_X5_24 (fun q h => by cases h; rfl) sh_15 (by decide) (ry_fvr ⟨_, rfl⟩ (by decide)) rfl rfl dX5_init_41 ?_
  exact ry_ret hK hR dX5_init_44
theorem dX2_init_0 : decode cX2_init 0 = .ok (.aload_n 0, 1) := by decide +kernel
theorem dX2_init_1 : decode cX2_init 1 = .ok (.invokespecial 3, 3) := by decide +kernel
theorem dX2_init_4 : decode cX2_init 4 = .ok (.aload_n 0, 1) := by decide +kernel
theorem dX2_init_5 : decode cX2_init 5 = .ok (.sipush 200, 3) := by decide +kernel
theorem dX2_init_8 : decode cX2_init 8 = .ok (.newarray .int, 2) := by decide +kernel
theorem dX2_init_10 : decode cX2_init 10 = .ok (.putfield 11, 3) := by decide +kernel
theorem dX2_init_13 : decode cX2_init 13 = .ok (.aload_n 0, 1) := by decide +kernel
theorem dX2_init_14 : decode cX2_init 14 = .ok (.sipush 200, 3) := by decide +kernel
theorem dX2_init_17 : decode cX2_init 17 = .ok (.newarray .int, 2) := by decide +kernel
theorem dX2_init_19 : decode cX2_init 19 = .ok (.putfield 15, 3) := by decide +kernel
theorem dX2_init_22 : decode cX2_init 22 = .ok (.aload_n 0, 1) := by decide +kernel
theorem dX2_init_23 : decode cX2_init 23 = .ok (.bipush 14, 2) := by decide +kernel
theorem dX2_init_25 : decode cX2_init 25 = .ok (.newarray .int, 2) := by decide +kernel
theorem dX2_init_27 : decode cX2_init 27 = .ok (.putfield 18, 3) := by decide +kernel
theorem dX2_init_30 : decode cX2_init 30 = .ok (.aload_n 0, 1) := by decide +kernel
theorem dX2_init_31 : decode cX2_init 31 = .ok (.bipush 14, 2) := by decide +kernel
theorem dX2_init_33 : decode cX2_init 33 = .ok (.newarray .int, 2) := by decide +kernel
theorem dX2_init_35 : decode cX2_init 35 = .ok (.putfield 21, 3) := by decide +kernel
theorem dX2_init_38 : decode cX2_init 38 = .ok (.aload_n 0, 1) := by decide +kernel
theorem dX2_init_39 : decode cX2_init 39 = .ok (.bipush 14, 2) := by decide +kernel
theorem dX2_init_41 : decode cX2_init 41 = .ok (.newarray .int, 2) := by decide +kernel
theorem dX2_init_43 : decode cX2_init 43 = .ok (.putfield 24, 3) := by decide +kernel
theorem dX2_init_46 : decode cX2_init 46 = .ok (.aload_n 0, 1) := by decide +kernel
theorem dX2_init_47 : decode cX2_init 47 = .ok (.bipush 14, 2) := by decide +kernel
theorem dX2_init_49 : decode cX2_init 49 = .ok (.newarray .int, 2) := by decide +kernel
theorem dX2_init_51 : decode cX2_init 51 = .ok (.putfield 27, 3) := by decide +kernel
theorem dX2_init_54 : decode cX2_init 54 = .ok (.aload_n 0, 1) := by decide +kernel
theorem dX2_init_55 : decode cX2_init 55 = .ok (.bipush 12, 2) := by decide +kernel
theorem dX2_init_57 : decode cX2_init 57 = .ok (.newarray .int, 2) := by decide +kernel
theorem dX2_init_59 : decode cX2_init 59 = .ok (.putfield 30, 3) := by decide +kernel
theorem dX2_init_62 : decode cX2_init 62 = .ok (.aload_n 0, 1) := by decide +kernel
theorem dX2_init_63 : decode cX2_init 63 = .ok (.bipush 32, 2) := by decide +kernel
theorem dX2_init_65 : decode cX2_init 65 = .ok (.newarray .int, 2) := by decide +kernel
theorem dX2_init_67 : decode cX2_init 67 = .ok (.putfield 33, 3) := by decide +kernel
theorem dX2_init_70 : decode cX2_init 70 = .ok (.return_, 1) := by decide +kernel
def cm_X2_init_21 (μ : ro_Mem) : ro_Mem := ro_set (ro_arr (ro_set (ro_arr (ro_set (ro_arr (ro_set (ro_arr (ro_set (ro_arr (ro_set (ro_arr (ro_set (ro_arr (ro_set (ro_arr (μ) 22 (fun _ => 0)) 21 0 (nI (22 + 1))) 23 (fun _ => 0)) 21 1 (nI (23 + 1))) 24 (fun _ => 0)) 21 4 (nI (24 + 1))) 25 (fun _ => 0)) 21 5 (nI (25 + 1))) 26 (fun _ => 0)) 21 6 (nI (26 + 1))) 27 (fun _ => 0)) 21 7 (nI (27 + 1))) 28 (fun _ => 0)) 21 8 (nI (28 + 1))) 29 (fun _ => 0)) 21 9 (nI (29 + 1))
set_option maxRecDepth 100000 in
theorem cy_X2_init_21 (l : Launch) (G : ro_G) (μ : ro_Mem) : ry_MY l G yX2_init cX2_init 1 0 8 500 [.ref (ro_ad G 21)] 22 μ 30 (cm_X2_init_21 μ) := by
  refine ry_MY.of (by decide +kernel) (Nat.le_of_ble_eq_true rfl) (fun K hG hl hK hR hin => ?_)
  subst hG
  subst hl
  unfold cm_X2_init_21 at hR
  refine ry_aload_n hK 0 rfl dX2_init_0 rfl ?_
  refine ry_obj hK ob_X2_3 ko_in ko_cd (Nat.le_of_ble_eq_true rfl) dX2_init_1 ?_
  refine ry_aload_n hK 0 rfl dX2_init_4 rfl ?_
  refine ry_sipush (v := 200) hK dX2_init_5 (by decide) ?_
  refine ry_newa (at0 := .int) hK sh_22 ka_int (Or.inl ⟨rfl, rfl⟩) (by decide) (by decide) (by decide) (by decide) (by decide) dX2_init_8 ?_
  refine ry_put (x := nI (22 + 1)) hK hin fl_X2_11 (fun q h => by cases h; rfl) sh_21 (by decide) (ry_fvr ⟨_, rfl⟩ (by decide)) rfl rfl dX2_init_10 ?_
  refine ry_aload_n hK 0 rfl dX2_init_13 rfl ?_
  refine ry_sipush (v := 200) hK dX2_init_14 (by decide) ?_
  refine ry_newa (at0 := .int) hK sh_23 ka_int (Or.inl ⟨rfl, rfl⟩) (by decide) (by decide) (by decide) (by decide) (by decide) dX2_init_17 ?_
  refine ry_put (x := nI (23 + 1)) hK hin fl_X2_15 (fun q h => by cases h; rfl) sh_21 (by decide) (ry_fvr ⟨_, rfl⟩ (by decide)) rfl rfl dX2_init_19 ?_
  refine ry_aload_n hK 0 rfl dX2_init_22 rfl ?_
  refine ry_bipush (v := 14) hK dX2_init_23 (by decide) ?_
  refine ry_newa (at0 := .int) hK sh_24 ka_int (Or.inl ⟨rfl, rfl⟩) (by decide) (by decide) (by decide) (by decide) (by decide) dX2_init_25 ?_
  refine ry_put (x := nI (24 + 1)) hK hin fl_X2_18 (fun q h => by cases h; rfl) sh_21 (by decide) (ry_fvr ⟨_, rfl⟩ (by decide)) rfl rfl dX2_init_27 ?_
  refine ry_aload_n hK 0 rfl dX2_init_30 rfl ?_
  refine ry_bipush (v := 14) hK dX2_init_31 (by decide) ?_
  refine ry_newa (at0 := .int) hK sh_25 ka_int (Or.inl ⟨rfl, rfl⟩) (by decide) (by decide) (by decide) (by decide) (by decide) dX2_init_33 ?_
  refine ry_put (x := nI (25 + 1)) hK hin fl_X2_21 (fun q h => by cases h; rfl) sh_21 (by decide) (ry_fvr ⟨_, rfl⟩ (by decide)) rfl rfl dX2_init_35 ?_
  refine ry_aload_n hK 0 rfl dX2_init_38 rfl ?_
  refine ry_bipush (v := 14) hK dX2_init_39 (by decide) ?_
  refine ry_newa (at0 := .int) hK sh_26 ka_int (Or.inl ⟨rfl, rfl⟩) (by decide) (by decide) (by decide) (by decide) (by decide) dX2_init_41 ?_
  refine ry_put (x := nI (26 + 1)) hK hin fl_X2_24 (fun q h => by cases h; rfl) sh_21 (by decide) (ry_fvr ⟨_, rfl⟩ (by decide)) rfl rfl dX2_init_43 ?_
  refine ry_aload_n hK 0 rfl dX2_init_46 rfl ?_
  refine ry_bipush (v := 14) hK dX2_init_47 (by decide) ?_
  refine ry_newa (at0 := .int) hK sh_27 ka_int (Or.inl ⟨rfl, rfl⟩) (by decide) (by decide) (by decide) (by decide) (by decide) dX2_init_49 ?_
  refine ry_put (x := nI (27 + 1)) hK hin fl_X2_27 (fun q h => by cases h; rfl) sh_21 (by decide) (ry_fvr ⟨_, rfl⟩ (by decide)) rfl rfl dX2_init_51 ?_
  refine ry_aload_n hK 0 rfl dX2_init_54 rfl ?_
  refine ry_bipush (v := 12) hK dX2_init_55 (by decide) ?_
  refine ry_newa (at0 := .int) hK sh_28 ka_int (Or.inl ⟨rfl, rfl⟩) (by decide) (by decide) (by decide) (by decide) (by decide) dX2_init_57 ?_
  refine ry_put (x := nI (28 + 1)) hK hin fl_X2_30 (fun q h => by cases h; rfl) sh_21 (by decide) (ry_fvr ⟨_, rfl⟩ (by decide)) rfl rfl dX2_init_59 ?_
  refine ry_aload_n hK 0 rfl dX2_init_62 rfl ?_
  refine ry_bipush (v := 32) hK dX2_init_63 (by decide) ?_
  refine ry_newa (at0 := .int) hK sh_29 ka_int (Or.inl ⟨rfl, rfl⟩) (by decide) (by decide) (by decide) (by decide) (by decide) dX2_init_65 ?_
  refine ry_put (x := nI (29 + 1)) hK hin fl_X2_33 (fun q h => by cases h; rfl) sh_21 (by decide) (ry_fvr ⟨_, rfl⟩ (by decide)) rfl rfl dX2_init_67 ?_
  exact ry_ret hK hR dX2_init_70
theorem dX9_init_0 : decode cX9_init 0 = .ok (.aload_n 0, 1) := by decide +kernel
theorem dX9_init_1 : decode cX9_init 1 = .ok (.invokespecial 3, 3) := by decide +kernel
theorem dX9_init_4 : decode cX9_init 4 = .ok (.aload_n 0, 1) := by decide +kernel
theorem dX9_init_5 : decode cX9_init 5 = .ok (.new 9, 3) := by decide +kernel
theorem dX9_init_8 : decode cX9_init 8 = .ok (.dup, 1) := by decide +kernel
theorem dX9_init_9 : decode cX9_init 9 = .ok (.invokespecial 11, 3) := by decide +kernel
theorem dX9_init_12 : decode cX9_init 12 = .ok (.putfield 12, 3) := by decide +kernel
theorem dX9_init_15 : decode cX9_init 15 = .ok (.aload_n 0, 1) := by decide +kernel
theorem dX9_init_16 : decode cX9_init 16 = .ok (.new 18, 3) := by decide +kernel
theorem dX9_init_19 : decode cX9_init 19 = .ok (.dup, 1) := by decide +kernel
theorem dX9_init_20 : decode cX9_init 20 = .ok (.invokespecial 20, 3) := by decide +kernel
theorem dX9_init_23 : decode cX9_init 23 = .ok (.putfield 21, 3) := by decide +kernel
theorem dX9_init_26 : decode cX9_init 26 = .ok (.aload_n 0, 1) := by decide +kernel
theorem dX9_init_27 : decode cX9_init 27 = .ok (.new 25, 3) := by decide +kernel
theorem dX9_init_30 : decode cX9_init 30 = .ok (.dup, 1) := by decide +kernel
theorem dX9_init_31 : decode cX9_init 31 = .ok (.invokespecial 27, 3) := by decide +kernel
theorem dX9_init_34 : decode cX9_init 34 = .ok (.putfield 28, 3) := by decide +kernel
theorem dX9_init_37 : decode cX9_init 37 = .ok (.aload_n 0, 1) := by decide +kernel
theorem dX9_init_38 : decode cX9_init 38 = .ok (.iconst 4, 1) := by decide +kernel
theorem dX9_init_39 : decode cX9_init 39 = .ok (.newarray .int, 2) := by decide +kernel
theorem dX9_init_41 : decode cX9_init 41 = .ok (.putfield 32, 3) := by decide +kernel
theorem dX9_init_44 : decode cX9_init 44 = .ok (.return_, 1) := by decide +kernel
def cm_X9_init_1 (μ : ro_Mem) : ro_Mem := ro_set (ro_arr (ro_set (cm_X2_init_21 (ro_arr (ro_set (cm_X5_init_15 (ro_arr (ro_set (cm_X1_init_2 (ro_arr (μ) 2 (fun _ => 0))) 1 0 (nI (2 + 1))) 15 (fun _ => 0))) 1 1 (nI (15 + 1))) 21 (fun _ => 0))) 1 2 (nI (21 + 1))) 30 (fun _ => 0)) 1 3 (nI (30 + 1))
set_option maxRecDepth 100000 in
theorem cy_X9_init_1 (l : Launch) (G : ro_G) (μ : ro_Mem) : ry_MY l G yX9_init cX9_init 1 2 29 1148 [.ref (ro_ad G 1)] 2 μ 31 (cm_X9_init_1 μ) := by
  refine ry_MY.of (by decide +kernel) (Nat.le_of_ble_eq_true rfl) (fun K hG hl hK hR hin => ?_)
  subst hG
  subst hl
  unfold cm_X9_init_1 at hR
  refine ry_aload_n hK 0 rfl dX9_init_0 rfl ?_
  refine ry_obj hK ob_X9_3 ko_in ko_cd (Nat.le_of_ble_eq_true rfl) dX9_init_1 ?_
  refine ry_aload_n hK 0 rfl dX9_init_4 rfl ?_
  refine ry_new hK tyX1 sh_2 rfl rfl inw_1 tyX1_ok df_1 cl_X9_9 is_1 it_1 (by decide) (by decide) dX9_init_5 ?_
  refine ry_dup hK dX9_init_8 rfl ?_
  refine ry_calli hK [] ml_X9_11 im_X1_init rfl mw_X1_init (cy_X1_init_2 (kl K) (kG K) _) (by decide) rfl rfl (Nat.le_of_ble_eq_true rfl) (by decide) (by decide) dX9_init_9 ?_
  refine ry_put (x := nI (2 + 1)) hK hin fl_X9_12 (fun q h => by cases h; rfl) sh_1 (by decide) (ry_fvr ⟨_, rfl⟩ (by decide)) rfl rfl dX9_init_12 ?_
  refine ry_aload_n hK 0 rfl dX9_init_15 rfl ?_
  refine ry_new hK tyX5 sh_15 rfl rfl inw_5 tyX5_ok df_5 cl_X9_18 is_5 it_5 (by decide) (by decide) dX9_init_16 ?_
  refine ry_dup hK dX9_init_19 rfl ?_
  refine ry_callin hK [] (by decide +kernel) im_X5_init rfl mw_X5_init (cy_X5_init_15 (kl K) (kG K) _) (by decide) rfl rfl (Nat.le_of_ble_eq_true rfl) (by decide) (by decide) dX9_init_20 ?_
  refine ry_put (x := nI (15 + 1)) hK hin fl_X9_21 (fun q h => by cases h; rfl) sh_1 (by decide) (ry_fvr ⟨_, rfl⟩ (by decide)) rfl rfl dX9_init_23 ?_
  refine ry_aload_n hK 0 rfl dX9_init_26 rfl ?_
  refine ry_new hK tyX2 sh_21 rfl rfl inw_2 tyX2_ok df_2 cl_X9_25 is_2 it_2 (by decide) (by decide) dX9_init_27 ?_
  refine ry_dup hK dX9_init_30 rfl ?_
  refine ry_callin hK [] (by decide +kernel) im_X2_init rfl mw_X2_init (cy_X2_init_21 (kl K) (kG K) _) (by decide) rfl rfl (Nat.le_of_ble_eq_true rfl) (by decide) (by decide) dX9_init_31 ?_
  refine ry_put (x := nI (21 + 1)) hK hin fl_X9_28 (fun q h => by cases h; rfl) sh_1 (by decide) (ry_fvr ⟨_, rfl⟩ (by decide)) rfl rfl dX9_init_34 ?_
  refine ry_aload_n hK 0 rfl dX9_init_37 rfl ?_
  refine ry_iconst (v := 4) hK dX9_init_38 (by decide) ?_
  refine ry_newa (at0 := .int) hK sh_30 ka_int (Or.inl ⟨rfl, rfl⟩) (by decide) (by decide) (by decide) (by decide) (by decide) dX9_init_39 ?_
  refine ry_put (x := nI (30 + 1)) hK hin fl_X9_32 (fun q h => by cases h; rfl) sh_1 (by decide) (ry_fvr ⟨_, rfl⟩ (by decide)) rfl rfl dX9_init_41 ?_
  exact ry_ret hK hR dX9_init_44
def cm_J7_fill_53178_40 (μ : ro_Mem) : ro_Mem := ro_set (ro_set (ro_set (ro_set (ro_set (ro_set (ro_set (ro_set (ro_set (ro_set (ro_set (ro_set (ro_set (ro_set (ro_set (ro_set (ro_set (ro_set (ro_set (ro_set (ro_set (ro_set (ro_set (ro_set (ro_set (ro_set (ro_set (ro_set (ro_set (ro_set (ro_set (ro_set (ro_set (ro_set (ro_set (ro_set (ro_set (ro_set (ro_set (ro_set (μ) 40 (0 : Int32).toNatClampNeg 255) 40 (1 : Int32).toNatClampNeg 255) 40 (2 : Int32).toNatClampNeg 255) 40 (3 : Int32).toNatClampNeg 255) 40 (4 : Int32).toNatClampNeg 255) 40 (5 : Int32).toNatClampNeg 255) 40 (6 : Int32).toNatClampNeg 255) 40 (7 : Int32).toNatClampNeg 255) 40 (8 : Int32).toNatClampNeg 255) 40 (9 : Int32).toNatClampNeg 255) 40 (10 : Int32).toNatClampNeg 255) 40 (11 : Int32).toNatClampNeg 255) 40 (12 : Int32).toNatClampNeg 255) 40 (13 : Int32).toNatClampNeg 255) 40 (14 : Int32).toNatClampNeg 255) 40 (15 : Int32).toNatClampNeg 255) 40 (16 : Int32).toNatClampNeg 255) 40 (17 : Int32).toNatClampNeg 255) 40 (18 : Int32).toNatClampNeg 255) 40 (19 : Int32).toNatClampNeg 255) 40 (20 : Int32).toNatClampNeg 255) 40 (21 : Int32).toNatClampNeg 255) 40 (22 : Int32).toNatClampNeg 255) 40 (23 : Int32).toNatClampNeg 255) 40 (24 : Int32).toNatClampNeg 255) 40 (25 : Int32).toNatClampNeg 255) 40 (26 : Int32).toNatClampNeg 255) 40 (27 : Int32).toNatClampNeg 255) 40 (28 : Int32).toNatClampNeg 255) 40 (29 : Int32).toNatClampNeg 255) 40 (30 : Int32).toNatClampNeg 255) 40 (31 : Int32).toNatClampNeg 255) 40 (32 : Int32).toNatClampNeg 255) 40 (33 : Int32).toNatClampNeg 255) 40 (34 : Int32).toNatClampNeg 255) 40 (35 : Int32).toNatClampNeg 255) 40 (36 : Int32).toNatClampNeg 255) 40 (37 : Int32).toNatClampNeg 255) 40 (38 : Int32).toNatClampNeg 255) 40 (39 : Int32).toNatClampNeg 255
set_option maxRecDepth 100000 in
theorem cy_J7_fill_53178_40 (l : Launch) (G : ro_G) (μ : ro_Mem) : ry_MY l G yJ7_fill_53178 cJ7_fill_53178 4 0 0 0 [.ref (ro_ad G 40), .int 255] 44 μ 44 (cm_J7_fill_53178_40 μ) := by
  refine ry_MY.of (by decide +kernel) (Nat.le_of_ble_eq_true rfl) (fun K hG hl hK hR hin => ?_)
  subst hG
  subst hl
  unfold cm_J7_fill_53178_40 at hR
  refine ry_iconst (v := 0) hK dJ7_fill_53178_0 (by decide) ?_
  refine ry_istore_n (L' := [(2, .int 0), (0, .ref (ro_ad (kG K) 40)), (1, .int 255)]) hK dJ7_fill_53178_1 rfl (by decide) rfl ?_
  refine ry_aload_n hK 1 rfl dJ7_fill_53178_2 rfl ?_
  refine ry_alen hK sh_40 (by decide) dJ7_fill_53178_3 ?_
  refine ry_istore_n (L' := [(3, .int (nI 40)), (2, .int 0), (0, .ref (ro_ad (kG K) 40)), (1, .int 255)]) hK dJ7_fill_53178_4 rfl (by decide) rfl ?_
  refine ry_iload_n hK 1 rfl dJ7_fill_53178_5 rfl ?_
  refine ry_iload_n hK 0 rfl dJ7_fill_53178_6 rfl ?_
  refine ry_icmp_ge hK 20 dJ7_fill_53178_7 (by decide) (fun q => absurd q (by decide)) (fun _ => ?_)
  refine ry_aload_n hK 2 rfl dJ7_fill_53178_10 rfl ?_
  refine ry_iload_n hK 1 rfl dJ7_fill_53178_11 rfl ?_
  refine ry_iload_n hK 3 rfl dJ7_fill_53178_12 rfl ?_
  refine ry_iast hK sh_40 (by decide) (by decide) dJ7_fill_53178_13 ?_
  refine ry_iinc (v := 1) (L' := [(2, .int 1), (3, .int (nI 40)), (0, .ref (ro_ad (kG K) 40)), (1, .int 255)]) hK 1 rfl dJ7_fill_53178_14 (by decide) (by decide) rfl ?_
  refine ry_goto hK 5 dJ7_fill_53178_17 (by decide) ?_
  refine ry_iload_n hK 0 rfl dJ7_fill_53178_5 rfl ?_
  refine ry_iload_n hK 1 rfl dJ7_fill_53178_6 rfl ?_
  refine ry_icmp_ge hK 20 dJ7_fill_53178_7 (by decide) (fun q => absurd q (by decide)) (fun _ => ?_)
  refine ry_aload_n hK 2 rfl dJ7_fill_53178_10 rfl ?_
  refine ry_iload_n hK 0 rfl dJ7_fill_53178_11 rfl ?_
  refine ry_iload_n hK 3 rfl dJ7_fill_53178_12 rfl ?_
  refine ry_iast hK sh_40 (by decide) (by decide) dJ7_fill_53178_13 ?_
  refine ry_iinc (v := 2) (L' := [(2, .int 2), (3, .int (nI 40)), (0, .ref (ro_ad (kG K) 40)), (1, .int 255)]) hK 0 rfl dJ7_fill_53178_14 (by decide) (by decide) rfl ?_
  refine ry_goto hK 5 dJ7_fill_53178_17 (by decide) ?_
  refine ry_iload_n hK 0 rfl dJ7_fill_53178_5 rfl ?_
  refine ry_iload_n hK 1 rfl dJ7_fill_53178_6 rfl ?_
  refine ry_icmp_ge hK 20 dJ7_fill_53178_7 (by decide) (fun q => absurd q (by decide)) (fun _ => ?_)
  refine ry_aload_n hK 2 rfl dJ7_fill_53178_10 rfl ?_
  refine ry_iload_n hK 0 rfl dJ7_fill_53178_11 rfl ?_
  refine ry_iload_n hK 3 rfl dJ7_fill_53178_12 rfl ?_
  refine ry_iast hK sh_40 (by decide) (by decide) dJ7_fill_53178_13 ?_
  refine ry_iinc (v := 3) (L' := [(2, .int 3), (3, .int (nI 40)), (0, .ref (ro_ad (kG K) 40)), (1, .int 255)]) hK 0 rfl dJ7_fill_53178_14 (by decide) (by decide) rfl ?_
  refine ry_goto hK 5 dJ7_fill_53178_17 (by decide) ?_
  refine ry_iload_n hK 0 rfl dJ7_fill_53178_5 rfl ?_
  refine ry_iload_n hK 1 rfl dJ7_fill_53178_6 rfl ?_
  refine ry_icmp_ge hK 20 dJ7_fill_53178_7 (by decide) (fun q => absurd q (by decide)) (fun _ => ?_)
  refine ry_aload_n hK 2 rfl dJ7_fill_53178_10 rfl ?_
  refine ry_iload_n hK 0 rfl dJ7_fill_53178_11 rfl ?_
  refine ry_iload_n hK 3 rfl dJ7_fill_53178_12 rfl ?_
  refine ry_iast hK sh_40 (by decide) (by decide) dJ7_fill_53178_13 ?_
  refine ry_iinc (v := 4) (L' := [(2, .int 4), (3, .int (nI 40)), (0, .ref (ro_ad (kG K) 40)), (1, .int 255)]) hK 0 rfl dJ7_fill_53178_14 (by decide) (by decide) rfl ?_
  refine ry_goto hK 5 dJ7_fill_53178_17 (by decide) ?_
  refine ry_iload_n hK 0 rfl dJ7_fill_53178_5 rfl ?_
  refine ry_iload_n hK 1 rfl dJ7_fill_53178_6 rfl ?_
  refine ry_icmp_ge hK 20 dJ7_fill_53178_7 (by decide) (fun q => absurd q (by decide)) (fun _ => ?_)
  refine ry_aload_n hK 2 rfl dJ7_fill_53178_10 rfl ?_
  refine ry_iload_n hK 0 rfl dJ7_fill_53178_11 rfl ?_
  refine ry_iload_n hK 3 rfl dJ7_fill_53178_12 rfl ?_
  refine ry_iast hK sh_40 (by decide) (by decide) dJ7_fill_53178_13 ?_
  refine ry_iinc (v := 5) (L' := [(2, .int 5), (3, .int (nI 40)), (0, .ref (ro_ad (kG K) 40)), (1, .int 255)]) hK 0 rfl dJ7_fill_53178_14 (by decide) (by decide) rfl ?_
  refine ry_goto hK 5 dJ7_fill_53178_17 (by decide) ?_
  refine ry_iload_n hK 0 rfl dJ7_fill_53178_5 rfl ?_
  refine ry_iload_n hK 1 rfl dJ7_fill_53178_6 rfl ?_
  refine ry_icmp_ge hK 20 dJ7_fill_53178_7 (by decide) (fun q => absurd q (by decide)) (fun _ => ?_)
  refine ry_aload_n hK 2 rfl dJ7_fill_53178_10 rfl ?_
  refine ry_iload_n hK 0 rfl dJ7_fill_53178_11 rfl ?_
  refine ry_iload_n hK 3 rfl dJ7_fill_53178_12 rfl ?_
  refine ry_iast hK sh_40 (by decide) (by decide) dJ7_fill_53178_13 ?_
  refine ry_iinc (v := 6) (L' := [(2, .int 6), (3, .int (nI 40)), (0, .ref (ro_ad (kG K) 40)), (1, .int 255)]) hK 0 rfl dJ7_fill_53178_14 (by decide) (by decide) rfl ?_
  refine ry_goto hK 5 dJ7_fill_53178_17 (by decide) ?_
  refine ry_iload_n hK 0 rfl dJ7_fill_53178_5 rfl ?_
  refine ry_iload_n hK 1 rfl dJ7_fill_53178_6 rfl ?_
  refine ry_icmp_ge hK 20 dJ7_fill_53178_7 (by decide) (fun q => absurd q (by decide)) (fun _ => ?_)
  refine ry_aload_n hK 2 rfl dJ7_fill_53178_10 rfl ?_
  refine ry_iload_n hK 0 rfl dJ7_fill_53178_11 rfl ?_
  refine ry_iload_n hK 3 rfl dJ7_fill_53178_12 rfl ?_
  refine ry_iast hK sh_40 (by decide) (by decide) dJ7_fill_53178_13 ?_
  refine ry_iinc (v := 7) (L' := [(2, .int 7), (3, .int (nI 40)), (0, .ref (ro_ad (kG K) 40)), (1, .int 255)]) hK 0 rfl dJ7_fill_53178_14 (by decide) (by decide) rfl ?_
  refine ry_goto hK 5 dJ7_fill_53178_17 (by decide) ?_
  refine ry_iload_n hK 0 rfl dJ7_fill_53178_5 rfl ?_
  refine ry_iload_n hK 1 rfl dJ7_fill_53178_6 rfl ?_
  refine ry_icmp_ge hK 20 dJ7_fill_53178_7 (by decide) (fun q => absurd q (by decide)) (fun _ => ?_)
  refine ry_aload_n hK 2 rfl dJ7_fill_53178_10 rfl ?_
  refine ry_iload_n hK 0 rfl dJ7_fill_53178_11 rfl ?_
  refine ry_iload_n hK 3 rfl dJ7_fill_53178_12 rfl ?_
  refine ry_iast hK sh_40 (by decide) (by decide) dJ7_fill_53178_13 ?_
  refine ry_iinc (v := 8) (L' := [(2, .int 8), (3, .int (nI 40)), (0, .ref (ro_ad (kG K) 40)), (1, .int 255)]) hK 0 rfl dJ7_fill_53178_14 (by decide) (by decide) rfl ?_
  refine ry_goto hK 5 dJ7_fill_53178_17 (by decide) ?_
  refine ry_iload_n hK 0 rfl dJ7_fill_53178_5 rfl ?_
  refine ry_iload_n hK 1 rfl dJ7_fill_53178_6 rfl ?_
  refine ry_icmp_ge hK 20 dJ7_fill_53178_7 (by decide) (fun q => absurd q (by decide)) (fun _ => ?_)
  refine ry_aload_n hK 2 rfl dJ7_fill_53178_10 rfl ?_
  refine ry_iload_n hK 0 rfl dJ7_fill_53178_11 rfl ?_
  refine ry_iload_n hK 3 rfl dJ7_fill_53178_12 rfl ?_
  refine ry_iast hK sh_40 (by decide) (by decide) dJ7_fill_53178_13 ?_
  refine ry_iinc (v := 9) (L' := [(2, .int 9), (3, .int (nI 40)), (0, .ref (ro_ad (kG K) 40)), (1, .int 255)]) hK 0 rfl dJ7_fill_53178_14 (by decide) (by decide) rfl ?_
  refine ry_goto hK 5 dJ7_fill_53178_17 (by decide) ?_
  refine ry_iload_n hK 0 rfl dJ7_fill_53178_5 rfl ?_
  refine ry_iload_n hK 1 rfl dJ7_fill_53178_6 rfl ?_
  refine ry_icmp_ge hK 20 dJ7_fill_53178_7 (by decide) (fun q => absurd q (by decide)) (fun _ => ?_)
  refine ry_aload_n hK 2 rfl dJ7_fill_53178_10 rfl ?_
  refine ry_iload_n hK 0 rfl dJ7_fill_53178_11 rfl ?_
  refine ry_iload_n hK 3 rfl dJ7_fill_53178_12 rfl ?_
  refine ry_iast hK sh_40 (by decide) (by decide) dJ7_fill_53178_13 ?_
  refine ry_iinc (v := 10) (L' := [(2, .int 10), (3, .int (nI 40)), (0, .ref (ro_ad (kG K) 40)), (1, .int 255)]) hK 0 rfl dJ7_fill_53178_14 (by decide) (by decide) rfl ?_
  refine ry_goto hK 5 dJ7_fill_53178_17 (by decide) ?_
  refine ry_iload_n hK 0 rfl dJ7_fill_53178_5 rfl ?_
  refine ry_iload_n hK 1 rfl dJ7_fill_53178_6 rfl ?_
  refine ry_icmp_ge hK 20 dJ7_fill_53178_7 (by decide) (fun q => absurd q (by decide)) (fun _ => ?_)
  refine ry_aload_n hK 2 rfl dJ7_fill_53178_10 rfl ?_
  refine ry_iload_n hK 0 rfl dJ7_fill_53178_11 rfl ?_
  refine ry_iload_n hK 3 rfl dJ7_fill_53178_12 rfl ?_
  refine ry_iast hK sh_40 (by decide) (by decide) dJ7_fill_53178_13 ?_
  refine ry_iinc (v := 11) (L' := [(2, .int 11), (3, .int (nI 40)), (0, .ref (ro_ad (kG K) 40)), (1, .int 255)]) hK 0 rfl dJ7_fill_53178_14 (by decide) (by decide) rfl ?_
  refine ry_goto hK 5 dJ7_fill_53178_17 (by decide) ?_
  refine ry_iload_n hK 0 rfl dJ7_fill_53178_5 rfl ?_
  refine ry_iload_n hK 1 rfl dJ7_fill_53178_6 rfl ?_
  refine ry_icmp_ge hK 20 dJ7_fill_53178_7 (by decide) (fun q => absurd q (by decide)) (fun _ => ?_)
  refine ry_aload_n hK 2 rfl dJ7_fill_53178_10 rfl ?_
  refine ry_iload_n hK 0 rfl dJ7_fill_53178_11 rfl ?_
  refine ry_iload_n hK 3 rfl dJ7_fill_53178_12 rfl ?_
  refine ry_iast hK sh_40 (by decide) (by decide) dJ7_fill_53178_13 ?_
  refine ry_iinc (v := 12) (L' := [(2, .int 12), (3, .int (nI 40)), (0, .ref (ro_ad (kG K) 40)), (1, .int 255)]) hK 0 rfl dJ7_fill_53178_14 (by decide) (by decide) rfl ?_
  refine ry_goto hK 5 dJ7_fill_53178_17 (by decide) ?_
  refine ry_iload_n hK 0 rfl dJ7_fill_53178_5 rfl ?_
  refine ry_iload_n hK 1 rfl dJ7_fill_53178_6 rfl ?_
  refine ry_icmp_ge hK 20 dJ7_fill_53178_7 (by decide) (fun q => absurd q (by decide)) (fun _ => ?_)
  refine ry_aload_n hK 2 rfl dJ7_fill_53178_10 rfl ?_
  refine ry_iload_n hK 0 rfl dJ7_fill_53178_11 rfl ?_
  refine ry_iload_n hK 3 rfl dJ7_fill_53178_12 rfl ?_
  refine ry_iast hK sh_40 (by decide) (by decide) dJ7_fill_53178_13 ?_
  refine ry_iinc (v := 13) (L' := [(2, .int 13), (3, .int (nI 40)), (0, .ref (ro_ad (kG K) 40)), (1, .int 255)]) hK 0 rfl dJ7_fill_53178_14 (by decide) (by decide) rfl ?_
  refine ry_goto hK 5 dJ7_fill_53178_17 (by decide) ?_
  refine ry_iload_n hK 0 rfl dJ7_fill_53178_5 rfl ?_
  refine ry_iload_n hK 1 rfl dJ7_fill_53178_6 rfl ?_
  refine ry_icmp_ge hK 20 dJ7_fill_53178_7 (by decide) (fun q => absurd q (by decide)) (fun _ => ?_)
  refine ry_aload_n hK 2 rfl dJ7_fill_53178_10 rfl ?_
  refine ry_iload_n hK 0 rfl dJ7_fill_53178_11 rfl ?_
  refine ry_iload_n hK 3 rfl dJ7_fill_53178_12 rfl ?_
  refine ry_iast hK sh_40 (by decide) (by decide) dJ7_fill_53178_13 ?_
  refine ry_iinc (v := 14) (L' := [(2, .int 14), (3, .int (nI 40)), (0, .ref (ro_ad (kG K) 40)), (1, .int 255)]) hK 0 rfl dJ7_fill_53178_14 (by decide) (by decide) rfl ?_
  refine ry_goto hK 5 dJ7_fill_53178_17 (by decide) ?_
  refine ry_iload_n hK 0 rfl dJ7_fill_53178_5 rfl ?_
  refine ry_iload_n hK 1 rfl dJ7_fill_53178_6 rfl ?_
  refine ry_icmp_ge hK 20 dJ7_fill_53178_7 (by decide) (fun q => absurd q (by decide)) (fun _ => ?_)
  refine ry_aload_n hK 2 rfl dJ7_fill_53178_10 rfl ?_
  refine ry_iload_n hK 0 rfl dJ7_fill_53178_11 rfl ?_
  refine ry_iload_n hK 3 rfl dJ7_fill_53178_12 rfl ?_
  refine ry_iast hK sh_40 (by decide) (by decide) dJ7_fill_53178_13 ?_
  refine ry_iinc (v := 15) (L' := [(2, .int 15), (3, .int (nI 40)), (0, .ref (ro_ad (kG K) 40)), (1, .int 255)]) hK 0 rfl dJ7_fill_53178_14 (by decide) (by decide) rfl ?_
  refine ry_goto hK 5 dJ7_fill_53178_17 (by decide) ?_
  refine ry_iload_n hK 0 rfl dJ7_fill_53178_5 rfl ?_
  refine ry_iload_n hK 1 rfl dJ7_fill_53178_6 rfl ?_
  refine ry_icmp_ge hK 20 dJ7_fill_53178_7 (by decide) (fun q => absurd q (by decide)) (fun _ => ?_)
  refine ry_aload_n hK 2 rfl dJ7_fill_53178_10 rfl ?_
  refine ry_iload_n hK 0 rfl dJ7_fill_53178_11 rfl ?_
  refine ry_iload_n hK 3 rfl dJ7_fill_53178_12 rfl ?_
  refine ry_iast hK sh_40 (by decide) (by decide) dJ7_fill_53178_13 ?_
  refine ry_iinc (v := 16) (L' := [(2, .int 16), (3, .int (nI 40)), (0, .ref (ro_ad (kG K) 40)), (1, .int 255)]) hK 0 rfl dJ7_fill_53178_14 (by decide) (by decide) rfl ?_
  refine ry_goto hK 5 dJ7_fill_53178_17 (by decide) ?_
  refine ry_iload_n hK 0 rfl dJ7_fill_53178_5 rfl ?_
  refine ry_iload_n hK 1 rfl dJ7_fill_53178_6 rfl ?_
  refine ry_icmp_ge hK 20 dJ7_fill_53178_7 (by decide) (fun q => absurd q (by decide)) (fun _ => ?_)
  refine ry_aload_n hK 2 rfl dJ7_fill_53178_10 rfl ?_
  refine ry_iload_n hK 0 rfl dJ7_fill_53178_11 rfl ?_
  refine ry_iload_n hK 3 rfl dJ7_fill_53178_12 rfl ?_
  refine ry_iast hK sh_40 (by decide) (by decide) dJ7_fill_53178_13 ?_
  refine ry_iinc (v := 17) (L' := [(2, .int 17), (3, .int (nI 40)), (0, .ref (ro_ad (kG K) 40)), (1, .int 255)]) hK 0 rfl dJ7_fill_53178_14 (by decide) (by decide) rfl ?_
  refine ry_goto hK 5 dJ7_fill_53178_17 (by decide) ?_
  refine ry_iload_n hK 0 rfl dJ7_fill_53178_5 rfl ?_
  refine ry_iload_n hK 1 rfl dJ7_fill_53178_6 rfl ?_
  refine ry_icmp_ge hK 20 dJ7_fill_53178_7 (by decide) (fun q => absurd q (by decide)) (fun _ => ?_)
  refine ry_aload_n hK 2 rfl dJ7_fill_53178_10 rfl ?_
  refine ry_iload_n hK 0 rfl dJ7_fill_53178_11 rfl ?_
  refine ry_iload_n hK 3 rfl dJ7_fill_53178_12 rfl ?_
  refine ry_iast hK sh_40 (by decide) (by decide) dJ7_fill_53178_13 ?_
  refine ry_iinc (v := 18) (L' := [(2, .int 18), (3, .int (nI 40)), (0, .ref (ro_ad (kG K) 40)), (1, .int 255)]) hK 0 rfl dJ7_fill_53178_14 (by decide) (by decide) rfl ?_
  refine ry_goto hK 5 dJ7_fill_53178_17 (by decide) ?_
  refine ry_iload_n hK 0 rfl dJ7_fill_53178_5 rfl ?_
  refine ry_iload_n hK 1 rfl dJ7_fill_53178_6 rfl ?_
  refine ry_icmp_ge hK 20 dJ7_fill_53178_7 (by decide) (fun q => absurd q (by decide)) (fun _ => ?_)
  refine ry_aload_n hK 2 rfl dJ7_fill_53178_10 rfl ?_
  refine ry_iload_n hK 0 rfl dJ7_fill_53178_11 rfl ?_
  refine ry_iload_n hK 3 rfl dJ7_fill_53178_12 rfl ?_
  refine ry_iast hK sh_40 (by decide) (by decide) dJ7_fill_53178_13 ?_
  refine ry_iinc (v := 19) (L' := [(2, .int 19), (3, .int (nI 40)), (0, .ref (ro_ad (kG K) 40)), (1, .int 255)]) hK 0 rfl dJ7_fill_53178_14 (by decide) (by decide) rfl ?_
  refine ry_goto hK 5 dJ7_fill_53178_17 (by decide) ?_
  refine ry_iload_n hK 0 rfl dJ7_fill_53178_5 rfl ?_
  refine ry_iload_n hK 1 rfl dJ7_fill_53178_6 rfl ?_
  refine ry_icmp_ge hK 20 dJ7_fill_53178_7 (by decide) (fun q => absurd q (by decide)) (fun _ => ?_)
  refine ry_aload_n hK 2 rfl dJ7_fill_53178_10 rfl ?_
  refine ry_iload_n hK 0 rfl dJ7_fill_53178_11 rfl ?_
  refine ry_iload_n hK 3 rfl dJ7_fill_53178_12 rfl ?_
  refine ry_iast hK sh_40 (by decide) (by decide) dJ7_fill_53178_13 ?_
  refine ry_iinc (v := 20) (L' := [(2, .int 20), (3, .int (nI 40)), (0, .ref (ro_ad (kG K) 40)), (1, .int 255)]) hK 0 rfl dJ7_fill_53178_14 (by decide) (by decide) rfl ?_
  refine ry_goto hK 5 dJ7_fill_53178_17 (by decide) ?_
  refine ry_iload_n hK 0 rfl dJ7_fill_53178_5 rfl ?_
  refine ry_iload_n hK 1 rfl dJ7_fill_53178_6 rfl ?_
  refine ry_icmp_ge hK 20 dJ7_fill_53178_7 (by decide) (fun q => absurd q (by decide)) (fun _ => ?_)
  refine ry_aload_n hK 2 rfl dJ7_fill_53178_10 rfl ?_
  refine ry_iload_n hK 0 rfl dJ7_fill_53178_11 rfl ?_
  refine ry_iload_n hK 3 rfl dJ7_fill_53178_12 rfl ?_
  refine ry_iast hK sh_40 (by decide) (by decide) dJ7_fill_53178_13 ?_
  refine ry_iinc (v := 21) (L' := [(2, .int 21), (3, .int (nI 40)), (0, .ref (ro_ad (kG K) 40)), (1, .int 255)]) hK 0 rfl dJ7_fill_53178_14 (by decide) (by decide) rfl ?_
  refine ry_goto hK 5 dJ7_fill_53178_17 (by decide) ?_
  refine ry_iload_n hK 0 rfl dJ7_fill_53178_5 rfl ?_
  refine ry_iload_n hK 1 rfl dJ7_fill_53178_6 rfl ?_
  refine ry_icmp_ge hK 20 dJ7_fill_53178_7 (by decide) (fun q => absurd q (by decide)) (fun _ => ?_)
  refine ry_aload_n hK 2 rfl dJ7_fill_53178_10 rfl ?_
  refine ry_iload_n hK 0 rfl dJ7_fill_53178_11 rfl ?_
  refine ry_iload_n hK 3 rfl dJ7_fill_53178_12 rfl ?_
  refine ry_iast hK sh_40 (by decide) (by decide) dJ7_fill_53178_13 ?_
  refine ry_iinc (v := 22) (L' := [(2, .int 22), (3, .int (nI 40)), (0, .ref (ro_ad (kG K) 40)), (1, .int 255)]) hK 0 rfl dJ7_fill_53178_14 (by decide) (by decide) rfl ?_
  refine ry_goto hK 5 dJ7_fill_53178_17 (by decide) ?_
  refine ry_iload_n hK 0 rfl dJ7_fill_53178_5 rfl ?_
  refine ry_iload_n hK 1 rfl dJ7_fill_53178_6 rfl ?_
  refine ry_icmp_ge hK 20 dJ7_fill_53178_7 (by decide) (fun q => absurd q (by decide)) (fun _ => ?_)
  refine ry_aload_n hK 2 rfl dJ7_fill_53178_10 rfl ?_
  refine ry_iload_n hK 0 rfl dJ7_fill_53178_11 rfl ?_
  refine ry_iload_n hK 3 rfl dJ7_fill_53178_12 rfl ?_
  refine ry_iast hK sh_40 (by decide) (by decide) dJ7_fill_53178_13 ?_
  refine ry_iinc (v := 23) (L' := [(2, .int 23), (3, .int (nI 40)), (0, .ref (ro_ad (kG K) 40)), (1, .int 255)]) hK 0 rfl dJ7_fill_53178_14 (by decide) (by decide) rfl ?_
  refine ry_goto hK 5 dJ7_fill_53178_17 (by decide) ?_
  refine ry_iload_n hK 0 rfl dJ7_fill_53178_5 rfl ?_
  refine ry_iload_n hK 1 rfl dJ7_fill_53178_6 rfl ?_
  refine ry_icmp_ge hK 20 dJ7_fill_53178_7 (by decide) (fun q => absurd q (by decide)) (fun _ => ?_)
  refine ry_aload_n hK 2 rfl dJ7_fill_53178_10 rfl ?_
  refine ry_iload_n hK 0 rfl dJ7_fill_53178_11 rfl ?_
  refine ry_iload_n hK 3 rfl dJ7_fill_53178_12 rfl ?_
  refine ry_iast hK sh_40 (by decide) (by decide) dJ7_fill_53178_13 ?_
  refine ry_iinc (v := 24) (L' := [(2, .int 24), (3, .int (nI 40)), (0, .ref (ro_ad (kG K) 40)), (1, .int 255)]) hK 0 rfl dJ7_fill_53178_14 (by decide) (by decide) rfl ?_
  refine ry_goto hK 5 dJ7_fill_53178_17 (by decide) ?_
  refine ry_iload_n hK 0 rfl dJ7_fill_53178_5 rfl ?_
  refine ry_iload_n hK 1 rfl dJ7_fill_53178_6 rfl ?_
  refine ry_icmp_ge hK 20 dJ7_fill_53178_7 (by decide) (fun q => absurd q (by decide)) (fun _ => ?_)
  refine ry_aload_n hK 2 rfl dJ7_fill_53178_10 rfl ?_
  refine ry_iload_n hK 0 rfl dJ7_fill_53178_11 rfl ?_
  refine ry_iload_n hK 3 rfl dJ7_fill_53178_12 rfl ?_
  refine ry_iast hK sh_40 (by decide) (by decide) dJ7_fill_53178_13 ?_
  refine ry_iinc (v := 25) (L' := [(2, .int 25), (3, .int (nI 40)), (0, .ref (ro_ad (kG K) 40)), (1, .int 255)]) hK 0 rfl dJ7_fill_53178_14 (by decide) (by decide) rfl ?_
  refine ry_goto hK 5 dJ7_fill_53178_17 (by decide) ?_
  refine ry_iload_n hK 0 rfl dJ7_fill_53178_5 rfl ?_
  refine ry_iload_n hK 1 rfl dJ7_fill_53178_6 rfl ?_
  refine ry_icmp_ge hK 20 dJ7_fill_53178_7 (by decide) (fun q => absurd q (by decide)) (fun _ => ?_)
  refine ry_aload_n hK 2 rfl dJ7_fill_53178_10 rfl ?_
  refine ry_iload_n hK 0 rfl dJ7_fill_53178_11 rfl ?_
  refine ry_iload_n hK 3 rfl dJ7_fill_53178_12 rfl ?_
  refine ry_iast hK sh_40 (by decide) (by decide) dJ7_fill_53178_13 ?_
  refine ry_iinc (v := 26) (L' := [(2, .int 26), (3, .int (nI 40)), (0, .ref (ro_ad (kG K) 40)), (1, .int 255)]) hK 0 rfl dJ7_fill_53178_14 (by decide) (by decide) rfl ?_
  refine ry_goto hK 5 dJ7_fill_53178_17 (by decide) ?_
  refine ry_iload_n hK 0 rfl dJ7_fill_53178_5 rfl ?_
  refine ry_iload_n hK 1 rfl dJ7_fill_53178_6 rfl ?_
  refine ry_icmp_ge hK 20 dJ7_fill_53178_7 (by decide) (fun q => absurd q (by decide)) (fun _ => ?_)
  refine ry_aload_n hK 2 rfl dJ7_fill_53178_10 rfl ?_
  refine ry_iload_n hK 0 rfl dJ7_fill_53178_11 rfl ?_
  refine ry_iload_n hK 3 rfl dJ7_fill_53178_12 rfl ?_
  refine ry_iast hK sh_40 (by decide) (by decide) dJ7_fill_53178_13 ?_
  refine ry_iinc (v := 27) (L' := [(2, .int 27), (3, .int (nI 40)), (0, .ref (ro_ad (kG K) 40)), (1, .int 255)]) hK 0 rfl dJ7_fill_53178_14 (by decide) (by decide) rfl ?_
  refine ry_goto hK 5 dJ7_fill_53178_17 (by decide) ?_
  refine ry_iload_n hK 0 rfl dJ7_fill_53178_5 rfl ?_
  refine ry_iload_n hK 1 rfl dJ7_fill_53178_6 rfl ?_
  refine ry_icmp_ge hK 20 dJ7_fill_53178_7 (by decide) (fun q => absurd q (by decide)) (fun _ => ?_)
  refine ry_aload_n hK 2 rfl dJ7_fill_53178_10 rfl ?_
  refine ry_iload_n hK 0 rfl dJ7_fill_53178_11 rfl ?_
  refine ry_iload_n hK 3 rfl dJ7_fill_53178_12 rfl ?_
  refine ry_iast hK sh_40 (by decide) (by decide) dJ7_fill_53178_13 ?_
  refine ry_iinc (v := 28) (L' := [(2, .int 28), (3, .int (nI 40)), (0, .ref (ro_ad (kG K) 40)), (1, .int 255)]) hK 0 rfl dJ7_fill_53178_14 (by decide) (by decide) rfl ?_
  refine ry_goto hK 5 dJ7_fill_53178_17 (by decide) ?_
  refine ry_iload_n hK 0 rfl dJ7_fill_53178_5 rfl ?_
  refine ry_iload_n hK 1 rfl dJ7_fill_53178_6 rfl ?_
  refine ry_icmp_ge hK 20 dJ7_fill_53178_7 (by decide) (fun q => absurd q (by decide)) (fun _ => ?_)
  refine ry_aload_n hK 2 rfl dJ7_fill_53178_10 rfl ?_
  refine ry_iload_n hK 0 rfl dJ7_fill_53178_11 rfl ?_
  refine ry_iload_n hK 3 rfl dJ7_fill_53178_12 rfl ?_
  refine ry_iast hK sh_40 (by decide) (by decide) dJ7_fill_53178_13 ?_
  refine ry_iinc (v := 29) (L' := [(2, .int 29), (3, .int (nI 40)), (0, .ref (ro_ad (kG K) 40)), (1, .int 255)]) hK 0 rfl dJ7_fill_53178_14 (by decide) (by decide) rfl ?_
  refine ry_goto hK 5 dJ7_fill_53178_17 (by decide) ?_
  refine ry_iload_n hK 0 rfl dJ7_fill_53178_5 rfl ?_
  refine ry_iload_n hK 1 rfl dJ7_fill_53178_6 rfl ?_
  refine ry_icmp_ge hK 20 dJ7_fill_53178_7 (by decide) (fun q => absurd q (by decide)) (fun _ => ?_)
  refine ry_aload_n hK 2 rfl dJ7_fill_53178_10 rfl ?_
  refine ry_iload_n hK 0 rfl dJ7_fill_53178_11 rfl ?_
  refine ry_iload_n hK 3 rfl dJ7_fill_53178_12 rfl ?_
  refine ry_iast hK sh_40 (by decide) (by decide) dJ7_fill_53178_13 ?_
  refine ry_iinc (v := 30) (L' := [(2, .int 30), (3, .int (nI 40)), (0, .ref (ro_ad (kG K) 40)), (1, .int 255)]) hK 0 rfl dJ7_fill_53178_14 (by decide) (by decide) rfl ?_
  refine ry_goto hK 5 dJ7_fill_53178_17 (by decide) ?_
  refine ry_iload_n hK 0 rfl dJ7_fill_53178_5 rfl ?_
  refine ry_iload_n hK 1 rfl dJ7_fill_53178_6 rfl ?_
  refine ry_icmp_ge hK 20 dJ7_fill_53178_7 (by decide) (fun q => absurd q (by decide)) (fun _ => ?_)
  refine ry_aload_n hK 2 rfl dJ7_fill_53178_10 rfl ?_
  refine ry_iload_n hK 0 rfl dJ7_fill_53178_11 rfl ?_
  refine ry_iload_n hK 3 rfl dJ7_fill_53178_12 rfl ?_
  refine ry_iast hK sh_40 (by decide) (by decide) dJ7_fill_53178_13 ?_
  refine ry_iinc (v := 31) (L' := [(2, .int 31), (3, .int (nI 40)), (0, .ref (ro_ad (kG K) 40)), (1, .int 255)]) hK 0 rfl dJ7_fill_53178_14 (by decide) (by decide) rfl ?_
  refine ry_goto hK 5 dJ7_fill_53178_17 (by decide) ?_
  refine ry_iload_n hK 0 rfl dJ7_fill_53178_5 rfl ?_
  refine ry_iload_n hK 1 rfl dJ7_fill_53178_6 rfl ?_
  refine ry_icmp_ge hK 20 dJ7_fill_53178_7 (by decide) (fun q => absurd q (by decide)) (fun _ => ?_)
  refine ry_aload_n hK 2 rfl dJ7_fill_53178_10 rfl ?_
  refine ry_iload_n hK 0 rfl dJ7_fill_53178_11 rfl ?_
  refine ry_iload_n hK 3 rfl dJ7_fill_53178_12 rfl ?_
  refine ry_iast hK sh_40 (by decide) (by decide) dJ7_fill_53178_13 ?_
  refine ry_iinc (v := 32) (L' := [(2, .int 32), (3, .int (nI 40)), (0, .ref (ro_ad (kG K) 40)), (1, .int 255)]) hK 0 rfl dJ7_fill_53178_14 (by decide) (by decide) rfl ?_
  refine ry_goto hK 5 dJ7_fill_53178_17 (by decide) ?_
  refine ry_iload_n hK 0 rfl dJ7_fill_53178_5 rfl ?_
  refine ry_iload_n hK 1 rfl dJ7_fill_53178_6 rfl ?_
  refine ry_icmp_ge hK 20 dJ7_fill_53178_7 (by decide) (fun q => absurd q (by decide)) (fun _ => ?_)
  refine ry_aload_n hK 2 rfl dJ7_fill_53178_10 rfl ?_
  refine ry_iload_n hK 0 rfl dJ7_fill_53178_11 rfl ?_
  refine ry_iload_n hK 3 rfl dJ7_fill_53178_12 rfl ?_
  refine ry_iast hK sh_40 (by decide) (by decide) dJ7_fill_53178_13 ?_
  refine ry_iinc (v := 33) (L' := [(2, .int 33), (3, .int (nI 40)), (0, .ref (ro_ad (kG K) 40)), (1, .int 255)]) hK 0 rfl dJ7_fill_53178_14 (by decide) (by decide) rfl ?_
  refine ry_goto hK 5 dJ7_fill_53178_17 (by decide) ?_
  refine ry_iload_n hK 0 rfl dJ7_fill_53178_5 rfl ?_
  refine ry_iload_n hK 1 rfl dJ7_fill_53178_6 rfl ?_
  refine ry_icmp_ge hK 20 dJ7_fill_53178_7 (by decide) (fun q => absurd q (by decide)) (fun _ => ?_)
  refine ry_aload_n hK 2 rfl dJ7_fill_53178_10 rfl ?_
  refine ry_iload_n hK 0 rfl dJ7_fill_53178_11 rfl ?_
  refine ry_iload_n hK 3 rfl dJ7_fill_53178_12 rfl ?_
  refine ry_iast hK sh_40 (by decide) (by decide) dJ7_fill_53178_13 ?_
  refine ry_iinc (v := 34) (L' := [(2, .int 34), (3, .int (nI 40)), (0, .ref (ro_ad (kG K) 40)), (1, .int 255)]) hK 0 rfl dJ7_fill_53178_14 (by decide) (by decide) rfl ?_
  refine ry_goto hK 5 dJ7_fill_53178_17 (by decide) ?_
  refine ry_iload_n hK 0 rfl dJ7_fill_53178_5 rfl ?_
  refine ry_iload_n hK 1 rfl dJ7_fill_53178_6 rfl ?_
  refine ry_icmp_ge hK 20 dJ7_fill_53178_7 (by decide) (fun q => absurd q (by decide)) (fun _ => ?_)
  refine ry_aload_n hK 2 rfl dJ7_fill_53178_10 rfl ?_
  refine ry_iload_n hK 0 rfl dJ7_fill_53178_11 rfl ?_
  refine ry_iload_n hK 3 rfl dJ7_fill_53178_12 rfl ?_
  refine ry_iast hK sh_40 (by decide) (by decide) dJ7_fill_53178_13 ?_
  refine ry_iinc (v := 35) (L' := [(2, .int 35), (3, .int (nI 40)), (0, .ref (ro_ad (kG K) 40)), (1, .int 255)]) hK 0 rfl dJ7_fill_53178_14 (by decide) (by decide) rfl ?_
  refine ry_goto hK 5 dJ7_fill_53178_17 (by decide) ?_
  refine ry_iload_n hK 0 rfl dJ7_fill_53178_5 rfl ?_
  refine ry_iload_n hK 1 rfl dJ7_fill_53178_6 rfl ?_
  refine ry_icmp_ge hK 20 dJ7_fill_53178_7 (by decide) (fun q => absurd q (by decide)) (fun _ => ?_)
  refine ry_aload_n hK 2 rfl dJ7_fill_53178_10 rfl ?_
  refine ry_iload_n hK 0 rfl dJ7_fill_53178_11 rfl ?_
  refine ry_iload_n hK 3 rfl dJ7_fill_53178_12 rfl ?_
  refine ry_iast hK sh_40 (by decide) (by decide) dJ7_fill_53178_13 ?_
  refine ry_iinc (v := 36) (L' := [(2, .int 36), (3, .int (nI 40)), (0, .ref (ro_ad (kG K) 40)), (1, .int 255)]) hK 0 rfl dJ7_fill_53178_14 (by decide) (by decide) rfl ?_
  refine ry_goto hK 5 dJ7_fill_53178_17 (by decide) ?_
  refine ry_iload_n hK 0 rfl dJ7_fill_53178_5 rfl ?_
  refine ry_iload_n hK 1 rfl dJ7_fill_53178_6 rfl ?_
  refine ry_icmp_ge hK 20 dJ7_fill_53178_7 (by decide) (fun q => absurd q (by decide)) (fun _ => ?_)
  refine ry_aload_n hK 2 rfl dJ7_fill_53178_10 rfl ?_
  refine ry_iload_n hK 0 rfl dJ7_fill_53178_11 rfl ?_
  refine ry_iload_n hK 3 rfl dJ7_fill_53178_12 rfl ?_
  refine ry_iast hK sh_40 (by decide) (by decide) dJ7_fill_53178_13 ?_
  refine ry_iinc (v := 37) (L' := [(2, .int 37), (3, .int (nI 40)), (0, .ref (ro_ad (kG K) 40)), (1, .int 255)]) hK 0 rfl dJ7_fill_53178_14 (by decide) (by decide) rfl ?_
  refine ry_goto hK 5 dJ7_fill_53178_17 (by decide) ?_
  refine ry_iload_n hK 0 rfl dJ7_fill_53178_5 rfl ?_
  refine ry_iload_n hK 1 rfl dJ7_fill_53178_6 rfl ?_
  refine ry_icmp_ge hK 20 dJ7_fill_53178_7 (by decide) (fun q => absurd q (by decide)) (fun _ => ?_)
  refine ry_aload_n hK 2 rfl dJ7_fill_53178_10 rfl ?_
  refine ry_iload_n hK 0 rfl dJ7_fill_53178_11 rfl ?_
  refine ry_iload_n hK 3 rfl dJ7_fill_53178_12 rfl ?_
  refine ry_iast hK sh_40 (by decide) (by decide) dJ7_fill_53178_13 ?_
  refine ry_iinc (v := 38) (L' := [(2, .int 38), (3, .int (nI 40)), (0, .ref (ro_ad (kG K) 40)), (1, .int 255)]) hK 0 rfl dJ7_fill_53178_14 (by decide) (by decide) rfl ?_
  refine ry_goto hK 5 dJ7_fill_53178_17 (by decide) ?_
  refine ry_iload_n hK 0 rfl dJ7_fill_53178_5 rfl ?_
  refine ry_iload_n hK 1 rfl dJ7_fill_53178_6 rfl ?_
  refine ry_icmp_ge hK 20 dJ7_fill_53178_7 (by decide) (fun q => absurd q (by decide)) (fun _ => ?_)
  refine ry_aload_n hK 2 rfl dJ7_fill_53178_10 rfl ?_
  refine ry_iload_n hK 0 rfl dJ7_fill_53178_11 rfl ?_
  refine ry_iload_n hK 3 rfl dJ7_fill_53178_12 rfl ?_
  refine ry_iast hK sh_40 (by decide) (by decide) dJ7_fill_53178_13 ?_
  refine ry_iinc (v := 39) (L' := [(2, .int 39), (3, .int (nI 40)), (0, .ref (ro_ad (kG K) 40)), (1, .int 255)]) hK 0 rfl dJ7_fill_53178_14 (by decide) (by decide) rfl ?_
  refine ry_goto hK 5 dJ7_fill_53178_17 (by decide) ?_
  refine ry_iload_n hK 0 rfl dJ7_fill_53178_5 rfl ?_
  refine ry_iload_n hK 1 rfl dJ7_fill_53178_6 rfl ?_
  refine ry_icmp_ge hK 20 dJ7_fill_53178_7 (by decide) (fun q => absurd q (by decide)) (fun _ => ?_)
  refine ry_aload_n hK 2 rfl dJ7_fill_53178_10 rfl ?_
  refine ry_iload_n hK 0 rfl dJ7_fill_53178_11 rfl ?_
  refine ry_iload_n hK 3 rfl dJ7_fill_53178_12 rfl ?_
  refine ry_iast hK sh_40 (by decide) (by decide) dJ7_fill_53178_13 ?_
  refine ry_iinc (v := 40) (L' := [(2, .int 40), (3, .int (nI 40)), (0, .ref (ro_ad (kG K) 40)), (1, .int 255)]) hK 0 rfl dJ7_fill_53178_14 (by decide) (by decide) rfl ?_
  refine ry_goto hK 5 dJ7_fill_53178_17 (by decide) ?_
  refine ry_iload_n hK 0 rfl dJ7_fill_53178_5 rfl ?_
  refine ry_iload_n hK 1 rfl dJ7_fill_53178_6 rfl ?_
  refine ry_icmp_ge hK 20 dJ7_fill_53178_7 (by decide) (fun _ => ?_) (fun q => absurd (by decide) q)
  exact ry_ret hK hR dJ7_fill_53178_20
def cm_X1_init_31 (μ : ro_Mem) : ro_Mem := ro_set (cm_J7_fill_53178_40 (ro_set (ro_arr (ro_set (ro_arr (ro_set (ro_arr (ro_set (ro_arr (ro_set (ro_arr (ro_set (ro_arr (ro_set (ro_arr (ro_set (ro_arr (ro_set (ro_arr (ro_set (ro_arr (ro_set (ro_arr (ro_set (ro_arr (μ) 32 (fun _ => 0)) 31 0 (nI (32 + 1))) 33 (fun _ => 0)) 31 1 (nI (33 + 1))) 34 (fun _ => 0)) 31 2 (nI (34 + 1))) 35 (fun _ => 0)) 31 3 (nI (35 + 1))) 36 (fun _ => 0)) 31 4 (nI (36 + 1))) 37 (fun _ => 0)) 31 5 (nI (37 + 1))) 38 (fun _ => 0)) 31 8 (nI (38 + 1))) 39 (fun _ => 0)) 31 9 (nI (39 + 1))) 40 (fun _ => 0)) 31 10 (nI (40 + 1))) 41 (fun _ => 0)) 31 14 (nI (41 + 1))) 42 (fun _ => 0)) 31 15 (nI (42 + 1))) 43 (fun _ => 0)) 31 16 (nI (43 + 1)))) 31 17 1
set_option maxRecDepth 100000 in
theorem cy_X1_init_31 (l : Launch) (G : ro_G) (μ : ro_Mem) : ry_MY l G yX1_init cX1_init 1 1 12 448 [.ref (ro_ad G 31)] 32 μ 44 (cm_X1_init_31 μ) := by
  refine ry_MY.of (by decide +kernel) (Nat.le_of_ble_eq_true rfl) (fun K hG hl hK hR hin => ?_)
  subst hG
  subst hl
  unfold cm_X1_init_31 at hR
  refine ry_aload_n hK 0 rfl dX1_init_0 rfl ?_
  refine ry_obj hK ob_X1_3 ko_in ko_cd (Nat.le_of_ble_eq_true rfl) dX1_init_1 ?_
  refine ry_aload_n hK 0 rfl dX1_init_4 rfl ?_
  refine ry_bipush (v := 96) hK dX1_init_5 (by decide) ?_
  refine ry_newa (at0 := .boolean) hK sh_32 ka_boolean (Or.inr (Or.inl ⟨rfl, rfl⟩)) (by decide) (by decide) (by decide) (by decide) (by decide) dX1_init_7 ?_
  refine ry_put (x := nI (32 + 1)) hK hin fl_X1_9 (fun q h => by cases h; rfl) sh_31 (by decide) (ry_fvr ⟨_, rfl⟩ (by decide)) rfl rfl dX1_init_9 ?_
  refine ry_aload_n hK 0 rfl dX1_init_12 rfl ?_
  refine ry_bipush (v := 96) hK dX1_init_13 (by decide) ?_
  refine ry_newa (at0 := .int) hK sh_33 ka_int (Or.inl ⟨rfl, rfl⟩) (by decide) (by decide) (by decide) (by decide) (by decide) dX1_init_15 ?_
  refine ry_put (x := nI (33 + 1)) hK hin fl_X1_15 (fun q h => by cases h; rfl) sh_31 (by decide) (ry_fvr ⟨_, rfl⟩ (by decide)) rfl rfl dX1_init_17 ?_
  refine ry_aload_n hK 0 rfl dX1_init_20 rfl ?_
  refine ry_bipush (v := 96) hK dX1_init_21 (by decide) ?_
  refine ry_newa (at0 := .int) hK sh_34 ka_int (Or.inl ⟨rfl, rfl⟩) (by decide) (by decide) (by decide) (by decide) (by decide) dX1_init_23 ?_
  refine ry_put (x := nI (34 + 1)) hK hin fl_X1_19 (fun q h => by cases h; rfl) sh_31 (by decide) (ry_fvr ⟨_, rfl⟩ (by decide)) rfl rfl dX1_init_25 ?_
  refine ry_aload_n hK 0 rfl dX1_init_28 rfl ?_
  refine ry_bipush (v := 16) hK dX1_init_29 (by decide) ?_
  refine ry_newa (at0 := .int) hK sh_35 ka_int (Or.inl ⟨rfl, rfl⟩) (by decide) (by decide) (by decide) (by decide) (by decide) dX1_init_31 ?_
  refine ry_put (x := nI (35 + 1)) hK hin fl_X1_22 (fun q h => by cases h; rfl) sh_31 (by decide) (ry_fvr ⟨_, rfl⟩ (by decide)) rfl rfl dX1_init_33 ?_
  refine ry_aload_n hK 0 rfl dX1_init_36 rfl ?_
  refine ry_bipush (v := 16) hK dX1_init_37 (by decide) ?_
  refine ry_newa (at0 := .int) hK sh_36 ka_int (Or.inl ⟨rfl, rfl⟩) (by decide) (by decide) (by decide) (by decide) (by decide) dX1_init_39 ?_
  refine ry_put (x := nI (36 + 1)) hK hin fl_X1_25 (fun q h => by cases h; rfl) sh_31 (by decide) (ry_fvr ⟨_, rfl⟩ (by decide)) rfl rfl dX1_init_41 ?_
  refine ry_aload_n hK 0 rfl dX1_init_44 rfl ?_
  refine ry_bipush (v := 16) hK dX1_init_45 (by decide) ?_
  refine ry_newa (at0 := .int) hK sh_37 ka_int (Or.inl ⟨rfl, rfl⟩) (by decide) (by decide) (by decide) (by decide) (by decide) dX1_init_47 ?_
  refine ry_put (x := nI (37 + 1)) hK hin fl_X1_28 (fun q h => by cases h; rfl) sh_31 (by decide) (ry_fvr ⟨_, rfl⟩ (by decide)) rfl rfl dX1_init_49 ?_
  refine ry_aload_n hK 0 rfl dX1_init_52 rfl ?_
  refine ry_iconst (v := 4) hK dX1_init_53 (by decide) ?_
  refine ry_newa (at0 := .int) hK sh_38 ka_int (Or.inl ⟨rfl, rfl⟩) (by decide) (by decide) (by decide) (by decide) (by decide) dX1_init_54 ?_
  refine ry_put (x := nI (38 + 1)) hK hin fl_X1_31 (fun q h => by cases h; rfl) sh_31 (by decide) (ry_fvr ⟨_, rfl⟩ (by decide)) rfl rfl dX1_init_56 ?_
  refine ry_aload_n hK 0 rfl dX1_init_59 rfl ?_
  refine ry_bipush (v := 10) hK dX1_init_60 (by decide) ?_
  refine ry_newa (at0 := .int) hK sh_39 ka_int (Or.inl ⟨rfl, rfl⟩) (by decide) (by decide) (by decide) (by decide) (by decide) dX1_init_62 ?_
  refine ry_put (x := nI (39 + 1)) hK hin fl_X1_34 (fun q h => by cases h; rfl) sh_31 (by decide) (ry_fvr ⟨_, rfl⟩ (by decide)) rfl rfl dX1_init_64 ?_
  refine ry_aload_n hK 0 rfl dX1_init_67 rfl ?_
  refine ry_bipush (v := 40) hK dX1_init_68 (by decide) ?_
  refine ry_newa (at0 := .int) hK sh_40 ka_int (Or.inl ⟨rfl, rfl⟩) (by decide) (by decide) (by decide) (by decide) (by decide) dX1_init_70 ?_
  refine ry_put (x := nI (40 + 1)) hK hin fl_X1_37 (fun q h => by cases h; rfl) sh_31 (by decide) (ry_fvr ⟨_, rfl⟩ (by decide)) rfl rfl dX1_init_72 ?_
  refine ry_aload_n hK 0 rfl dX1_init_75 rfl ?_
  refine ry_bipush (v := 10) hK dX1_init_76 (by decide) ?_
  refine ry_newa (at0 := .int) hK sh_41 ka_int (Or.inl ⟨rfl, rfl⟩) (by decide) (by decide) (by decide) (by decide) (by decide) dX1_init_78 ?_
  refine ry_put (x := nI (41 + 1)) hK hin fl_X1_40 (fun q h => by cases h; rfl) sh_31 (by decide) (ry_fvr ⟨_, rfl⟩ (by decide)) rfl rfl dX1_init_80 ?_
  refine ry_aload_n hK 0 rfl dX1_init_83 rfl ?_
  refine ry_bipush (v := 16) hK dX1_init_84 (by decide) ?_
  refine ry_newa (at0 := .int) hK sh_42 ka_int (Or.inl ⟨rfl, rfl⟩) (by decide) (by decide) (by decide) (by decide) (by decide) dX1_init_86 ?_
  refine ry_put (x := nI (42 + 1)) hK hin fl_X1_43 (fun q h => by cases h; rfl) sh_31 (by decide) (ry_fvr ⟨_, rfl⟩ (by decide)) rfl rfl dX1_init_88 ?_
  refine ry_aload_n hK 0 rfl dX1_init_91 rfl ?_
  refine ry_bipush (v := 32) hK dX1_init_92 (by decide) ?_
  refine ry_newa (at0 := .int) hK sh_43 ka_int (Or.inl ⟨rfl, rfl⟩) (by decide) (by decide) (by decide) (by decide) (by decide) dX1_init_94 ?_
  refine ry_put (x := nI (43 + 1)) hK hin fl_X1_46 (fun q h => by cases h; rfl) sh_31 (by decide) (ry_fvr ⟨_, rfl⟩ (by decide)) rfl rfl dX1_init_96 ?_
  refine ry_aload_n hK 0 rfl dX1_init_99 rfl ?_
  refine ry_get hK fl_X1_37 sh_31 (by decide) (ry_fvg (r := 40) ⟨_, rfl⟩ rfl (by decide)) dX1_init_100 ?_
  refine ry_sipush (v := 255) hK dX1_init_103 (by decide) ?_
  refine ry_calls hK [.ref (ro_ad (kG K) 40), .int 255] ml_X1_49 st_J7_fill_53178 mw_J7_fill_53178 (cy_J7_fill_53178_40 (kl K) (kG K) _) (by decide) rfl rfl (Nat.le_of_ble_eq_true rfl) (by decide) (by decide) dX1_init_106 ?_
  refine ry_aload_n hK 0 rfl dX1_init_109 rfl ?_
  refine ry_iconst (v := 1) hK dX1_init_110 (by decide) ?_
  refine ry_put (x := 1) hK hin fl_X1_55 (fun q h => by cases h; rfl) sh_31 (by decide) (ry_fvi rfl) rfl rfl dX1_init_111 ?_
  exact ry_ret hK hR dX1_init_114
def cm_X5_init_44 (μ : ro_Mem) : ro_Mem := ro_set (ro_arr (ro_set (ro_arr (ro_set (ro_arr (ro_set (ro_arr (ro_set (ro_arr (μ) 45 (fun _ => 0)) 44 0 (nI (45 + 1))) 46 (fun _ => 0)) 44 1 (nI (46 + 1))) 47 (fun _ => 0)) 44 2 (nI (47 + 1))) 48 (fun _ => 0)) 44 3 (nI (48 + 1))) 49 (fun _ => 0)) 44 4 (nI (49 + 1))
set_option maxRecDepth 100000 in
theorem cy_X5_init_44 (l : Launch) (G : ro_G) (μ : ro_Mem) : ry_MY l G yX5_init cX5_init 1 0 5 160 [.ref (ro_ad G 44)] 45 μ 50 (cm_X5_init_44 μ) := by
  refine ry_MY.of (by decide +kernel) (Nat.le_of_ble_eq_true rfl) (fun K hG hl hK hR hin => ?_)
  subst hG
  subst hl
  unfold cm_X5_init_44 at hR
  refine ry_aload_n hK 0 rfl dX5_init_0 rfl ?_
  refine ry_obj hK ob_X5_3 ko_in ko_cd (Nat.le_of_ble_eq_true rfl) dX5_init_1 ?_
  refine ry_aload_n hK 0 rfl dX5_init_4 rfl ?_
  refine ry_bipush (v := 32) hK dX5_init_5 (by decide) ?_
  refine ry_newa (at0 := .int) hK sh_45 ka_int (Or.inl ⟨rfl, rfl⟩) (by decide) (by decide) (by decide) (by decide) (by decide) dX5_init_7 ?_
  refine ry_put (x := nI (45 + 1)) hK hin fl_X5_9 (fun q h => by cases h; rfl) sh_44 (by decide) (ry_fvr ⟨_, rfl⟩ (by decide)) rfl rfl dX5_init_9 ?_
  refine ry_aload_n hK 0 rfl dX5_init_12 rfl ?_
  refine ry_bipush (v := 32) hK dX5_init_13 (by decide) ?_
  refine ry_newa (at0 := .int) hK sh_46 ka_int (Or.inl ⟨rfl, rfl⟩) (by decide) (by decide) (by decide) (by decide) (by decide) dX5_init_15 ?_
  refine ry_put (x := nI (46 + 1)) hK hin fl_X5_15 (fun q h => by cases h; rfl) sh_44 (by decide) (ry_fvr ⟨_, rfl⟩ (by decide)) rfl rfl dX5_init_17 ?_
  refine ry_aload_n hK 0 rfl dX5_init_20 rfl ?_
  refine ry_bipush (v := 32) hK dX5_init_21 (by decide) ?_
  refine ry_newa (at0 := .int) hK sh_47 ka_int (Or.inl ⟨rfl, rfl⟩) (by decide) (by decide) (by decide) (by decide) (by decide) dX5_init_23 ?_
  refine ry_put (x := nI (47 + 1)) hK hin fl_X5_18 (fun q h => by cases h; rfl) sh_44 (by decide) (ry_fvr ⟨_, rfl⟩ (by decide)) rfl rfl dX5_init_25 ?_
  refine ry_aload_n hK 0 rfl dX5_init_28 rfl ?_
  refine ry_bipush (v := 32) hK dX5_init_29 (by decide) ?_
  refine ry_newa (at0 := .int) hK sh_48 ka_int (Or.inl ⟨rfl, rfl⟩) (by decide) (by decide) (by decide) (by decide) (by decide) dX5_init_31 ?_
  refine ry_put (x := nI (48 + 1)) hK hin fl_X5_21 (fun q h => by cases h; rfl) sh_44 (by decide) (ry_fvr ⟨_, rfl⟩ (by decide)) rfl rfl dX5_init_33 ?_
  refine ry_aload_n hK 0 rfl dX5_init_36 rfl ?_
  refine ry_bipush (v := 32) hK dX5_init_37 (by decide) ?_
  refine ry_newa (at0 := .int) hK sh_49 ka_int (Or.inl ⟨rfl, rfl⟩) (by decide) (by decide) (by decide) (by decide) (by decide) dX5_init_39 ?_
  refine ry_put (x := nI (49 + 1)) hK hin fl_X5_24 (fun q h => by cases h; rfl) sh_44 (by decide) (ry_fvr ⟨_, rfl⟩ (by decide)) rfl rfl dX5_init_41 ?_
  exact ry_ret hK hR dX5_init_44
def cm_X2_init_51 (μ : ro_Mem) : ro_Mem := ro_set (ro_arr (ro_set (ro_arr (ro_set (ro_arr (ro_set (ro_arr (ro_set (ro_arr (ro_set (ro_arr (ro_set (ro_arr (ro_set (ro_arr (μ) 52 (fun _ => 0)) 51 0 (nI (52 + 1))) 53 (fun _ => 0)) 51 1 (nI (53 + 1))) 54 (fun _ => 0)) 51 4 (nI (54 + 1))) 55 (fun _ => 0)) 51 5 (nI (55 + 1))) 56 (fun _ => 0)) 51 6 (nI (56 + 1))) 57 (fun _ => 0)) 51 7 (nI (57 + 1))) 58 (fun _ => 0)) 51 8 (nI (58 + 1))) 59 (fun _ => 0)) 51 9 (nI (59 + 1))
set_option maxRecDepth 100000 in
theorem cy_X2_init_51 (l : Launch) (G : ro_G) (μ : ro_Mem) : ry_MY l G yX2_init cX2_init 1 0 8 500 [.ref (ro_ad G 51)] 52 μ 60 (cm_X2_init_51 μ) := by
  refine ry_MY.of (by decide +kernel) (Nat.le_of_ble_eq_true rfl) (fun K hG hl hK hR hin => ?_)
  subst hG
  subst hl
  unfold cm_X2_init_51 at hR
  refine ry_aload_n hK 0 rfl dX2_init_0 rfl ?_
  refine ry_obj hK ob_X2_3 ko_in ko_cd (Nat.le_of_ble_eq_true rfl) dX2_init_1 ?_
  refine ry_aload_n hK 0 rfl dX2_init_4 rfl ?_
  refine ry_sipush (v := 200) hK dX2_init_5 (by decide) ?_
  refine ry_newa (at0 := .int) hK sh_52 ka_int (Or.inl ⟨rfl, rfl⟩) (by decide) (by decide) (by decide) (by decide) (by decide) dX2_init_8 ?_
  refine ry_put (x := nI (52 + 1)) hK hin fl_X2_11 (fun q h => by cases h; rfl) sh_51 (by decide) (ry_fvr ⟨_, rfl⟩ (by decide)) rfl rfl dX2_init_10 ?_
  refine ry_aload_n hK 0 rfl dX2_init_13 rfl ?_
  refine ry_sipush (v := 200) hK dX2_init_14 (by decide) ?_
  refine ry_newa (at0 := .int) hK sh_53 ka_int (Or.inl ⟨rfl, rfl⟩) (by decide) (by decide) (by decide) (by decide) (by decide) dX2_init_17 ?_
  refine ry_put (x := nI (53 + 1)) hK hin fl_X2_15 (fun q h => by cases h; rfl) sh_51 (by decide) (ry_fvr ⟨_, rfl⟩ (by decide)) rfl rfl dX2_init_19 ?_
  refine ry_aload_n hK 0 rfl dX2_init_22 rfl ?_
  refine ry_bipush (v := 14) hK dX2_init_23 (by decide) ?_
  refine ry_newa (at0 := .int) hK sh_54 ka_int (Or.inl ⟨rfl, rfl⟩) (by decide) (by decide) (by decide) (by decide) (by decide) dX2_init_25 ?_
  refine ry_put (x := nI (54 + 1)) hK hin fl_X2_18 (fun q h => by cases h; rfl) sh_51 (by decide) (ry_fvr ⟨_, rfl⟩ (by decide)) rfl rfl dX2_init_27 ?_
  refine ry_aload_n hK 0 rfl dX2_init_30 rfl ?_
  refine ry_bipush (v := 14) hK dX2_init_31 (by decide) ?_
  refine ry_newa (at0 := .int) hK sh_55 ka_int (Or.inl ⟨rfl, rfl⟩) (by decide) (by decide) (by decide) (by decide) (by decide) dX2_init_33 ?_
  refine ry_put (x := nI (55 + 1)) hK hin fl_X2_21 (fun q h => by cases h; rfl) sh_51 (by decide) (ry_fvr ⟨_, rfl⟩ (by decide)) rfl rfl dX2_init_35 ?_
  refine ry_aload_n hK 0 rfl dX2_init_38 rfl ?_
  refine ry_bipush (v := 14) hK dX2_init_39 (by decide) ?_
  refine ry_newa (at0 := .int) hK sh_56 ka_int (Or.inl ⟨rfl, rfl⟩) (by decide) (by decide) (by decide) (by decide) (by decide) dX2_init_41 ?_
  refine ry_put (x := nI (56 + 1)) hK hin fl_X2_24 (fun q h => by cases h; rfl) sh_51 (by decide) (ry_fvr ⟨_, rfl⟩ (by decide)) rfl rfl dX2_init_43 ?_
  refine ry_aload_n hK 0 rfl dX2_init_46 rfl ?_
  refine ry_bipush (v := 14) hK dX2_init_47 (by decide) ?_
  refine ry_newa (at0 := .int) hK sh_57 ka_int (Or.inl ⟨rfl, rfl⟩) (by decide) (by decide) (by decide) (by decide) (by decide) dX2_init_49 ?_
  refine ry_put (x := nI (57 + 1)) hK hin fl_X2_27 (fun q h => by cases h; rfl) sh_51 (by decide) (ry_fvr ⟨_, rfl⟩ (by decide)) rfl rfl dX2_init_51 ?_
  refine ry_aload_n hK 0 rfl dX2_init_54 rfl ?_
  refine ry_bipush (v := 12) hK dX2_init_55 (by decide) ?_
  refine ry_newa (at0 := .int) hK sh_58 ka_int (Or.inl ⟨rfl, rfl⟩) (by decide) (by decide) (by decide) (by decide) (by decide) dX2_init_57 ?_
  refine ry_put (x := nI (58 + 1)) hK hin fl_X2_30 (fun q h => by cases h; rfl) sh_51 (by decide) (ry_fvr ⟨_, rfl⟩ (by decide)) rfl rfl dX2_init_59 ?_
  refine ry_aload_n hK 0 rfl dX2_init_62 rfl ?_
  refine ry_bipush (v := 32) hK dX2_init_63 (by decide) ?_
  refine ry_newa (at0 := .int) hK sh_59 ka_int (Or.inl ⟨rfl, rfl⟩) (by decide) (by decide) (by decide) (by decide) (by decide) dX2_init_65 ?_
  refine ry_put (x := nI (59 + 1)) hK hin fl_X2_33 (fun q h => by cases h; rfl) sh_51 (by decide) (ry_fvr ⟨_, rfl⟩ (by decide)) rfl rfl dX2_init_67 ?_
  exact ry_ret hK hR dX2_init_70
theorem dX3_init_0 : decode cX3_init 0 = .ok (.aload_n 0, 1) := by decide +kernel
theorem dX3_init_1 : decode cX3_init 1 = .ok (.invokespecial 3, 3) := by decide +kernel
theorem dX3_init_4 : decode cX3_init 4 = .ok (.aload_n 0, 1) := by decide +kernel
theorem dX3_init_5 : decode cX3_init 5 = .ok (.new 9, 3) := by decide +kernel
theorem dX3_init_8 : decode cX3_init 8 = .ok (.dup, 1) := by decide +kernel
theorem dX3_init_9 : decode cX3_init 9 = .ok (.invokespecial 11, 3) := by decide +kernel
theorem dX3_init_12 : decode cX3_init 12 = .ok (.putfield 12, 3) := by decide +kernel
theorem dX3_init_15 : decode cX3_init 15 = .ok (.return_, 1) := by decide +kernel
def cm_X3_init_50 (μ : ro_Mem) : ro_Mem := ro_set (cm_X2_init_51 (ro_arr (μ) 51 (fun _ => 0))) 50 0 (nI (51 + 1))
set_option maxRecDepth 100000 in
theorem cy_X3_init_50 (l : Launch) (G : ro_G) (μ : ro_Mem) : ry_MY l G yX3_init cX3_init 1 1 9 510 [.ref (ro_ad G 50)] 51 μ 60 (cm_X3_init_50 μ) := by
  refine ry_MY.of (by decide +kernel) (Nat.le_of_ble_eq_true rfl) (fun K hG hl hK hR hin => ?_)
  subst hG
  subst hl
  unfold cm_X3_init_50 at hR
  refine ry_aload_n hK 0 rfl dX3_init_0 rfl ?_
  refine ry_obj hK ob_X3_3 ko_in ko_cd (Nat.le_of_ble_eq_true rfl) dX3_init_1 ?_
  refine ry_aload_n hK 0 rfl dX3_init_4 rfl ?_
  refine ry_new hK tyX2 sh_51 rfl rfl inw_2 tyX2_ok df_2 cl_X3_9 is_2 it_2 (by decide) (by decide) dX3_init_5 ?_
  refine ry_dup hK dX3_init_8 rfl ?_
  refine ry_callin hK [] (by decide +kernel) im_X2_init rfl mw_X2_init (cy_X2_init_51 (kl K) (kG K) _) (by decide) rfl rfl (Nat.le_of_ble_eq_true rfl) (by decide) (by decide) dX3_init_9 ?_
  refine ry_put (x := nI (51 + 1)) hK hin fl_X3_12 (fun q h => by cases h; rfl) sh_50 (by decide) (ry_fvr ⟨_, rfl⟩ (by decide)) rfl rfl dX3_init_12 ?_
  exact ry_ret hK hR dX3_init_15
theorem dX8_init_0 : decode cX8_init 0 = .ok (.aload_n 0, 1) := by decide +kernel
theorem dX8_init_1 : decode cX8_init 1 = .ok (.invokespecial 3, 3) := by decide +kernel
theorem dX8_init_4 : decode cX8_init 4 = .ok (.aload_n 0, 1) := by decide +kernel
theorem dX8_init_5 : decode cX8_init 5 = .ok (.sipush 220, 3) := by decide +kernel
theorem dX8_init_8 : decode cX8_init 8 = .ok (.newarray .int, 2) := by decide +kernel
theorem dX8_init_10 : decode cX8_init 10 = .ok (.putfield 9, 3) := by decide +kernel
theorem dX8_init_13 : decode cX8_init 13 = .ok (.return_, 1) := by decide +kernel
def cm_X8_init_60 (μ : ro_Mem) : ro_Mem := ro_set (ro_arr (μ) 61 (fun _ => 0)) 60 0 (nI (61 + 1))
set_option maxRecDepth 100000 in
theorem cy_X8_init_60 (l : Launch) (G : ro_G) (μ : ro_Mem) : ry_MY l G yX8_init cX8_init 1 0 1 220 [.ref (ro_ad G 60)] 61 μ 62 (cm_X8_init_60 μ) := by
  refine ry_MY.of (by decide +kernel) (Nat.le_of_ble_eq_true rfl) (fun K hG hl hK hR hin => ?_)
  subst hG
  subst hl
  unfold cm_X8_init_60 at hR
  refine ry_aload_n hK 0 rfl dX8_init_0 rfl ?_
  refine ry_obj hK ob_X8_3 ko_in ko_cd (Nat.le_of_ble_eq_true rfl) dX8_init_1 ?_
  refine ry_aload_n hK 0 rfl dX8_init_4 rfl ?_
  refine ry_sipush (v := 220) hK dX8_init_5 (by decide) ?_
  refine ry_newa (at0 := .int) hK sh_61 ka_int (Or.inl ⟨rfl, rfl⟩) (by decide) (by decide) (by decide) (by decide) (by decide) dX8_init_8 ?_
  refine ry_put (x := nI (61 + 1)) hK hin fl_X8_9 (fun q h => by cases h; rfl) sh_60 (by decide) (ry_fvr ⟨_, rfl⟩ (by decide)) rfl rfl dX8_init_10 ?_
  exact ry_ret hK hR dX8_init_13
theorem dX0_init_0 : decode cX0_init 0 = .ok (.aload_n 0, 1) := by decide +kernel
theorem dX0_init_1 : decode cX0_init 1 = .ok (.invokespecial 3, 3) := by decide +kernel
theorem dX0_init_4 : decode cX0_init 4 = .ok (.aload_n 0, 1) := by decide +kernel
theorem dX0_init_5 : decode cX0_init 5 = .ok (.sipush 512, 3) := by decide +kernel
theorem dX0_init_8 : decode cX0_init 8 = .ok (.newarray .int, 2) := by decide +kernel
theorem dX0_init_10 : decode cX0_init 10 = .ok (.putfield 9, 3) := by decide +kernel
theorem dX0_init_13 : decode cX0_init 13 = .ok (.aload_n 0, 1) := by decide +kernel
theorem dX0_init_14 : decode cX0_init 14 = .ok (.sipush 512, 3) := by decide +kernel
theorem dX0_init_17 : decode cX0_init 17 = .ok (.newarray .int, 2) := by decide +kernel
theorem dX0_init_19 : decode cX0_init 19 = .ok (.putfield 15, 3) := by decide +kernel
theorem dX0_init_22 : decode cX0_init 22 = .ok (.aload_n 0, 1) := by decide +kernel
theorem dX0_init_23 : decode cX0_init 23 = .ok (.sipush 384, 3) := by decide +kernel
theorem dX0_init_26 : decode cX0_init 26 = .ok (.newarray .int, 2) := by decide +kernel
theorem dX0_init_28 : decode cX0_init 28 = .ok (.putfield 18, 3) := by decide +kernel
theorem dX0_init_31 : decode cX0_init 31 = .ok (.aload_n 0, 1) := by decide +kernel
theorem dX0_init_32 : decode cX0_init 32 = .ok (.bipush 32, 2) := by decide +kernel
theorem dX0_init_34 : decode cX0_init 34 = .ok (.newarray .int, 2) := by decide +kernel
theorem dX0_init_36 : decode cX0_init 36 = .ok (.putfield 21, 3) := by decide +kernel
theorem dX0_init_39 : decode cX0_init 39 = .ok (.aload_n 0, 1) := by decide +kernel
theorem dX0_init_40 : decode cX0_init 40 = .ok (.bipush 16, 2) := by decide +kernel
theorem dX0_init_42 : decode cX0_init 42 = .ok (.newarray .int, 2) := by decide +kernel
theorem dX0_init_44 : decode cX0_init 44 = .ok (.putfield 24, 3) := by decide +kernel
theorem dX0_init_47 : decode cX0_init 47 = .ok (.aload_n 0, 1) := by decide +kernel
theorem dX0_init_48 : decode cX0_init 48 = .ok (.bipush 96, 2) := by decide +kernel
theorem dX0_init_50 : decode cX0_init 50 = .ok (.newarray .int, 2) := by decide +kernel
theorem dX0_init_52 : decode cX0_init 52 = .ok (.putfield 27, 3) := by decide +kernel
theorem dX0_init_55 : decode cX0_init 55 = .ok (.return_, 1) := by decide +kernel
def cm_X0_init_62 (μ : ro_Mem) : ro_Mem := ro_set (ro_arr (ro_set (ro_arr (ro_set (ro_arr (ro_set (ro_arr (ro_set (ro_arr (ro_set (ro_arr (μ) 63 (fun _ => 0)) 62 0 (nI (63 + 1))) 64 (fun _ => 0)) 62 1 (nI (64 + 1))) 65 (fun _ => 0)) 62 2 (nI (65 + 1))) 66 (fun _ => 0)) 62 3 (nI (66 + 1))) 67 (fun _ => 0)) 62 4 (nI (67 + 1))) 68 (fun _ => 0)) 62 5 (nI (68 + 1))
set_option maxRecDepth 100000 in
theorem cy_X0_init_62 (l : Launch) (G : ro_G) (μ : ro_Mem) : ry_MY l G yX0_init cX0_init 1 0 6 1552 [.ref (ro_ad G 62)] 63 μ 69 (cm_X0_init_62 μ) := by
  refine ry_MY.of (by decide +kernel) (Nat.le_of_ble_eq_true rfl) (fun K hG hl hK hR hin => ?_)
  subst hG
  subst hl
  unfold cm_X0_init_62 at hR
  refine ry_aload_n hK 0 rfl dX0_init_0 rfl ?_
  refine ry_obj hK ob_X0_3 ko_in ko_cd (Nat.le_of_ble_eq_true rfl) dX0_init_1 ?_
  refine ry_aload_n hK 0 rfl dX0_init_4 rfl ?_
  refine ry_sipush (v := 512) hK dX0_init_5 (by decide) ?_
  refine ry_newa (at0 := .int) hK sh_63 ka_int (Or.inl ⟨rfl, rfl⟩) (by decide) (by decide) (by decide) (by decide) (by decide) dX0_init_8 ?_
  refine ry_put (x := nI (63 + 1)) hK hin fl_X0_9 (fun q h => by cases h; rfl) sh_62 (by decide) (ry_fvr ⟨_, rfl⟩ (by decide)) rfl rfl dX0_init_10 ?_
  refine ry_aload_n hK 0 rfl dX0_init_13 rfl ?_
  refine ry_sipush (v := 512) hK dX0_init_14 (by decide) ?_
  refine ry_newa (at0 := .int) hK sh_64 ka_int (Or.inl ⟨rfl, rfl⟩) (by decide) (by decide) (by decide) (by decide) (by decide) dX0_init_17 ?_
  refine ry_put (x := nI (64 + 1)) hK hin fl_X0_15 (fun q h => by cases h; rfl) sh_62 (by decide) (ry_fvr ⟨_, rfl⟩ (by decide)) rfl rfl dX0_init_19 ?_
  refine ry_aload_n hK 0 rfl dX0_init_22 rfl ?_
  refine ry_sipush (v := 384) hK dX0_init_23 (by decide) ?_
  refine ry_newa (at0 := .int) hK sh_65 ka_int (Or.inl ⟨rfl, rfl⟩) (by decide) (by decide) (by decide) (by decide) (by decide) dX0_init_26 ?_
  refine ry_put (x := nI (65 + 1)) hK hin fl_X0_18 (fun q h => by cases h; rfl) sh_62 (by decide) (ry_fvr ⟨_, rfl⟩ (by decide)) rfl rfl dX0_init_28 ?_
  refine ry_aload_n hK 0 rfl dX0_init_31 rfl ?_
  refine ry_bipush (v := 32) hK dX0_init_32 (by decide) ?_
  refine ry_newa (at0 := .int) hK sh_66 ka_int (Or.inl ⟨rfl, rfl⟩) (by decide) (by decide) (by decide) (by decide) (by decide) dX0_init_34 ?_
  refine ry_put (x := nI (66 + 1)) hK hin fl_X0_21 (fun q h => by cases h; rfl) sh_62 (by decide) (ry_fvr ⟨_, rfl⟩ (by decide)) rfl rfl dX0_init_36 ?_
  refine ry_aload_n hK 0 rfl dX0_init_39 rfl ?_
  refine ry_bipush (v := 16) hK dX0_init_40 (by decide) ?_
  refine ry_newa (at0 := .int) hK sh_67 ka_int (Or.inl ⟨rfl, rfl⟩) (by decide) (by decide) (by decide) (by decide) (by decide) dX0_init_42 ?_
  refine ry_put (x := nI (67 + 1)) hK hin fl_X0_24 (fun q h => by cases h; rfl) sh_62 (by decide) (ry_fvr ⟨_, rfl⟩ (by decide)) rfl rfl dX0_init_44 ?_
  refine ry_aload_n hK 0 rfl dX0_init_47 rfl ?_
  refine ry_bipush (v := 96) hK dX0_init_48 (by decide) ?_
  refine ry_newa (at0 := .int) hK sh_68 ka_int (Or.inl ⟨rfl, rfl⟩) (by decide) (by decide) (by decide) (by decide) (by decide) dX0_init_50 ?_
  refine ry_put (x := nI (68 + 1)) hK hin fl_X0_27 (fun q h => by cases h; rfl) sh_62 (by decide) (ry_fvr ⟨_, rfl⟩ (by decide)) rfl rfl dX0_init_52 ?_
  exact ry_ret hK hR dX0_init_55
theorem dX6_init_0 : decode cX6_init 0 = .ok (.aload_n 0, 1) := by decide +kernel
theorem dX6_init_1 : decode cX6_init 1 = .ok (.invokespecial 3, 3) := by decide +kernel
theorem dX6_init_4 : decode cX6_init 4 = .ok (.aload_n 0, 1) := by decide +kernel
theorem dX6_init_5 : decode cX6_init 5 = .ok (.bipush 8, 2) := by decide +kernel
theorem dX6_init_7 : decode cX6_init 7 = .ok (.newarray .int, 2) := by decide +kernel
theorem dX6_init_9 : decode cX6_init 9 = .ok (.putfield 9, 3) := by decide +kernel
theorem dX6_init_12 : decode cX6_init 12 = .ok (.aload_n 0, 1) := by decide +kernel
theorem dX6_init_13 : decode cX6_init 13 = .ok (.sipush 256, 3) := by decide +kernel
theorem dX6_init_16 : decode cX6_init 16 = .ok (.newarray .int, 2) := by decide +kernel
theorem dX6_init_18 : decode cX6_init 18 = .ok (.putfield 15, 3) := by decide +kernel
theorem dX6_init_21 : decode cX6_init 21 = .ok (.aload_n 0, 1) := by decide +kernel
theorem dX6_init_22 : decode cX6_init 22 = .ok (.bipush 8, 2) := by decide +kernel
theorem dX6_init_24 : decode cX6_init 24 = .ok (.newarray .int, 2) := by decide +kernel
theorem dX6_init_26 : decode cX6_init 26 = .ok (.putfield 18, 3) := by decide +kernel
theorem dX6_init_29 : decode cX6_init 29 = .ok (.aload_n 0, 1) := by decide +kernel
theorem dX6_init_30 : decode cX6_init 30 = .ok (.bipush 8, 2) := by decide +kernel
theorem dX6_init_32 : decode cX6_init 32 = .ok (.newarray .int, 2) := by decide +kernel
theorem dX6_init_34 : decode cX6_init 34 = .ok (.putfield 21, 3) := by decide +kernel
theorem dX6_init_37 : decode cX6_init 37 = .ok (.aload_n 0, 1) := by decide +kernel
theorem dX6_init_38 : decode cX6_init 38 = .ok (.bipush 8, 2) := by decide +kernel
theorem dX6_init_40 : decode cX6_init 40 = .ok (.newarray .int, 2) := by decide +kernel
theorem dX6_init_42 : decode cX6_init 42 = .ok (.putfield 24, 3) := by decide +kernel
theorem dX6_init_45 : decode cX6_init 45 = .ok (.aload_n 0, 1) := by decide +kernel
theorem dX6_init_46 : decode cX6_init 46 = .ok (.bipush 8, 2) := by decide +kernel
theorem dX6_init_48 : decode cX6_init 48 = .ok (.newarray .int, 2) := by decide +kernel
theorem dX6_init_50 : decode cX6_init 50 = .ok (.putfield 27, 3) := by decide +kernel
theorem dX6_init_53 : decode cX6_init 53 = .ok (.return_, 1) := by decide +kernel
def cm_X6_init_69 (μ : ro_Mem) : ro_Mem := ro_set (ro_arr (ro_set (ro_arr (ro_set (ro_arr (ro_set (ro_arr (ro_set (ro_arr (ro_set (ro_arr (μ) 70 (fun _ => 0)) 69 0 (nI (70 + 1))) 71 (fun _ => 0)) 69 2 (nI (71 + 1))) 72 (fun _ => 0)) 69 3 (nI (72 + 1))) 73 (fun _ => 0)) 69 4 (nI (73 + 1))) 74 (fun _ => 0)) 69 5 (nI (74 + 1))) 75 (fun _ => 0)) 69 6 (nI (75 + 1))
set_option maxRecDepth 100000 in
theorem cy_X6_init_69 (l : Launch) (G : ro_G) (μ : ro_Mem) : ry_MY l G yX6_init cX6_init 1 0 6 296 [.ref (ro_ad G 69)] 70 μ 76 (cm_X6_init_69 μ) := by
  refine ry_MY.of (by decide +kernel) (Nat.le_of_ble_eq_true rfl) (fun K hG hl hK hR hin => ?_)
  subst hG
  subst hl
  unfold cm_X6_init_69 at hR
  refine ry_aload_n hK 0 rfl dX6_init_0 rfl ?_
  refine ry_obj hK ob_X6_3 ko_in ko_cd (Nat.le_of_ble_eq_true rfl) dX6_init_1 ?_
  refine ry_aload_n hK 0 rfl dX6_init_4 rfl ?_
  refine ry_bipush (v := 8) hK dX6_init_5 (by decide) ?_
  refine ry_newa (at0 := .int) hK sh_70 ka_int (Or.inl ⟨rfl, rfl⟩) (by decide) (by decide) (by decide) (by decide) (by decide) dX6_init_7 ?_
  refine ry_put (x := nI (70 + 1)) hK hin fl_X6_9 (fun q h => by cases h; rfl) sh_69 (by decide) (ry_fvr ⟨_, rfl⟩ (by decide)) rfl rfl dX6_init_9 ?_
  refine ry_aload_n hK 0 rfl dX6_init_12 rfl ?_
  refine ry_sipush (v := 256) hK dX6_init_13 (by decide) ?_
  refine ry_newa (at0 := .int) hK sh_71 ka_int (Or.inl ⟨rfl, rfl⟩) (by decide) (by decide) (by decide) (by decide) (by decide) dX6_init_16 ?_
  refine ry_put (x := nI (71 + 1)) hK hin fl_X6_15 (fun q h => by cases h; rfl) sh_69 (by decide) (ry_fvr ⟨_, rfl⟩ (by decide)) rfl rfl dX6_init_18 ?_
  refine ry_aload_n hK 0 rfl dX6_init_21 rfl ?_
  refine ry_bipush (v := 8) hK dX6_init_22 (by decide) ?_
  refine ry_newa (at0 := .int) hK sh_72 ka_int (Or.inl ⟨rfl, rfl⟩) (by decide) (by decide) (by decide) (by decide) (by decide) dX6_init_24 ?_
  refine ry_put (x := nI (72 + 1)) hK hin fl_X6_18 (fun q h => by cases h; rfl) sh_69 (by decide) (ry_fvr ⟨_, rfl⟩ (by decide)) rfl rfl dX6_init_26 ?_
  refine ry_aload_n hK 0 rfl dX6_init_29 rfl ?_
  refine ry_bipush (v := 8) hK dX6_init_30 (by decide) ?_
  refine ry_newa (at0 := .int) hK sh_73 ka_int (Or.inl ⟨rfl, rfl⟩) (by decide) (by decide) (by decide) (by decide) (by decide) dX6_init_32 ?_
  refine ry_put (x := nI (73 + 1)) hK hin fl_X6_21 (fun q h => by cases h; rfl) sh_69 (by decide) (ry_fvr ⟨_, rfl⟩ (by decide)) rfl rfl dX6_init_34 ?_
  refine ry_aload_n hK 0 rfl dX6_init_37 rfl ?_
  refine ry_bipush (v := 8) hK dX6_init_38 (by decide) ?_
  refine ry_newa (at0 := .int) hK sh_74 ka_int (Or.inl ⟨rfl, rfl⟩) (by decide) (by decide) (by decide) (by decide) (by decide) dX6_init_40 ?_
  refine ry_put (x := nI (74 + 1)) hK hin fl_X6_24 (fun q h => by cases h; rfl) sh_69 (by decide) (ry_fvr ⟨_, rfl⟩ (by decide)) rfl rfl dX6_init_42 ?_
  refine ry_aload_n hK 0 rfl dX6_init_45 rfl ?_
  refine ry_bipush (v := 8) hK dX6_init_46 (by decide) ?_
  refine ry_newa (at0 := .int) hK sh_75 ka_int (Or.inl ⟨rfl, rfl⟩) (by decide) (by decide) (by decide) (by decide) (by decide) dX6_init_48 ?_
  refine ry_put (x := nI (75 + 1)) hK hin fl_X6_27 (fun q h => by cases h; rfl) sh_69 (by decide) (ry_fvr ⟨_, rfl⟩ (by decide)) rfl rfl dX6_init_50 ?_
  exact ry_ret hK hR dX6_init_53
theorem dX10_init_0 : decode cX10_init 0 = .ok (.aload_n 0, 1) := by decide +kernel
theorem dX10_init_1 : decode cX10_init 1 = .ok (.invokespecial 3, 3) := by decide +kernel
theorem dX10_init_4 : decode cX10_init 4 = .ok (.aload_n 0, 1) := by decide +kernel
theorem dX10_init_5 : decode cX10_init 5 = .ok (.iconst 0, 1) := by decide +kernel
theorem dX10_init_6 : decode cX10_init 6 = .ok (.iload_n 1, 1) := by decide +kernel
theorem dX10_init_7 : decode cX10_init 7 = .ok (.invokestatic 9, 3) := by decide +kernel
theorem dX10_init_10 : decode cX10_init 10 = .ok (.newarray .int, 2) := by decide +kernel
theorem dX10_init_12 : decode cX10_init 12 = .ok (.putfield 15, 3) := by decide +kernel
theorem dX10_init_15 : decode cX10_init 15 = .ok (.aload_n 0, 1) := by decide +kernel
theorem dX10_init_16 : decode cX10_init 16 = .ok (.aload_n 0, 1) := by decide +kernel
theorem dX10_init_17 : decode cX10_init 17 = .ok (.getfield 15, 3) := by decide +kernel
theorem dX10_init_20 : decode cX10_init 20 = .ok (.arraylength, 1) := by decide +kernel
theorem dX10_init_21 : decode cX10_init 21 = .ok (.newarray .int, 2) := by decide +kernel
theorem dX10_init_23 : decode cX10_init 23 = .ok (.putfield 21, 3) := by decide +kernel
theorem dX10_init_26 : decode cX10_init 26 = .ok (.return_, 1) := by decide +kernel
def cm_X10_init_79 (μ : ro_Mem) : ro_Mem := ro_set (ro_arr (ro_set (ro_arr (μ) 80 (fun _ => 0)) 79 0 (nI (80 + 1))) 81 (fun _ => 0)) 79 1 (nI (81 + 1))
set_option maxRecDepth 100000 in
theorem cy_X10_init_79 (l : Launch) (G : ro_G) (μ : ro_Mem) : ry_MY l G yX10_init cX10_init 2 1 2 32 [.ref (ro_ad G 79), .int 16] 80 μ 82 (cm_X10_init_79 μ) := by
  refine ry_MY.of (by decide +kernel) (Nat.le_of_ble_eq_true rfl) (fun K hG hl hK hR hin => ?_)
  subst hG
  subst hl
  unfold cm_X10_init_79 at hR
  refine ry_aload_n hK 0 rfl dX10_init_0 rfl ?_
  refine ry_obj hK ob_X10_3 ko_in ko_cd (Nat.le_of_ble_eq_true rfl) dX10_init_1 ?_
  refine ry_aload_n hK 0 rfl dX10_init_4 rfl ?_
  refine ry_iconst (v := 0) hK dX10_init_5 (by decide) ?_
  refine ry_iload_n hK 1 rfl dX10_init_6 rfl ?_
  refine ry_max (v := 16) hK ml_X10_9 (by decide) (by decide) (by decide) (Nat.le_of_ble_eq_true rfl) dX10_init_7 ?_
  refine ry_newa (at0 := .int) hK sh_80 ka_int (Or.inl ⟨rfl, rfl⟩) (by decide) (by decide) (by decide) (by decide) (by decide) dX10_init_10 ?_
  refine ry_put (x := nI (80 + 1)) hK hin fl_X10_15 (fun q h => by cases h; rfl) sh_79 (by decide) (ry_fvr ⟨_, rfl⟩ (by decide)) rfl rfl dX10_init_12 ?_
  refine ry_aload_n hK 0 rfl dX10_init_15 rfl ?_
  refine ry_aload_n hK 0 rfl dX10_init_16 rfl ?_
  refine ry_get hK fl_X10_15 sh_79 (by decide) (ry_fvg (r := 80) ⟨_, rfl⟩ rfl (by decide)) dX10_init_17 ?_
  refine ry_alen hK sh_80 (by decide) dX10_init_20 ?_
  refine ry_newa (at0 := .int) hK sh_81 ka_int (Or.inl ⟨rfl, rfl⟩) (by decide) (by decide) (by decide) (by decide) (by decide) dX10_init_21 ?_
  refine ry_put (x := nI (81 + 1)) hK hin fl_X10_21 (fun q h => by cases h; rfl) sh_79 (by decide) (ry_fvr ⟨_, rfl⟩ (by decide)) rfl rfl dX10_init_23 ?_
  exact ry_ret hK hR dX10_init_26
def cm_X10_init_82 (μ : ro_Mem) : ro_Mem := ro_set (ro_arr (ro_set (ro_arr (μ) 83 (fun _ => 0)) 82 0 (nI (83 + 1))) 84 (fun _ => 0)) 82 1 (nI (84 + 1))
set_option maxRecDepth 100000 in
theorem cy_X10_init_82 (l : Launch) (G : ro_G) (μ : ro_Mem) : ry_MY l G yX10_init cX10_init 2 1 2 32 [.ref (ro_ad G 82), .int 16] 83 μ 85 (cm_X10_init_82 μ) := by
  refine ry_MY.of (by decide +kernel) (Nat.le_of_ble_eq_true rfl) (fun K hG hl hK hR hin => ?_)
  subst hG
  subst hl
  unfold cm_X10_init_82 at hR
  refine ry_aload_n hK 0 rfl dX10_init_0 rfl ?_
  refine ry_obj hK ob_X10_3 ko_in ko_cd (Nat.le_of_ble_eq_true rfl) dX10_init_1 ?_
  refine ry_aload_n hK 0 rfl dX10_init_4 rfl ?_
  refine ry_iconst (v := 0) hK dX10_init_5 (by decide) ?_
  refine ry_iload_n hK 1 rfl dX10_init_6 rfl ?_
  refine ry_max (v := 16) hK ml_X10_9 (by decide) (by decide) (by decide) (Nat.le_of_ble_eq_true rfl) dX10_init_7 ?_
  refine ry_newa (at0 := .int) hK sh_83 ka_int (Or.inl ⟨rfl, rfl⟩) (by decide) (by decide) (by decide) (by decide) (by decide) dX10_init_10 ?_
  refine ry_put (x := nI (83 + 1)) hK hin fl_X10_15 (fun q h => by cases h; rfl) sh_82 (by decide) (ry_fvr ⟨_, rfl⟩ (by decide)) rfl rfl dX10_init_12 ?_
  refine ry_aload_n hK 0 rfl dX10_init_15 rfl ?_
  refine ry_aload_n hK 0 rfl dX10_init_16 rfl ?_
  refine ry_get hK fl_X10_15 sh_82 (by decide) (ry_fvg (r := 83) ⟨_, rfl⟩ rfl (by decide)) dX10_init_17 ?_
  refine ry_alen hK sh_83 (by decide) dX10_init_20 ?_
  refine ry_newa (at0 := .int) hK sh_84 ka_int (Or.inl ⟨rfl, rfl⟩) (by decide) (by decide) (by decide) (by decide) (by decide) dX10_init_21 ?_
  refine ry_put (x := nI (84 + 1)) hK hin fl_X10_21 (fun q h => by cases h; rfl) sh_82 (by decide) (ry_fvr ⟨_, rfl⟩ (by decide)) rfl rfl dX10_init_23 ?_
  exact ry_ret hK hR dX10_init_26
def cm_X10_init_85 (μ : ro_Mem) : ro_Mem := ro_set (ro_arr (ro_set (ro_arr (μ) 86 (fun _ => 0)) 85 0 (nI (86 + 1))) 87 (fun _ => 0)) 85 1 (nI (87 + 1))
set_option maxRecDepth 100000 in
theorem cy_X10_init_85 (l : Launch) (G : ro_G) (μ : ro_Mem) : ry_MY l G yX10_init cX10_init 2 1 2 32 [.ref (ro_ad G 85), .int 16] 86 μ 88 (cm_X10_init_85 μ) := by
  refine ry_MY.of (by decide +kernel) (Nat.le_of_ble_eq_true rfl) (fun K hG hl hK hR hin => ?_)
  subst hG
  subst hl
  unfold cm_X10_init_85 at hR
  refine ry_aload_n hK 0 rfl dX10_init_0 rfl ?_
  refine ry_obj hK ob_X10_3 ko_in ko_cd (Nat.le_of_ble_eq_true rfl) dX10_init_1 ?_
  refine ry_aload_n hK 0 rfl dX10_init_4 rfl ?_
  refine ry_iconst (v := 0) hK dX10_init_5 (by decide) ?_
  refine ry_iload_n hK 1 rfl dX10_init_6 rfl ?_
  refine ry_max (v := 16) hK ml_X10_9 (by decide) (by decide) (by decide) (Nat.le_of_ble_eq_true rfl) dX10_init_7 ?_
  refine ry_newa (at0 := .int) hK sh_86 ka_int (Or.inl ⟨rfl, rfl⟩) (by decide) (by decide) (by decide) (by decide) (by decide) dX10_init_10 ?_
  refine ry_put (x := nI (86 + 1)) hK hin fl_X10_15 (fun q h => by cases h; rfl) sh_85 (by decide) (ry_fvr ⟨_, rfl⟩ (by decide)) rfl rfl dX10_init_12 ?_
  refine ry_aload_n hK 0 rfl dX10_init_15 rfl ?_
  refine ry_aload_n hK 0 rfl dX10_init_16 rfl ?_
  refine ry_get hK fl_X10_15 sh_85 (by decide) (ry_fvg (r := 86) ⟨_, rfl⟩ rfl (by decide)) dX10_init_17 ?_
  refine ry_alen hK sh_86 (by decide) dX10_init_20 ?_
  refine ry_newa (at0 := .int) hK sh_87 ka_int (Or.inl ⟨rfl, rfl⟩) (by decide) (by decide) (by decide) (by decide) (by decide) dX10_init_21 ?_
  refine ry_put (x := nI (87 + 1)) hK hin fl_X10_21 (fun q h => by cases h; rfl) sh_85 (by decide) (ry_fvr ⟨_, rfl⟩ (by decide)) rfl rfl dX10_init_23 ?_
  exact ry_ret hK hR dX10_init_26
def cm_X10_init_88 (μ : ro_Mem) : ro_Mem := ro_set (ro_arr (ro_set (ro_arr (μ) 89 (fun _ => 0)) 88 0 (nI (89 + 1))) 90 (fun _ => 0)) 88 1 (nI (90 + 1))
set_option maxRecDepth 100000 in
theorem cy_X10_init_88 (l : Launch) (G : ro_G) (μ : ro_Mem) : ry_MY l G yX10_init cX10_init 2 1 2 32 [.ref (ro_ad G 88), .int 16] 89 μ 91 (cm_X10_init_88 μ) := by
  refine ry_MY.of (by decide +kernel) (Nat.le_of_ble_eq_true rfl) (fun K hG hl hK hR hin => ?_)
  subst hG
  subst hl
  unfold cm_X10_init_88 at hR
  refine ry_aload_n hK 0 rfl dX10_init_0 rfl ?_
  refine ry_obj hK ob_X10_3 ko_in ko_cd (Nat.le_of_ble_eq_true rfl) dX10_init_1 ?_
  refine ry_aload_n hK 0 rfl dX10_init_4 rfl ?_
  refine ry_iconst (v := 0) hK dX10_init_5 (by decide) ?_
  refine ry_iload_n hK 1 rfl dX10_init_6 rfl ?_
  refine ry_max (v := 16) hK ml_X10_9 (by decide) (by decide) (by decide) (Nat.le_of_ble_eq_true rfl) dX10_init_7 ?_
  refine ry_newa (at0 := .int) hK sh_89 ka_int (Or.inl ⟨rfl, rfl⟩) (by decide) (by decide) (by decide) (by decide) (by decide) dX10_init_10 ?_
  refine ry_put (x := nI (89 + 1)) hK hin fl_X10_15 (fun q h => by cases h; rfl) sh_88 (by decide) (ry_fvr ⟨_, rfl⟩ (by decide)) rfl rfl dX10_init_12 ?_
  refine ry_aload_n hK 0 rfl dX10_init_15 rfl ?_
  refine ry_aload_n hK 0 rfl dX10_init_16 rfl ?_
  refine ry_get hK fl_X10_15 sh_88 (by decide) (ry_fvg (r := 89) ⟨_, rfl⟩ rfl (by decide)) dX10_init_17 ?_
  refine ry_alen hK sh_89 (by decide) dX10_init_20 ?_
  refine ry_newa (at0 := .int) hK sh_90 ka_int (Or.inl ⟨rfl, rfl⟩) (by decide) (by decide) (by decide) (by decide) (by decide) dX10_init_21 ?_
  refine ry_put (x := nI (90 + 1)) hK hin fl_X10_21 (fun q h => by cases h; rfl) sh_88 (by decide) (ry_fvr ⟨_, rfl⟩ (by decide)) rfl rfl dX10_init_23 ?_
  exact ry_ret hK hR dX10_init_26
def cm_X10_init_91 (μ : ro_Mem) : ro_Mem := ro_set (ro_arr (ro_set (ro_arr (μ) 92 (fun _ => 0)) 91 0 (nI (92 + 1))) 93 (fun _ => 0)) 91 1 (nI (93 + 1))
set_option maxRecDepth 100000 in
theorem cy_X10_init_91 (l : Launch) (G : ro_G) (μ : ro_Mem) : ry_MY l G yX10_init cX10_init 2 1 2 32 [.ref (ro_ad G 91), .int 16] 92 μ 94 (cm_X10_init_91 μ) := by
  refine ry_MY.of (by decide +kernel) (Nat.le_of_ble_eq_true rfl) (fun K hG hl hK hR hin => ?_)
  subst hG
  subst hl
  unfold cm_X10_init_91 at hR
  refine ry_aload_n hK 0 rfl dX10_init_0 rfl ?_
  refine ry_obj hK ob_X10_3 ko_in ko_cd (Nat.le_of_ble_eq_true rfl) dX10_init_1 ?_
  refine ry_aload_n hK 0 rfl dX10_init_4 rfl ?_
  refine ry_iconst (v := 0) hK dX10_init_5 (by decide) ?_
  refine ry_iload_n hK 1 rfl dX10_init_6 rfl ?_
  refine ry_max (v := 16) hK ml_X10_9 (by decide) (by decide) (by decide) (Nat.le_of_ble_eq_true rfl) dX10_init_7 ?_
  refine ry_newa (at0 := .int) hK sh_92 ka_int (Or.inl ⟨rfl, rfl⟩) (by decide) (by decide) (by decide) (by decide) (by decide) dX10_init_10 ?_
  refine ry_put (x := nI (92 + 1)) hK hin fl_X10_15 (fun q h => by cases h; rfl) sh_91 (by decide) (ry_fvr ⟨_, rfl⟩ (by decide)) rfl rfl dX10_init_12 ?_
  refine ry_aload_n hK 0 rfl dX10_init_15 rfl ?_
  refine ry_aload_n hK 0 rfl dX10_init_16 rfl ?_
  refine ry_get hK fl_X10_15 sh_91 (by decide) (ry_fvg (r := 92) ⟨_, rfl⟩ rfl (by decide)) dX10_init_17 ?_
  refine ry_alen hK sh_92 (by decide) dX10_init_20 ?_
  refine ry_newa (at0 := .int) hK sh_93 ka_int (Or.inl ⟨rfl, rfl⟩) (by decide) (by decide) (by decide) (by decide) (by decide) dX10_init_21 ?_
  refine ry_put (x := nI (93 + 1)) hK hin fl_X10_21 (fun q h => by cases h; rfl) sh_91 (by decide) (ry_fvr ⟨_, rfl⟩ (by decide)) rfl rfl dX10_init_23 ?_
  exact ry_ret hK hR dX10_init_26
def cm_X10_init_94 (μ : ro_Mem) : ro_Mem := ro_set (ro_arr (ro_set (ro_arr (μ) 95 (fun _ => 0)) 94 0 (nI (95 + 1))) 96 (fun _ => 0)) 94 1 (nI (96 + 1))
set_option maxRecDepth 100000 in
theorem cy_X10_init_94 (l : Launch) (G : ro_G) (μ : ro_Mem) : ry_MY l G yX10_init cX10_init 2 1 2 32 [.ref (ro_ad G 94), .int 16] 95 μ 97 (cm_X10_init_94 μ) := by
  refine ry_MY.of (by decide +kernel) (Nat.le_of_ble_eq_true rfl) (fun K hG hl hK hR hin => ?_)
  subst hG
  subst hl
  unfold cm_X10_init_94 at hR
  refine ry_aload_n hK 0 rfl dX10_init_0 rfl ?_
  refine ry_obj hK ob_X10_3 ko_in ko_cd (Nat.le_of_ble_eq_true rfl) dX10_init_1 ?_
  refine ry_aload_n hK 0 rfl dX10_init_4 rfl ?_
  refine ry_iconst (v := 0) hK dX10_init_5 (by decide) ?_
  refine ry_iload_n hK 1 rfl dX10_init_6 rfl ?_
  refine ry_max (v := 16) hK ml_X10_9 (by decide) (by decide) (by decide) (Nat.le_of_ble_eq_true rfl) dX10_init_7 ?_
  refine ry_newa (at0 := .int) hK sh_95 ka_int (Or.inl ⟨rfl, rfl⟩) (by decide) (by decide) (by decide) (by decide) (by decide) dX10_init_10 ?_
  refine ry_put (x := nI (95 + 1)) hK hin fl_X10_15 (fun q h => by cases h; rfl) sh_94 (by decide) (ry_fvr ⟨_, rfl⟩ (by decide)) rfl rfl dX10_init_12 ?_
  refine ry_aload_n hK 0 rfl dX10_init_15 rfl ?_
  refine ry_aload_n hK 0 rfl dX10_init_16 rfl ?_
  refine ry_get hK fl_X10_15 sh_94 (by decide) (ry_fvg (r := 95) ⟨_, rfl⟩ rfl (by decide)) dX10_init_17 ?_
  refine ry_alen hK sh_95 (by decide) dX10_init_20 ?_
  refine ry_newa (at0 := .int) hK sh_96 ka_int (Or.inl ⟨rfl, rfl⟩) (by decide) (by decide) (by decide) (by decide) (by decide) dX10_init_21 ?_
  refine ry_put (x := nI (96 + 1)) hK hin fl_X10_21 (fun q h => by cases h; rfl) sh_94 (by decide) (ry_fvr ⟨_, rfl⟩ (by decide)) rfl rfl dX10_init_23 ?_
  exact ry_ret hK hR dX10_init_26
def cm_X10_init_97 (μ : ro_Mem) : ro_Mem := ro_set (ro_arr (ro_set (ro_arr (μ) 98 (fun _ => 0)) 97 0 (nI (98 + 1))) 99 (fun _ => 0)) 97 1 (nI (99 + 1))
set_option maxRecDepth 100000 in
theorem cy_X10_init_97 (l : Launch) (G : ro_G) (μ : ro_Mem) : ry_MY l G yX10_init cX10_init 2 1 2 32 [.ref (ro_ad G 97), .int 16] 98 μ 100 (cm_X10_init_97 μ) := by
  refine ry_MY.of (by decide +kernel) (Nat.le_of_ble_eq_true rfl) (fun K hG hl hK hR hin => ?_)
  subst hG
  subst hl
  unfold cm_X10_init_97 at hR
  refine ry_aload_n hK 0 rfl dX10_init_0 rfl ?_
  refine ry_obj hK ob_X10_3 ko_in ko_cd (Nat.le_of_ble_eq_true rfl) dX10_init_1 ?_
  refine ry_aload_n hK 0 rfl dX10_init_4 rfl ?_
  refine ry_iconst (v := 0) hK dX10_init_5 (by decide) ?_
  refine ry_iload_n hK 1 rfl dX10_init_6 rfl ?_
  refine ry_max (v := 16) hK ml_X10_9 (by decide) (by decide) (by decide) (Nat.le_of_ble_eq_true rfl) dX10_init_7 ?_
  refine ry_newa (at0 := .int) hK sh_98 ka_int (Or.inl ⟨rfl, rfl⟩) (by decide) (by decide) (by decide) (by decide) (by decide) dX10_init_10 ?_
  refine ry_put (x := nI (98 + 1)) hK hin fl_X10_15 (fun q h => by cases h; rfl) sh_97 (by decide) (ry_fvr ⟨_, rfl⟩ (by decide)) rfl rfl dX10_init_12 ?_
  refine ry_aload_n hK 0 rfl dX10_init_15 rfl ?_
  refine ry_aload_n hK 0 rfl dX10_init_16 rfl ?_
  refine ry_get hK fl_X10_15 sh_97 (by decide) (ry_fvg (r := 98) ⟨_, rfl⟩ rfl (by decide)) dX10_init_17 ?_
  refine ry_alen hK sh_98 (by decide) dX10_init_20 ?_
  refine ry_newa (at0 := .int) hK sh_99 ka_int (Or.inl ⟨rfl, rfl⟩) (by decide) (by decide) (by decide) (by decide) (by decide) dX10_init_21 ?_
  refine ry_put (x := nI (99 + 1)) hK hin fl_X10_21 (fun q h => by cases h; rfl) sh_97 (by decide) (ry_fvr ⟨_, rfl⟩ (by decide)) rfl rfl dX10_init_23 ?_
  exact ry_ret hK hR dX10_init_26
def cm_X10_init_100 (μ : ro_Mem) : ro_Mem := ro_set (ro_arr (ro_set (ro_arr (μ) 101 (fun _ => 0)) 100 0 (nI (101 + 1))) 102 (fun _ => 0)) 100 1 (nI (102 + 1))
set_option maxRecDepth 100000 in
theorem cy_X10_init_100 (l : Launch) (G : ro_G) (μ : ro_Mem) : ry_MY l G yX10_init cX10_init 2 1 2 32 [.ref (ro_ad G 100), .int 16] 101 μ 103 (cm_X10_init_100 μ) := by
  refine ry_MY.of (by decide +kernel) (Nat.le_of_ble_eq_true rfl) (fun K hG hl hK hR hin => ?_)
  subst hG
  subst hl
  unfold cm_X10_init_100 at hR
  refine ry_aload_n hK 0 rfl dX10_init_0 rfl ?_
  refine ry_obj hK ob_X10_3 ko_in ko_cd (Nat.le_of_ble_eq_true rfl) dX10_init_1 ?_
  refine ry_aload_n hK 0 rfl dX10_init_4 rfl ?_
  refine ry_iconst (v := 0) hK dX10_init_5 (by decide) ?_
  refine ry_iload_n hK 1 rfl dX10_init_6 rfl ?_
  refine ry_max (v := 16) hK ml_X10_9 (by decide) (by decide) (by decide) (Nat.le_of_ble_eq_true rfl) dX10_init_7 ?_
  refine ry_newa (at0 := .int) hK sh_101 ka_int (Or.inl ⟨rfl, rfl⟩) (by decide) (by decide) (by decide) (by decide) (by decide) dX10_init_10 ?_
  refine ry_put (x := nI (101 + 1)) hK hin fl_X10_15 (fun q h => by cases h; rfl) sh_100 (by decide) (ry_fvr ⟨_, rfl⟩ (by decide)) rfl rfl dX10_init_12 ?_
  refine ry_aload_n hK 0 rfl dX10_init_15 rfl ?_
  refine ry_aload_n hK 0 rfl dX10_init_16 rfl ?_
  refine ry_get hK fl_X10_15 sh_100 (by decide) (ry_fvg (r := 101) ⟨_, rfl⟩ rfl (by decide)) dX10_init_17 ?_
  refine ry_alen hK sh_101 (by decide) dX10_init_20 ?_
  refine ry_newa (at0 := .int) hK sh_102 ka_int (Or.inl ⟨rfl, rfl⟩) (by decide) (by decide) (by decide) (by decide) (by decide) dX10_init_21 ?_
  refine ry_put (x := nI (102 + 1)) hK hin fl_X10_21 (fun q h => by cases h; rfl) sh_100 (by decide) (ry_fvr ⟨_, rfl⟩ (by decide)) rfl rfl dX10_init_23 ?_
  exact ry_ret hK hR dX10_init_26
def cm_X10_init_103 (μ : ro_Mem) : ro_Mem := ro_set (ro_arr (ro_set (ro_arr (μ) 104 (fun _ => 0)) 103 0 (nI (104 + 1))) 105 (fun _ => 0)) 103 1 (nI (105 + 1))
set_option maxRecDepth 100000 in
theorem cy_X10_init_103 (l : Launch) (G : ro_G) (μ : ro_Mem) : ry_MY l G yX10_init cX10_init 2 1 2 32 [.ref (ro_ad G 103), .int 16] 104 μ 106 (cm_X10_init_103 μ) := by
  refine ry_MY.of (by decide +kernel) (Nat.le_of_ble_eq_true rfl) (fun K hG hl hK hR hin => ?_)
  subst hG
  subst hl
  unfold cm_X10_init_103 at hR
  refine ry_aload_n hK 0 rfl dX10_init_0 rfl ?_
  refine ry_obj hK ob_X10_3 ko_in ko_cd (Nat.le_of_ble_eq_true rfl) dX10_init_1 ?_
  refine ry_aload_n hK 0 rfl dX10_init_4 rfl ?_
  refine ry_iconst (v := 0) hK dX10_init_5 (by decide) ?_
  refine ry_iload_n hK 1 rfl dX10_init_6 rfl ?_
  refine ry_max (v := 16) hK ml_X10_9 (by decide) (by decide) (by decide) (Nat.le_of_ble_eq_true rfl) dX10_init_7 ?_
  refine ry_newa (at0 := .int) hK sh_104 ka_int (Or.inl ⟨rfl, rfl⟩) (by decide) (by decide) (by decide) (by decide) (by decide) dX10_init_10 ?_
  refine ry_put (x := nI (104 + 1)) hK hin fl_X10_15 (fun q h => by cases h; rfl) sh_103 (by decide) (ry_fvr ⟨_, rfl⟩ (by decide)) rfl rfl dX10_init_12 ?_
  refine ry_aload_n hK 0 rfl dX10_init_15 rfl ?_
  refine ry_aload_n hK 0 rfl dX10_init_16 rfl ?_
  refine ry_get hK fl_X10_15 sh_103 (by decide) (ry_fvg (r := 104) ⟨_, rfl⟩ rfl (by decide)) dX10_init_17 ?_
  refine ry_alen hK sh_104 (by decide) dX10_init_20 ?_
  refine ry_newa (at0 := .int) hK sh_105 ka_int (Or.inl ⟨rfl, rfl⟩) (by decide) (by decide) (by decide) (by decide) (by decide) dX10_init_21 ?_
  refine ry_put (x := nI (105 + 1)) hK hin fl_X10_21 (fun q h => by cases h; rfl) sh_103 (by decide) (ry_fvr ⟨_, rfl⟩ (by decide)) rfl rfl dX10_init_23 ?_
  exact ry_ret hK hR dX10_init_26
def cm_X10_init_106 (μ : ro_Mem) : ro_Mem := ro_set (ro_arr (ro_set (ro_arr (μ) 107 (fun _ => 0)) 106 0 (nI (107 + 1))) 108 (fun _ => 0)) 106 1 (nI (108 + 1))
set_option maxRecDepth 100000 in
theorem cy_X10_init_106 (l : Launch) (G : ro_G) (μ : ro_Mem) : ry_MY l G yX10_init cX10_init 2 1 2 32 [.ref (ro_ad G 106), .int 16] 107 μ 109 (cm_X10_init_106 μ) := by
  refine ry_MY.of (by decide +kernel) (Nat.le_of_ble_eq_true rfl) (fun K hG hl hK hR hin => ?_)
  subst hG
  subst hl
  unfold cm_X10_init_106 at hR
  refine ry_aload_n hK 0 rfl dX10_init_0 rfl ?_
  refine ry_obj hK ob_X10_3 ko_in ko_cd (Nat.le_of_ble_eq_true rfl) dX10_init_1 ?_
  refine ry_aload_n hK 0 rfl dX10_init_4 rfl ?_
  refine ry_iconst (v := 0) hK dX10_init_5 (by decide) ?_
  refine ry_iload_n hK 1 rfl dX10_init_6 rfl ?_
  refine ry_max (v := 16) hK ml_X10_9 (by decide) (by decide) (by decide) (Nat.le_of_ble_eq_true rfl) dX10_init_7 ?_
  refine ry_newa (at0 := .int) hK sh_107 ka_int (Or.inl ⟨rfl, rfl⟩) (by decide) (by decide) (by decide) (by decide) (by decide) dX10_init_10 ?_
  refine ry_put (x := nI (107 + 1)) hK hin fl_X10_15 (fun q h => by cases h; rfl) sh_106 (by decide) (ry_fvr ⟨_, rfl⟩ (by decide)) rfl rfl dX10_init_12 ?_
  refine ry_aload_n hK 0 rfl dX10_init_15 rfl ?_
  refine ry_aload_n hK 0 rfl dX10_init_16 rfl ?_
  refine ry_get hK fl_X10_15 sh_106 (by decide) (ry_fvg (r := 107) ⟨_, rfl⟩ rfl (by decide)) dX10_init_17 ?_
  refine ry_alen hK sh_107 (by decide) dX10_init_20 ?_
  refine ry_newa (at0 := .int) hK sh_108 ka_int (Or.inl ⟨rfl, rfl⟩) (by decide) (by decide) (by decide) (by decide) (by decide) dX10_init_21 ?_
  refine ry_put (x := nI (108 + 1)) hK hin fl_X10_21 (fun q h => by cases h; rfl) sh_106 (by decide) (ry_fvr ⟨_, rfl⟩ (by decide)) rfl rfl dX10_init_23 ?_
  exact ry_ret hK hR dX10_init_26
def cm_X10_init_109 (μ : ro_Mem) : ro_Mem := ro_set (ro_arr (ro_set (ro_arr (μ) 110 (fun _ => 0)) 109 0 (nI (110 + 1))) 111 (fun _ => 0)) 109 1 (nI (111 + 1))
set_option maxRecDepth 100000 in
theorem cy_X10_init_109 (l : Launch) (G : ro_G) (μ : ro_Mem) : ry_MY l G yX10_init cX10_init 2 1 2 32 [.ref (ro_ad G 109), .int 16] 110 μ 112 (cm_X10_init_109 μ) := by
  refine ry_MY.of (by decide +kernel) (Nat.le_of_ble_eq_true rfl) (fun K hG hl hK hR hin => ?_)
  subst hG
  subst hl
  unfold cm_X10_init_109 at hR
  refine ry_aload_n hK 0 rfl dX10_init_0 rfl ?_
  refine ry_obj hK ob_X10_3 ko_in ko_cd (Nat.le_of_ble_eq_true rfl) dX10_init_1 ?_
  refine ry_aload_n hK 0 rfl dX10_init_4 rfl ?_
  refine ry_iconst (v := 0) hK dX10_init_5 (by decide) ?_
  refine ry_iload_n hK 1 rfl dX10_init_6 rfl ?_
  refine ry_max (v := 16) hK ml_X10_9 (by decide) (by decide) (by decide) (Nat.le_of_ble_eq_true rfl) dX10_init_7 ?_
  refine ry_newa (at0 := .int) hK sh_110 ka_int (Or.inl ⟨rfl, rfl⟩) (by decide) (by decide) (by decide) (by decide) (by decide) dX10_init_10 ?_
  refine ry_put (x := nI (110 + 1)) hK hin fl_X10_15 (fun q h => by cases h; rfl) sh_109 (by decide) (ry_fvr ⟨_, rfl⟩ (by decide)) rfl rfl dX10_init_12 ?_
  refine ry_aload_n hK 0 rfl dX10_init_15 rfl ?_
  refine ry_aload_n hK 0 rfl dX10_init_16 rfl ?_
  refine ry_get hK fl_X10_15 sh_109 (by decide) (ry_fvg (r := 110) ⟨_, rfl⟩ rfl (by decide)) dX10_init_17 ?_
  refine ry_alen hK sh_110 (by decide) dX10_init_20 ?_
  refine ry_newa (at0 := .int) hK sh_111 ka_int (Or.inl ⟨rfl, rfl⟩) (by decide) (by decide) (by decide) (by decide) (by decide) dX10_init_21 ?_
  refine ry_put (x := nI (111 + 1)) hK hin fl_X10_21 (fun q h => by cases h; rfl) sh_109 (by decide) (ry_fvr ⟨_, rfl⟩ (by decide)) rfl rfl dX10_init_23 ?_
  exact ry_ret hK hR dX10_init_26
def cm_X10_init_112 (μ : ro_Mem) : ro_Mem := ro_set (ro_arr (ro_set (ro_arr (μ) 113 (fun _ => 0)) 112 0 (nI (113 + 1))) 114 (fun _ => 0)) 112 1 (nI (114 + 1))
set_option maxRecDepth 100000 in
theorem cy_X10_init_112 (l : Launch) (G : ro_G) (μ : ro_Mem) : ry_MY l G yX10_init cX10_init 2 1 2 32 [.ref (ro_ad G 112), .int 16] 113 μ 115 (cm_X10_init_112 μ) := by
  refine ry_MY.of (by decide +kernel) (Nat.le_of_ble_eq_true rfl) (fun K hG hl hK hR hin => ?_)
  subst hG
  subst hl
  unfold cm_X10_init_112 at hR
  refine ry_aload_n hK 0 rfl dX10_init_0 rfl ?_
  refine ry_obj hK ob_X10_3 ko_in ko_cd (Nat.le_of_ble_eq_true rfl) dX10_init_1 ?_
  refine ry_aload_n hK 0 rfl dX10_init_4 rfl ?_
  refine ry_iconst (v := 0) hK dX10_init_5 (by decide) ?_
  refine ry_iload_n hK 1 rfl dX10_init_6 rfl ?_
  refine ry_max (v := 16) hK ml_X10_9 (by decide) (by decide) (by decide) (Nat.le_of_ble_eq_true rfl) dX10_init_7 ?_
  refine ry_newa (at0 := .int) hK sh_113 ka_int (Or.inl ⟨rfl, rfl⟩) (by decide) (by decide) (by decide) (by decide) (by decide) dX10_init_10 ?_
  refine ry_put (x := nI (113 + 1)) hK hin fl_X10_15 (fun q h => by cases h; rfl) sh_112 (by decide) (ry_fvr ⟨_, rfl⟩ (by decide)) rfl rfl dX10_init_12 ?_
  refine ry_aload_n hK 0 rfl dX10_init_15 rfl ?_
  refine ry_aload_n hK 0 rfl dX10_init_16 rfl ?_
  refine ry_get hK fl_X10_15 sh_112 (by decide) (ry_fvg (r := 113) ⟨_, rfl⟩ rfl (by decide)) dX10_init_17 ?_
  refine ry_alen hK sh_113 (by decide) dX10_init_20 ?_
  refine ry_newa (at0 := .int) hK sh_114 ka_int (Or.inl ⟨rfl, rfl⟩) (by decide) (by decide) (by decide) (by decide) (by decide) dX10_init_21 ?_
  refine ry_put (x := nI (114 + 1)) hK hin fl_X10_21 (fun q h => by cases h; rfl) sh_112 (by decide) (ry_fvr ⟨_, rfl⟩ (by decide)) rfl rfl dX10_init_23 ?_
  exact ry_ret hK hR dX10_init_26
def cm_X10_init_115 (μ : ro_Mem) : ro_Mem := ro_set (ro_arr (ro_set (ro_arr (μ) 116 (fun _ => 0)) 115 0 (nI (116 + 1))) 117 (fun _ => 0)) 115 1 (nI (117 + 1))
set_option maxRecDepth 100000 in
theorem cy_X10_init_115 (l : Launch) (G : ro_G) (μ : ro_Mem) : ry_MY l G yX10_init cX10_init 2 1 2 32 [.ref (ro_ad G 115), .int 16] 116 μ 118 (cm_X10_init_115 μ) := by
  refine ry_MY.of (by decide +kernel) (Nat.le_of_ble_eq_true rfl) (fun K hG hl hK hR hin => ?_)
  subst hG
  subst hl
  unfold cm_X10_init_115 at hR
  refine ry_aload_n hK 0 rfl dX10_init_0 rfl ?_
  refine ry_obj hK ob_X10_3 ko_in ko_cd (Nat.le_of_ble_eq_true rfl) dX10_init_1 ?_
  refine ry_aload_n hK 0 rfl dX10_init_4 rfl ?_
  refine ry_iconst (v := 0) hK dX10_init_5 (by decide) ?_
  refine ry_iload_n hK 1 rfl dX10_init_6 rfl ?_
  refine ry_max (v := 16) hK ml_X10_9 (by decide) (by decide) (by decide) (Nat.le_of_ble_eq_true rfl) dX10_init_7 ?_
  refine ry_newa (at0 := .int) hK sh_116 ka_int (Or.inl ⟨rfl, rfl⟩) (by decide) (by decide) (by decide) (by decide) (by decide) dX10_init_10 ?_
  refine ry_put (x := nI (116 + 1)) hK hin fl_X10_15 (fun q h => by cases h; rfl) sh_115 (by decide) (ry_fvr ⟨_, rfl⟩ (by decide)) rfl rfl dX10_init_12 ?_
  refine ry_aload_n hK 0 rfl dX10_init_15 rfl ?_
  refine ry_aload_n hK 0 rfl dX10_init_16 rfl ?_
  refine ry_get hK fl_X10_15 sh_115 (by decide) (ry_fvg (r := 116) ⟨_, rfl⟩ rfl (by decide)) dX10_init_17 ?_
  refine ry_alen hK sh_116 (by decide) dX10_init_20 ?_
  refine ry_newa (at0 := .int) hK sh_117 ka_int (Or.inl ⟨rfl, rfl⟩) (by decide) (by decide) (by decide) (by decide) (by decide) dX10_init_21 ?_
  refine ry_put (x := nI (117 + 1)) hK hin fl_X10_21 (fun q h => by cases h; rfl) sh_115 (by decide) (ry_fvr ⟨_, rfl⟩ (by decide)) rfl rfl dX10_init_23 ?_
  exact ry_ret hK hR dX10_init_26
def cm_X10_init_118 (μ : ro_Mem) : ro_Mem := ro_set (ro_arr (ro_set (ro_arr (μ) 119 (fun _ => 0)) 118 0 (nI (119 + 1))) 120 (fun _ => 0)) 118 1 (nI (120 + 1))
set_option maxRecDepth 100000 in
theorem cy_X10_init_118 (l : Launch) (G : ro_G) (μ : ro_Mem) : ry_MY l G yX10_init cX10_init 2 1 2 32 [.ref (ro_ad G 118), .int 16] 119 μ 121 (cm_X10_init_118 μ) := by
  refine ry_MY.of (by decide +kernel) (Nat.le_of_ble_eq_true rfl) (fun K hG hl hK hR hin => ?_)
  subst hG
  subst hl
  unfold cm_X10_init_118 at hR
  refine ry_aload_n hK 0 rfl dX10_init_0 rfl ?_
  refine ry_obj hK ob_X10_3 ko_in ko_cd (Nat.le_of_ble_eq_true rfl) dX10_init_1 ?_
  refine ry_aload_n hK 0 rfl dX10_init_4 rfl ?_
  refine ry_iconst (v := 0) hK dX10_init_5 (by decide) ?_
  refine ry_iload_n hK 1 rfl dX10_init_6 rfl ?_
  refine ry_max (v := 16) hK ml_X10_9 (by decide) (by decide) (by decide) (Nat.le_of_ble_eq_true rfl) dX10_init_7 ?_
  refine ry_newa (at0 := .int) hK sh_119 ka_int (Or.inl ⟨rfl, rfl⟩) (by decide) (by decide) (by decide) (by decide) (by decide) dX10_init_10 ?_
  refine ry_put (x := nI (119 + 1)) hK hin fl_X10_15 (fun q h => by cases h; rfl) sh_118 (by decide) (ry_fvr ⟨_, rfl⟩ (by decide)) rfl rfl dX10_init_12 ?_
  refine ry_aload_n hK 0 rfl dX10_init_15 rfl ?_
  refine ry_aload_n hK 0 rfl dX10_init_16 rfl ?_
  refine ry_get hK fl_X10_15 sh_118 (by decide) (ry_fvg (r := 119) ⟨_, rfl⟩ rfl (by decide)) dX10_init_17 ?_
  refine ry_alen hK sh_119 (by decide) dX10_init_20 ?_
  refine ry_newa (at0 := .int) hK sh_120 ka_int (Or.inl ⟨rfl, rfl⟩) (by decide) (by decide) (by decide) (by decide) (by decide) dX10_init_21 ?_
  refine ry_put (x := nI (120 + 1)) hK hin fl_X10_21 (fun q h => by cases h; rfl) sh_118 (by decide) (ry_fvr ⟨_, rfl⟩ (by decide)) rfl rfl dX10_init_23 ?_
  exact ry_ret hK hR dX10_init_26
def cm_X10_init_121 (μ : ro_Mem) : ro_Mem := ro_set (ro_arr (ro_set (ro_arr (μ) 122 (fun _ => 0)) 121 0 (nI (122 + 1))) 123 (fun _ => 0)) 121 1 (nI (123 + 1))
set_option maxRecDepth 100000 in
theorem cy_X10_init_121 (l : Launch) (G : ro_G) (μ : ro_Mem) : ry_MY l G yX10_init cX10_init 2 1 2 32 [.ref (ro_ad G 121), .int 16] 122 μ 124 (cm_X10_init_121 μ) := by
  refine ry_MY.of (by decide +kernel) (Nat.le_of_ble_eq_true rfl) (fun K hG hl hK hR hin => ?_)
  subst hG
  subst hl
  unfold cm_X10_init_121 at hR
  refine ry_aload_n hK 0 rfl dX10_init_0 rfl ?_
  refine ry_obj hK ob_X10_3 ko_in ko_cd (Nat.le_of_ble_eq_true rfl) dX10_init_1 ?_
  refine ry_aload_n hK 0 rfl dX10_init_4 rfl ?_
  refine ry_iconst (v := 0) hK dX10_init_5 (by decide) ?_
  refine ry_iload_n hK 1 rfl dX10_init_6 rfl ?_
  refine ry_max (v := 16) hK ml_X10_9 (by decide) (by decide) (by decide) (Nat.le_of_ble_eq_true rfl) dX10_init_7 ?_
  refine ry_newa (at0 := .int) hK sh_122 ka_int (Or.inl ⟨rfl, rfl⟩) (by decide) (by decide) (by decide) (by decide) (by decide) dX10_init_10 ?_
  refine ry_put (x := nI (122 + 1)) hK hin fl_X10_15 (fun q h => by cases h; rfl) sh_121 (by decide) (ry_fvr ⟨_, rfl⟩ (by decide)) rfl rfl dX10_init_12 ?_
  refine ry_aload_n hK 0 rfl dX10_init_15 rfl ?_
  refine ry_aload_n hK 0 rfl dX10_init_16 rfl ?_
  refine ry_get hK fl_X10_15 sh_121 (by decide) (ry_fvg (r := 122) ⟨_, rfl⟩ rfl (by decide)) dX10_init_17 ?_
  refine ry_alen hK sh_122 (by decide) dX10_init_20 ?_
  refine ry_newa (at0 := .int) hK sh_123 ka_int (Or.inl ⟨rfl, rfl⟩) (by decide) (by decide) (by decide) (by decide) (by decide) dX10_init_21 ?_
  refine ry_put (x := nI (123 + 1)) hK hin fl_X10_21 (fun q h => by cases h; rfl) sh_121 (by decide) (ry_fvr ⟨_, rfl⟩ (by decide)) rfl rfl dX10_init_23 ?_
  exact ry_ret hK hR dX10_init_26
def cm_X10_init_124 (μ : ro_Mem) : ro_Mem := ro_set (ro_arr (ro_set (ro_arr (μ) 125 (fun _ => 0)) 124 0 (nI (125 + 1))) 126 (fun _ => 0)) 124 1 (nI (126 + 1))
set_option maxRecDepth 100000 in
theorem cy_X10_init_124 (l : Launch) (G : ro_G) (μ : ro_Mem) : ry_MY l G yX10_init cX10_init 2 1 2 32 [.ref (ro_ad G 124), .int 16] 125 μ 127 (cm_X10_init_124 μ) := by
  refine ry_MY.of (by decide +kernel) (Nat.le_of_ble_eq_true rfl) (fun K hG hl hK hR hin => ?_)
  subst hG
  subst hl
  unfold cm_X10_init_124 at hR
  refine ry_aload_n hK 0 rfl dX10_init_0 rfl ?_
  refine ry_obj hK ob_X10_3 ko_in ko_cd (Nat.le_of_ble_eq_true rfl) dX10_init_1 ?_
  refine ry_aload_n hK 0 rfl dX10_init_4 rfl ?_
  refine ry_iconst (v := 0) hK dX10_init_5 (by decide) ?_
  refine ry_iload_n hK 1 rfl dX10_init_6 rfl ?_
  refine ry_max (v := 16) hK ml_X10_9 (by decide) (by decide) (by decide) (Nat.le_of_ble_eq_true rfl) dX10_init_7 ?_
  refine ry_newa (at0 := .int) hK sh_125 ka_int (Or.inl ⟨rfl, rfl⟩) (by decide) (by decide) (by decide) (by decide) (by decide) dX10_init_10 ?_
  refine ry_put (x := nI (125 + 1)) hK hin fl_X10_15 (fun q h => by cases h; rfl) sh_124 (by decide) (ry_fvr ⟨_, rfl⟩ (by decide)) rfl rfl dX10_init_12 ?_
  refine ry_aload_n hK 0 rfl dX10_init_15 rfl ?_
  refine ry_aload_n hK 0 rfl dX10_init_16 rfl ?_
  refine ry_get hK fl_X10_15 sh_124 (by decide) (ry_fvg (r := 125) ⟨_, rfl⟩ rfl (by decide)) dX10_init_17 ?_
  refine ry_alen hK sh_125 (by decide) dX10_init_20 ?_
  refine ry_newa (at0 := .int) hK sh_126 ka_int (Or.inl ⟨rfl, rfl⟩) (by decide) (by decide) (by decide) (by decide) (by decide) dX10_init_21 ?_
  refine ry_put (x := nI (126 + 1)) hK hin fl_X10_21 (fun q h => by cases h; rfl) sh_124 (by decide) (ry_fvr ⟨_, rfl⟩ (by decide)) rfl rfl dX10_init_23 ?_
  exact ry_ret hK hR dX10_init_26
def cm_X10_init_127 (μ : ro_Mem) : ro_Mem := ro_set (ro_arr (ro_set (ro_arr (μ) 128 (fun _ => 0)) 127 0 (nI (128 + 1))) 129 (fun _ => 0)) 127 1 (nI (129 + 1))
set_option maxRecDepth 100000 in
theorem cy_X10_init_127 (l : Launch) (G : ro_G) (μ : ro_Mem) : ry_MY l G yX10_init cX10_init 2 1 2 32 [.ref (ro_ad G 127), .int 16] 128 μ 130 (cm_X10_init_127 μ) := by
  refine ry_MY.of (by decide +kernel) (Nat.le_of_ble_eq_true rfl) (fun K hG hl hK hR hin => ?_)
  subst hG
  subst hl
  unfold cm_X10_init_127 at hR
  refine ry_aload_n hK 0 rfl dX10_init_0 rfl ?_
  refine ry_obj hK ob_X10_3 ko_in ko_cd (Nat.le_of_ble_eq_true rfl) dX10_init_1 ?_
  refine ry_aload_n hK 0 rfl dX10_init_4 rfl ?_
  refine ry_iconst (v := 0) hK dX10_init_5 (by decide) ?_
  refine ry_iload_n hK 1 rfl dX10_init_6 rfl ?_
  refine ry_max (v := 16) hK ml_X10_9 (by decide) (by decide) (by decide) (Nat.le_of_ble_eq_true rfl) dX10_init_7 ?_
  refine ry_newa (at0 := .int) hK sh_128 ka_int (Or.inl ⟨rfl, rfl⟩) (by decide) (by decide) (by decide) (by decide) (by decide) dX10_init_10 ?_
  refine ry_put (x := nI (128 + 1)) hK hin fl_X10_15 (fun q h => by cases h; rfl) sh_127 (by decide) (ry_fvr ⟨_, rfl⟩ (by decide)) rfl rfl dX10_init_12 ?_
  refine ry_aload_n hK 0 rfl dX10_init_15 rfl ?_
  refine ry_aload_n hK 0 rfl dX10_init_16 rfl ?_
  refine ry_get hK fl_X10_15 sh_127 (by decide) (ry_fvg (r := 128) ⟨_, rfl⟩ rfl (by decide)) dX10_init_17 ?_
  refine ry_alen hK sh_128 (by decide) dX10_init_20 ?_
  refine ry_newa (at0 := .int) hK sh_129 ka_int (Or.inl ⟨rfl, rfl⟩) (by decide) (by decide) (by decide) (by decide) (by decide) dX10_init_21 ?_
  refine ry_put (x := nI (129 + 1)) hK hin fl_X10_21 (fun q h => by cases h; rfl) sh_127 (by decide) (ry_fvr ⟨_, rfl⟩ (by decide)) rfl rfl dX10_init_23 ?_
  exact ry_ret hK hR dX10_init_26
def cm_X10_init_130 (μ : ro_Mem) : ro_Mem := ro_set (ro_arr (ro_set (ro_arr (μ) 131 (fun _ => 0)) 130 0 (nI (131 + 1))) 132 (fun _ => 0)) 130 1 (nI (132 + 1))
set_option maxRecDepth 100000 in
theorem cy_X10_init_130 (l : Launch) (G : ro_G) (μ : ro_Mem) : ry_MY l G yX10_init cX10_init 2 1 2 32 [.ref (ro_ad G 130), .int 16] 131 μ 133 (cm_X10_init_130 μ) := by
  refine ry_MY.of (by decide +kernel) (Nat.le_of_ble_eq_true rfl) (fun K hG hl hK hR hin => ?_)
  subst hG
  subst hl
  unfold cm_X10_init_130 at hR
  refine ry_aload_n hK 0 rfl dX10_init_0 rfl ?_
  refine ry_obj hK ob_X10_3 ko_in ko_cd (Nat.le_of_ble_eq_true rfl) dX10_init_1 ?_
  refine ry_aload_n hK 0 rfl dX10_init_4 rfl ?_
  refine ry_iconst (v := 0) hK dX10_init_5 (by decide) ?_
  refine ry_iload_n hK 1 rfl dX10_init_6 rfl ?_
  refine ry_max (v := 16) hK ml_X10_9 (by decide) (by decide) (by decide) (Nat.le_of_ble_eq_true rfl) dX10_init_7 ?_
  refine ry_newa (at0 := .int) hK sh_131 ka_int (Or.inl ⟨rfl, rfl⟩) (by decide) (by decide) (by decide) (by decide) (by decide) dX10_init_10 ?_
  refine ry_put (x := nI (131 + 1)) hK hin fl_X10_15 (fun q h => by cases h; rfl) sh_130 (by decide) (ry_fvr ⟨_, rfl⟩ (by decide)) rfl rfl dX10_init_12 ?_
  refine ry_aload_n hK 0 rfl dX10_init_15 rfl ?_
  refine ry_aload_n hK 0 rfl dX10_init_16 rfl ?_
  refine ry_get hK fl_X10_15 sh_130 (by decide) (ry_fvg (r := 131) ⟨_, rfl⟩ rfl (by decide)) dX10_init_17 ?_
  refine ry_alen hK sh_131 (by decide) dX10_init_20 ?_
  refine ry_newa (at0 := .int) hK sh_132 ka_int (Or.inl ⟨rfl, rfl⟩) (by decide) (by decide) (by decide) (by decide) (by decide) dX10_init_21 ?_
  refine ry_put (x := nI (132 + 1)) hK hin fl_X10_21 (fun q h => by cases h; rfl) sh_130 (by decide) (ry_fvr ⟨_, rfl⟩ (by decide)) rfl rfl dX10_init_23 ?_
  exact ry_ret hK hR dX10_init_26
def cm_X10_init_133 (μ : ro_Mem) : ro_Mem := ro_set (ro_arr (ro_set (ro_arr (μ) 134 (fun _ => 0)) 133 0 (nI (134 + 1))) 135 (fun _ => 0)) 133 1 (nI (135 + 1))
set_option maxRecDepth 100000 in
theorem cy_X10_init_133 (l : Launch) (G : ro_G) (μ : ro_Mem) : ry_MY l G yX10_init cX10_init 2 1 2 32 [.ref (ro_ad G 133), .int 16] 134 μ 136 (cm_X10_init_133 μ) := by
  refine ry_MY.of (by decide +kernel) (Nat.le_of_ble_eq_true rfl) (fun K hG hl hK hR hin => ?_)
  subst hG
  subst hl
  unfold cm_X10_init_133 at hR
  refine ry_aload_n hK 0 rfl dX10_init_0 rfl ?_
  refine ry_obj hK ob_X10_3 ko_in ko_cd (Nat.le_of_ble_eq_true rfl) dX10_init_1 ?_
  refine ry_aload_n hK 0 rfl dX10_init_4 rfl ?_
  refine ry_iconst (v := 0) hK dX10_init_5 (by decide) ?_
  refine ry_iload_n hK 1 rfl dX10_init_6 rfl ?_
  refine ry_max (v := 16) hK ml_X10_9 (by decide) (by decide) (by decide) (Nat.le_of_ble_eq_true rfl) dX10_init_7 ?_
  refine ry_newa (at0 := .int) hK sh_134 ka_int (Or.inl ⟨rfl, rfl⟩) (by decide) (by decide) (by decide) (by decide) (by decide) dX10_init_10 ?_
  refine ry_put (x := nI (134 + 1)) hK hin fl_X10_15 (fun q h => by cases h; rfl) sh_133 (by decide) (ry_fvr ⟨_, rfl⟩ (by decide)) rfl rfl dX10_init_12 ?_
  refine ry_aload_n hK 0 rfl dX10_init_15 rfl ?_
  refine ry_aload_n hK 0 rfl dX10_init_16 rfl ?_
  refine ry_get hK fl_X10_15 sh_133 (by decide) (ry_fvg (r := 134) ⟨_, rfl⟩ rfl (by decide)) dX10_init_17 ?_
  refine ry_alen hK sh_134 (by decide) dX10_init_20 ?_
  refine ry_newa (at0 := .int) hK sh_135 ka_int (Or.inl ⟨rfl, rfl⟩) (by decide) (by decide) (by decide) (by decide) (by decide) dX10_init_21 ?_
  refine ry_put (x := nI (135 + 1)) hK hin fl_X10_21 (fun q h => by cases h; rfl) sh_133 (by decide) (ry_fvr ⟨_, rfl⟩ (by decide)) rfl rfl dX10_init_23 ?_
  exact ry_ret hK hR dX10_init_26
def cm_X10_init_136 (μ : ro_Mem) : ro_Mem := ro_set (ro_arr (ro_set (ro_arr (μ) 137 (fun _ => 0)) 136 0 (nI (137 + 1))) 138 (fun _ => 0)) 136 1 (nI (138 + 1))
set_option maxRecDepth 100000 in
theorem cy_X10_init_136 (l : Launch) (G : ro_G) (μ : ro_Mem) : ry_MY l G yX10_init cX10_init 2 1 2 32 [.ref (ro_ad G 136), .int 16] 137 μ 139 (cm_X10_init_136 μ) := by
  refine ry_MY.of (by decide +kernel) (Nat.le_of_ble_eq_true rfl) (fun K hG hl hK hR hin => ?_)
  subst hG
  subst hl
  unfold cm_X10_init_136 at hR
  refine ry_aload_n hK 0 rfl dX10_init_0 rfl ?_
  refine ry_obj hK ob_X10_3 ko_in ko_cd (Nat.le_of_ble_eq_true rfl) dX10_init_1 ?_
  refine ry_aload_n hK 0 rfl dX10_init_4 rfl ?_
  refine ry_iconst (v := 0) hK dX10_init_5 (by decide) ?_
  refine ry_iload_n hK 1 rfl dX10_init_6 rfl ?_
  refine ry_max (v := 16) hK ml_X10_9 (by decide) (by decide) (by decide) (Nat.le_of_ble_eq_true rfl) dX10_init_7 ?_
  refine ry_newa (at0 := .int) hK sh_137 ka_int (Or.inl ⟨rfl, rfl⟩) (by decide) (by decide) (by decide) (by decide) (by decide) dX10_init_10 ?_
  refine ry_put (x := nI (137 + 1)) hK hin fl_X10_15 (fun q h => by cases h; rfl) sh_136 (by decide) (ry_fvr ⟨_, rfl⟩ (by decide)) rfl rfl dX10_init_12 ?_
  refine ry_aload_n hK 0 rfl dX10_init_15 rfl ?_
  refine ry_aload_n hK 0 rfl dX10_init_16 rfl ?_
  refine ry_get hK fl_X10_15 sh_136 (by decide) (ry_fvg (r := 137) ⟨_, rfl⟩ rfl (by decide)) dX10_init_17 ?_
  refine ry_alen hK sh_137 (by decide) dX10_init_20 ?_
  refine ry_newa (at0 := .int) hK sh_138 ka_int (Or.inl ⟨rfl, rfl⟩) (by decide) (by decide) (by decide) (by decide) (by decide) dX10_init_21 ?_
  refine ry_put (x := nI (138 + 1)) hK hin fl_X10_21 (fun q h => by cases h; rfl) sh_136 (by decide) (ry_fvr ⟨_, rfl⟩ (by decide)) rfl rfl dX10_init_23 ?_
  exact ry_ret hK hR dX10_init_26
def cm_X10_init_139 (μ : ro_Mem) : ro_Mem := ro_set (ro_arr (ro_set (ro_arr (μ) 140 (fun _ => 0)) 139 0 (nI (140 + 1))) 141 (fun _ => 0)) 139 1 (nI (141 + 1))
set_option maxRecDepth 100000 in
theorem cy_X10_init_139 (l : Launch) (G : ro_G) (μ : ro_Mem) : ry_MY l G yX10_init cX10_init 2 1 2 32 [.ref (ro_ad G 139), .int 16] 140 μ 142 (cm_X10_init_139 μ) := by
  refine ry_MY.of (by decide +kernel) (Nat.le_of_ble_eq_true rfl) (fun K hG hl hK hR hin => ?_)
  subst hG
  subst hl
  unfold cm_X10_init_139 at hR
  refine ry_aload_n hK 0 rfl dX10_init_0 rfl ?_
  refine ry_obj hK ob_X10_3 ko_in ko_cd (Nat.le_of_ble_eq_true rfl) dX10_init_1 ?_
  refine ry_aload_n hK 0 rfl dX10_init_4 rfl ?_
  refine ry_iconst (v := 0) hK dX10_init_5 (by decide) ?_
  refine ry_iload_n hK 1 rfl dX10_init_6 rfl ?_
  refine ry_max (v := 16) hK ml_X10_9 (by decide) (by decide) (by decide) (Nat.le_of_ble_eq_true rfl) dX10_init_7 ?_
  refine ry_newa (at0 := .int) hK sh_140 ka_int (Or.inl ⟨rfl, rfl⟩) (by decide) (by decide) (by decide) (by decide) (by decide) dX10_init_10 ?_
  refine ry_put (x := nI (140 + 1)) hK hin fl_X10_15 (fun q h => by cases h; rfl) sh_139 (by decide) (ry_fvr ⟨_, rfl⟩ (by decide)) rfl rfl dX10_init_12 ?_
  refine ry_aload_n hK 0 rfl dX10_init_15 rfl ?_
  refine ry_aload_n hK 0 rfl dX10_init_16 rfl ?_
  refine ry_get hK fl_X10_15 sh_139 (by decide) (ry_fvg (r := 140) ⟨_, rfl⟩ rfl (by decide)) dX10_init_17 ?_
  refine ry_alen hK sh_140 (by decide) dX10_init_20 ?_
  refine ry_newa (at0 := .int) hK sh_141 ka_int (Or.inl ⟨rfl, rfl⟩) (by decide) (by decide) (by decide) (by decide) (by decide) dX10_init_21 ?_
  refine ry_put (x := nI (141 + 1)) hK hin fl_X10_21 (fun q h => by cases h; rfl) sh_139 (by decide) (ry_fvr ⟨_, rfl⟩ (by decide)) rfl rfl dX10_init_23 ?_
  exact ry_ret hK hR dX10_init_26
def cm_X10_init_142 (μ : ro_Mem) : ro_Mem := ro_set (ro_arr (ro_set (ro_arr (μ) 143 (fun _ => 0)) 142 0 (nI (143 + 1))) 144 (fun _ => 0)) 142 1 (nI (144 + 1))
set_option maxRecDepth 100000 in
theorem cy_X10_init_142 (l : Launch) (G : ro_G) (μ : ro_Mem) : ry_MY l G yX10_init cX10_init 2 1 2 32 [.ref (ro_ad G 142), .int 16] 143 μ 145 (cm_X10_init_142 μ) := by
  refine ry_MY.of (by decide +kernel) (Nat.le_of_ble_eq_true rfl) (fun K hG hl hK hR hin => ?_)
  subst hG
  subst hl
  unfold cm_X10_init_142 at hR
  refine ry_aload_n hK 0 rfl dX10_init_0 rfl ?_
  refine ry_obj hK ob_X10_3 ko_in ko_cd (Nat.le_of_ble_eq_true rfl) dX10_init_1 ?_
  refine ry_aload_n hK 0 rfl dX10_init_4 rfl ?_
  refine ry_iconst (v := 0) hK dX10_init_5 (by decide) ?_
  refine ry_iload_n hK 1 rfl dX10_init_6 rfl ?_
  refine ry_max (v := 16) hK ml_X10_9 (by decide) (by decide) (by decide) (Nat.le_of_ble_eq_true rfl) dX10_init_7 ?_
  refine ry_newa (at0 := .int) hK sh_143 ka_int (Or.inl ⟨rfl, rfl⟩) (by decide) (by decide) (by decide) (by decide) (by decide) dX10_init_10 ?_
  refine ry_put (x := nI (143 + 1)) hK hin fl_X10_15 (fun q h => by cases h; rfl) sh_142 (by decide) (ry_fvr ⟨_, rfl⟩ (by decide)) rfl rfl dX10_init_12 ?_
  refine ry_aload_n hK 0 rfl dX10_init_15 rfl ?_
  refine ry_aload_n hK 0 rfl dX10_init_16 rfl ?_
  refine ry_get hK fl_X10_15 sh_142 (by decide) (ry_fvg (r := 143) ⟨_, rfl⟩ rfl (by decide)) dX10_init_17 ?_
  refine ry_alen hK sh_143 (by decide) dX10_init_20 ?_
  refine ry_newa (at0 := .int) hK sh_144 ka_int (Or.inl ⟨rfl, rfl⟩) (by decide) (by decide) (by decide) (by decide) (by decide) dX10_init_21 ?_
  refine ry_put (x := nI (144 + 1)) hK hin fl_X10_21 (fun q h => by cases h; rfl) sh_142 (by decide) (ry_fvr ⟨_, rfl⟩ (by decide)) rfl rfl dX10_init_23 ?_
  exact ry_ret hK hR dX10_init_26
def cm_X10_init_145 (μ : ro_Mem) : ro_Mem := ro_set (ro_arr (ro_set (ro_arr (μ) 146 (fun _ => 0)) 145 0 (nI (146 + 1))) 147 (fun _ => 0)) 145 1 (nI (147 + 1))
set_option maxRecDepth 100000 in
theorem cy_X10_init_145 (l : Launch) (G : ro_G) (μ : ro_Mem) : ry_MY l G yX10_init cX10_init 2 1 2 32 [.ref (ro_ad G 145), .int 16] 146 μ 148 (cm_X10_init_145 μ) := by
  refine ry_MY.of (by decide +kernel) (Nat.le_of_ble_eq_true rfl) (fun K hG hl hK hR hin => ?_)
  subst hG
  subst hl
  unfold cm_X10_init_145 at hR
  refine ry_aload_n hK 0 rfl dX10_init_0 rfl ?_
  refine ry_obj hK ob_X10_3 ko_in ko_cd (Nat.le_of_ble_eq_true rfl) dX10_init_1 ?_
  refine ry_aload_n hK 0 rfl dX10_init_4 rfl ?_
  refine ry_iconst (v := 0) hK dX10_init_5 (by decide) ?_
  refine ry_iload_n hK 1 rfl dX10_init_6 rfl ?_
  refine ry_max (v := 16) hK ml_X10_9 (by decide) (by decide) (by decide) (Nat.le_of_ble_eq_true rfl) dX10_init_7 ?_
  refine ry_newa (at0 := .int) hK sh_146 ka_int (Or.inl ⟨rfl, rfl⟩) (by decide) (by decide) (by decide) (by decide) (by decide) dX10_init_10 ?_
  refine ry_put (x := nI (146 + 1)) hK hin fl_X10_15 (fun q h => by cases h; rfl) sh_145 (by decide) (ry_fvr ⟨_, rfl⟩ (by decide)) rfl rfl dX10_init_12 ?_
  refine ry_aload_n hK 0 rfl dX10_init_15 rfl ?_
  refine ry_aload_n hK 0 rfl dX10_init_16 rfl ?_
  refine ry_get hK fl_X10_15 sh_145 (by decide) (ry_fvg (r := 146) ⟨_, rfl⟩ rfl (by decide)) dX10_init_17 ?_
  refine ry_alen hK sh_146 (by decide) dX10_init_20 ?_
  refine ry_newa (at0 := .int) hK sh_147 ka_int (Or.inl ⟨rfl, rfl⟩) (by decide) (by decide) (by decide) (by decide) (by decide) dX10_init_21 ?_
  refine ry_put (x := nI (147 + 1)) hK hin fl_X10_21 (fun q h => by cases h; rfl) sh_145 (by decide) (ry_fvr ⟨_, rfl⟩ (by decide)) rfl rfl dX10_init_23 ?_
  exact ry_ret hK hR dX10_init_26
def cm_X10_init_148 (μ : ro_Mem) : ro_Mem := ro_set (ro_arr (ro_set (ro_arr (μ) 149 (fun _ => 0)) 148 0 (nI (149 + 1))) 150 (fun _ => 0)) 148 1 (nI (150 + 1))
set_option maxRecDepth 100000 in
theorem cy_X10_init_148 (l : Launch) (G : ro_G) (μ : ro_Mem) : ry_MY l G yX10_init cX10_init 2 1 2 32 [.ref (ro_ad G 148), .int 16] 149 μ 151 (cm_X10_init_148 μ) := by
  refine ry_MY.of (by decide +kernel) (Nat.le_of_ble_eq_true rfl) (fun K hG hl hK hR hin => ?_)
  subst hG
  subst hl
  unfold cm_X10_init_148 at hR
  refine ry_aload_n hK 0 rfl dX10_init_0 rfl ?_
  refine ry_obj hK ob_X10_3 ko_in ko_cd (Nat.le_of_ble_eq_true rfl) dX10_init_1 ?_
  refine ry_aload_n hK 0 rfl dX10_init_4 rfl ?_
  refine ry_iconst (v := 0) hK dX10_init_5 (by decide) ?_
  refine ry_iload_n hK 1 rfl dX10_init_6 rfl ?_
  refine ry_max (v := 16) hK ml_X10_9 (by decide) (by decide) (by decide) (Nat.le_of_ble_eq_true rfl) dX10_init_7 ?_
  refine ry_newa (at0 := .int) hK sh_149 ka_int (Or.inl ⟨rfl, rfl⟩) (by decide) (by decide) (by decide) (by decide) (by decide) dX10_init_10 ?_
  refine ry_put (x := nI (149 + 1)) hK hin fl_X10_15 (fun q h => by cases h; rfl) sh_148 (by decide) (ry_fvr ⟨_, rfl⟩ (by decide)) rfl rfl dX10_init_12 ?_
  refine ry_aload_n hK 0 rfl dX10_init_15 rfl ?_
  refine ry_aload_n hK 0 rfl dX10_init_16 rfl ?_
  refine ry_get hK fl_X10_15 sh_148 (by decide) (ry_fvg (r := 149) ⟨_, rfl⟩ rfl (by decide)) dX10_init_17 ?_
  refine ry_alen hK sh_149 (by decide) dX10_init_20 ?_
  refine ry_newa (at0 := .int) hK sh_150 ka_int (Or.inl ⟨rfl, rfl⟩) (by decide) (by decide) (by decide) (by decide) (by decide) dX10_init_21 ?_
  refine ry_put (x := nI (150 + 1)) hK hin fl_X10_21 (fun q h => by cases h; rfl) sh_148 (by decide) (ry_fvr ⟨_, rfl⟩ (by decide)) rfl rfl dX10_init_23 ?_
  exact ry_ret hK hR dX10_init_26
def cm_X10_init_151 (μ : ro_Mem) : ro_Mem := ro_set (ro_arr (ro_set (ro_arr (μ) 152 (fun _ => 0)) 151 0 (nI (152 + 1))) 153 (fun _ => 0)) 151 1 (nI (153 + 1))
set_option maxRecDepth 100000 in
theorem cy_X10_init_151 (l : Launch) (G : ro_G) (μ : ro_Mem) : ry_MY l G yX10_init cX10_init 2 1 2 32 [.ref (ro_ad G 151), .int 16] 152 μ 154 (cm_X10_init_151 μ) := by
  refine ry_MY.of (by decide +kernel) (Nat.le_of_ble_eq_true rfl) (fun K hG hl hK hR hin => ?_)
  subst hG
  subst hl
  unfold cm_X10_init_151 at hR
  refine ry_aload_n hK 0 rfl dX10_init_0 rfl ?_
  refine ry_obj hK ob_X10_3 ko_in ko_cd (Nat.le_of_ble_eq_true rfl) dX10_init_1 ?_
  refine ry_aload_n hK 0 rfl dX10_init_4 rfl ?_
  refine ry_iconst (v := 0) hK dX10_init_5 (by decide) ?_
  refine ry_iload_n hK 1 rfl dX10_init_6 rfl ?_
  refine ry_max (v := 16) hK ml_X10_9 (by decide) (by decide) (by decide) (Nat.le_of_ble_eq_true rfl) dX10_init_7 ?_
  refine ry_newa (at0 := .int) hK sh_152 ka_int (Or.inl ⟨rfl, rfl⟩) (by decide) (by decide) (by decide) (by decide) (by decide) dX10_init_10 ?_
  refine ry_put (x := nI (152 + 1)) hK hin fl_X10_15 (fun q h => by cases h; rfl) sh_151 (by decide) (ry_fvr ⟨_, rfl⟩ (by decide)) rfl rfl dX10_init_12 ?_
  refine ry_aload_n hK 0 rfl dX10_init_15 rfl ?_
  refine ry_aload_n hK 0 rfl dX10_init_16 rfl ?_
  refine ry_get hK fl_X10_15 sh_151 (by decide) (ry_fvg (r := 152) ⟨_, rfl⟩ rfl (by decide)) dX10_init_17 ?_
  refine ry_alen hK sh_152 (by decide) dX10_init_20 ?_
  refine ry_newa (at0 := .int) hK sh_153 ka_int (Or.inl ⟨rfl, rfl⟩) (by decide) (by decide) (by decide) (by decide) (by decide) dX10_init_21 ?_
  refine ry_put (x := nI (153 + 1)) hK hin fl_X10_21 (fun q h => by cases h; rfl) sh_151 (by decide) (ry_fvr ⟨_, rfl⟩ (by decide)) rfl rfl dX10_init_23 ?_
  exact ry_ret hK hR dX10_init_26
def cm_X10_init_154 (μ : ro_Mem) : ro_Mem := ro_set (ro_arr (ro_set (ro_arr (μ) 155 (fun _ => 0)) 154 0 (nI (155 + 1))) 156 (fun _ => 0)) 154 1 (nI (156 + 1))
set_option maxRecDepth 100000 in
theorem cy_X10_init_154 (l : Launch) (G : ro_G) (μ : ro_Mem) : ry_MY l G yX10_init cX10_init 2 1 2 32 [.ref (ro_ad G 154), .int 16] 155 μ 157 (cm_X10_init_154 μ) := by
  refine ry_MY.of (by decide +kernel) (Nat.le_of_ble_eq_true rfl) (fun K hG hl hK hR hin => ?_)
  subst hG
  subst hl
  unfold cm_X10_init_154 at hR
  refine ry_aload_n hK 0 rfl dX10_init_0 rfl ?_
  refine ry_obj hK ob_X10_3 ko_in ko_cd (Nat.le_of_ble_eq_true rfl) dX10_init_1 ?_
  refine ry_aload_n hK 0 rfl dX10_init_4 rfl ?_
  refine ry_iconst (v := 0) hK dX10_init_5 (by decide) ?_
  refine ry_iload_n hK 1 rfl dX10_init_6 rfl ?_
  refine ry_max (v := 16) hK ml_X10_9 (by decide) (by decide) (by decide) (Nat.le_of_ble_eq_true rfl) dX10_init_7 ?_
  refine ry_newa (at0 := .int) hK sh_155 ka_int (Or.inl ⟨rfl, rfl⟩) (by decide) (by decide) (by decide) (by decide) (by decide) dX10_init_10 ?_
  refine ry_put (x := nI (155 + 1)) hK hin fl_X10_15 (fun q h => by cases h; rfl) sh_154 (by decide) (ry_fvr ⟨_, rfl⟩ (by decide)) rfl rfl dX10_init_12 ?_
  refine ry_aload_n hK 0 rfl dX10_init_15 rfl ?_
  refine ry_aload_n hK 0 rfl dX10_init_16 rfl ?_
  refine ry_get hK fl_X10_15 sh_154 (by decide) (ry_fvg (r := 155) ⟨_, rfl⟩ rfl (by decide)) dX10_init_17 ?_
  refine ry_alen hK sh_155 (by decide) dX10_init_20 ?_
  refine ry_newa (at0 := .int) hK sh_156 ka_int (Or.inl ⟨rfl, rfl⟩) (by decide) (by decide) (by decide) (by decide) (by decide) dX10_init_21 ?_
  refine ry_put (x := nI (156 + 1)) hK hin fl_X10_21 (fun q h => by cases h; rfl) sh_154 (by decide) (ry_fvr ⟨_, rfl⟩ (by decide)) rfl rfl dX10_init_23 ?_
  exact ry_ret hK hR dX10_init_26
def cm_X10_init_157 (μ : ro_Mem) : ro_Mem := ro_set (ro_arr (ro_set (ro_arr (μ) 158 (fun _ => 0)) 157 0 (nI (158 + 1))) 159 (fun _ => 0)) 157 1 (nI (159 + 1))
set_option maxRecDepth 100000 in
theorem cy_X10_init_157 (l : Launch) (G : ro_G) (μ : ro_Mem) : ry_MY l G yX10_init cX10_init 2 1 2 32 [.ref (ro_ad G 157), .int 16] 158 μ 160 (cm_X10_init_157 μ) := by
  refine ry_MY.of (by decide +kernel) (Nat.le_of_ble_eq_true rfl) (fun K hG hl hK hR hin => ?_)
  subst hG
  subst hl
  unfold cm_X10_init_157 at hR
  refine ry_aload_n hK 0 rfl dX10_init_0 rfl ?_
  refine ry_obj hK ob_X10_3 ko_in ko_cd (Nat.le_of_ble_eq_true rfl) dX10_init_1 ?_
  refine ry_aload_n hK 0 rfl dX10_init_4 rfl ?_
  refine ry_iconst (v := 0) hK dX10_init_5 (by decide) ?_
  refine ry_iload_n hK 1 rfl dX10_init_6 rfl ?_
  refine ry_max (v := 16) hK ml_X10_9 (by decide) (by decide) (by decide) (Nat.le_of_ble_eq_true rfl) dX10_init_7 ?_
  refine ry_newa (at0 := .int) hK sh_158 ka_int (Or.inl ⟨rfl, rfl⟩) (by decide) (by decide) (by decide) (by decide) (by decide) dX10_init_10 ?_
  refine ry_put (x := nI (158 + 1)) hK hin fl_X10_15 (fun q h => by cases h; rfl) sh_157 (by decide) (ry_fvr ⟨_, rfl⟩ (by decide)) rfl rfl dX10_init_12 ?_
  refine ry_aload_n hK 0 rfl dX10_init_15 rfl ?_
  refine ry_aload_n hK 0 rfl dX10_init_16 rfl ?_
  refine ry_get hK fl_X10_15 sh_157 (by decide) (ry_fvg (r := 158) ⟨_, rfl⟩ rfl (by decide)) dX10_init_17 ?_
  refine ry_alen hK sh_158 (by decide) dX10_init_20 ?_
  refine ry_newa (at0 := .int) hK sh_159 ka_int (Or.inl ⟨rfl, rfl⟩) (by decide) (by decide) (by decide) (by decide) (by decide) dX10_init_21 ?_
  refine ry_put (x := nI (159 + 1)) hK hin fl_X10_21 (fun q h => by cases h; rfl) sh_157 (by decide) (ry_fvr ⟨_, rfl⟩ (by decide)) rfl rfl dX10_init_23 ?_
  exact ry_ret hK hR dX10_init_26
def cm_X10_init_160 (μ : ro_Mem) : ro_Mem := ro_set (ro_arr (ro_set (ro_arr (μ) 161 (fun _ => 0)) 160 0 (nI (161 + 1))) 162 (fun _ => 0)) 160 1 (nI (162 + 1))
set_option maxRecDepth 100000 in
theorem cy_X10_init_160 (l : Launch) (G : ro_G) (μ : ro_Mem) : ry_MY l G yX10_init cX10_init 2 1 2 32 [.ref (ro_ad G 160), .int 16] 161 μ 163 (cm_X10_init_160 μ) := by
  refine ry_MY.of (by decide +kernel) (Nat.le_of_ble_eq_true rfl) (fun K hG hl hK hR hin => ?_)
  subst hG
  subst hl
  unfold cm_X10_init_160 at hR
  refine ry_aload_n hK 0 rfl dX10_init_0 rfl ?_
  refine ry_obj hK ob_X10_3 ko_in ko_cd (Nat.le_of_ble_eq_true rfl) dX10_init_1 ?_
  refine ry_aload_n hK 0 rfl dX10_init_4 rfl ?_
  refine ry_iconst (v := 0) hK dX10_init_5 (by decide) ?_
  refine ry_iload_n hK 1 rfl dX10_init_6 rfl ?_
  refine ry_max (v := 16) hK ml_X10_9 (by decide) (by decide) (by decide) (Nat.le_of_ble_eq_true rfl) dX10_init_7 ?_
  refine ry_newa (at0 := .int) hK sh_161 ka_int (Or.inl ⟨rfl, rfl⟩) (by decide) (by decide) (by decide) (by decide) (by decide) dX10_init_10 ?_
  refine ry_put (x := nI (161 + 1)) hK hin fl_X10_15 (fun q h => by cases h; rfl) sh_160 (by decide) (ry_fvr ⟨_, rfl⟩ (by decide)) rfl rfl dX10_init_12 ?_
  refine ry_aload_n hK 0 rfl dX10_init_15 rfl ?_
  refine ry_aload_n hK 0 rfl dX10_init_16 rfl ?_
  refine ry_get hK fl_X10_15 sh_160 (by decide) (ry_fvg (r := 161) ⟨_, rfl⟩ rfl (by decide)) dX10_init_17 ?_
  refine ry_alen hK sh_161 (by decide) dX10_init_20 ?_
  refine ry_newa (at0 := .int) hK sh_162 ka_int (Or.inl ⟨rfl, rfl⟩) (by decide) (by decide) (by decide) (by decide) (by decide) dX10_init_21 ?_
  refine ry_put (x := nI (162 + 1)) hK hin fl_X10_21 (fun q h => by cases h; rfl) sh_160 (by decide) (ry_fvr ⟨_, rfl⟩ (by decide)) rfl rfl dX10_init_23 ?_
  exact ry_ret hK hR dX10_init_26
def cm_X10_init_163 (μ : ro_Mem) : ro_Mem := ro_set (ro_arr (ro_set (ro_arr (μ) 164 (fun _ => 0)) 163 0 (nI (164 + 1))) 165 (fun _ => 0)) 163 1 (nI (165 + 1))
set_option maxRecDepth 100000 in
theorem cy_X10_init_163 (l : Launch) (G : ro_G) (μ : ro_Mem) : ry_MY l G yX10_init cX10_init 2 1 2 32 [.ref (ro_ad G 163), .int 16] 164 μ 166 (cm_X10_init_163 μ) := by
  refine ry_MY.of (by decide +kernel) (Nat.le_of_ble_eq_true rfl) (fun K hG hl hK hR hin => ?_)
  subst hG
  subst hl
  unfold cm_X10_init_163 at hR
  refine ry_aload_n hK 0 rfl dX10_init_0 rfl ?_
  refine ry_obj hK ob_X10_3 ko_in ko_cd (Nat.le_of_ble_eq_true rfl) dX10_init_1 ?_
  refine ry_aload_n hK 0 rfl dX10_init_4 rfl ?_
  refine ry_iconst (v := 0) hK dX10_init_5 (by decide) ?_
  refine ry_iload_n hK 1 rfl dX10_init_6 rfl ?_
  refine ry_max (v := 16) hK ml_X10_9 (by decide) (by decide) (by decide) (Nat.le_of_ble_eq_true rfl) dX10_init_7 ?_
  refine ry_newa (at0 := .int) hK sh_164 ka_int (Or.inl ⟨rfl, rfl⟩) (by decide) (by decide) (by decide) (by decide) (by decide) dX10_init_10 ?_
  refine ry_put (x := nI (164 + 1)) hK hin fl_X10_15 (fun q h => by cases h; rfl) sh_163 (by decide) (ry_fvr ⟨_, rfl⟩ (by decide)) rfl rfl dX10_init_12 ?_
  refine ry_aload_n hK 0 rfl dX10_init_15 rfl ?_
  refine ry_aload_n hK 0 rfl dX10_init_16 rfl ?_
  refine ry_get hK fl_X10_15 sh_163 (by decide) (ry_fvg (r := 164) ⟨_, rfl⟩ rfl (by decide)) dX10_init_17 ?_
  refine ry_alen hK sh_164 (by decide) dX10_init_20 ?_
  refine ry_newa (at0 := .int) hK sh_165 ka_int (Or.inl ⟨rfl, rfl⟩) (by decide) (by decide) (by decide) (by decide) (by decide) dX10_init_21 ?_
  refine ry_put (x := nI (165 + 1)) hK hin fl_X10_21 (fun q h => by cases h; rfl) sh_163 (by decide) (ry_fvr ⟨_, rfl⟩ (by decide)) rfl rfl dX10_init_23 ?_
  exact ry_ret hK hR dX10_init_26
def cm_X10_init_166 (μ : ro_Mem) : ro_Mem := ro_set (ro_arr (ro_set (ro_arr (μ) 167 (fun _ => 0)) 166 0 (nI (167 + 1))) 168 (fun _ => 0)) 166 1 (nI (168 + 1))
set_option maxRecDepth 100000 in
theorem cy_X10_init_166 (l : Launch) (G : ro_G) (μ : ro_Mem) : ry_MY l G yX10_init cX10_init 2 1 2 32 [.ref (ro_ad G 166), .int 16] 167 μ 169 (cm_X10_init_166 μ) := by
  refine ry_MY.of (by decide +kernel) (Nat.le_of_ble_eq_true rfl) (fun K hG hl hK hR hin => ?_)
  subst hG
  subst hl
  unfold cm_X10_init_166 at hR
  refine ry_aload_n hK 0 rfl dX10_init_0 rfl ?_
  refine ry_obj hK ob_X10_3 ko_in ko_cd (Nat.le_of_ble_eq_true rfl) dX10_init_1 ?_
  refine ry_aload_n hK 0 rfl dX10_init_4 rfl ?_
  refine ry_iconst (v := 0) hK dX10_init_5 (by decide) ?_
  refine ry_iload_n hK 1 rfl dX10_init_6 rfl ?_
  refine ry_max (v := 16) hK ml_X10_9 (by decide) (by decide) (by decide) (Nat.le_of_ble_eq_true rfl) dX10_init_7 ?_
  refine ry_newa (at0 := .int) hK sh_167 ka_int (Or.inl ⟨rfl, rfl⟩) (by decide) (by decide) (by decide) (by decide) (by decide) dX10_init_10 ?_
  refine ry_put (x := nI (167 + 1)) hK hin fl_X10_15 (fun q h => by cases h; rfl) sh_166 (by decide) (ry_fvr ⟨_, rfl⟩ (by decide)) rfl rfl dX10_init_12 ?_
  refine ry_aload_n hK 0 rfl dX10_init_15 rfl ?_
  refine ry_aload_n hK 0 rfl dX10_init_16 rfl ?_
  refine ry_get hK fl_X10_15 sh_166 (by decide) (ry_fvg (r := 167) ⟨_, rfl⟩ rfl (by decide)) dX10_init_17 ?_
  refine ry_alen hK sh_167 (by decide) dX10_init_20 ?_
  refine ry_newa (at0 := .int) hK sh_168 ka_int (Or.inl ⟨rfl, rfl⟩) (by decide) (by decide) (by decide) (by decide) (by decide) dX10_init_21 ?_
  refine ry_put (x := nI (168 + 1)) hK hin fl_X10_21 (fun q h => by cases h; rfl) sh_166 (by decide) (ry_fvr ⟨_, rfl⟩ (by decide)) rfl rfl dX10_init_23 ?_
  exact ry_ret hK hR dX10_init_26
def cm_X10_init_169 (μ : ro_Mem) : ro_Mem := ro_set (ro_arr (ro_set (ro_arr (μ) 170 (fun _ => 0)) 169 0 (nI (170 + 1))) 171 (fun _ => 0)) 169 1 (nI (171 + 1))
set_option maxRecDepth 100000 in
theorem cy_X10_init_169 (l : Launch) (G : ro_G) (μ : ro_Mem) : ry_MY l G yX10_init cX10_init 2 1 2 32 [.ref (ro_ad G 169), .int 16] 170 μ 172 (cm_X10_init_169 μ) := by
  refine ry_MY.of (by decide +kernel) (Nat.le_of_ble_eq_true rfl) (fun K hG hl hK hR hin => ?_)
  subst hG
  subst hl
  unfold cm_X10_init_169 at hR
  refine ry_aload_n hK 0 rfl dX10_init_0 rfl ?_
  refine ry_obj hK ob_X10_3 ko_in ko_cd (Nat.le_of_ble_eq_true rfl) dX10_init_1 ?_
  refine ry_aload_n hK 0 rfl dX10_init_4 rfl ?_
  refine ry_iconst (v := 0) hK dX10_init_5 (by decide) ?_
  refine ry_iload_n hK 1 rfl dX10_init_6 rfl ?_
  refine ry_max (v := 16) hK ml_X10_9 (by decide) (by decide) (by decide) (Nat.le_of_ble_eq_true rfl) dX10_init_7 ?_
  refine ry_newa (at0 := .int) hK sh_170 ka_int (Or.inl ⟨rfl, rfl⟩) (by decide) (by decide) (by decide) (by decide) (by decide) dX10_init_10 ?_
  refine ry_put (x := nI (170 + 1)) hK hin fl_X10_15 (fun q h => by cases h; rfl) sh_169 (by decide) (ry_fvr ⟨_, rfl⟩ (by decide)) rfl rfl dX10_init_12 ?_
  refine ry_aload_n hK 0 rfl dX10_init_15 rfl ?_
  refine ry_aload_n hK 0 rfl dX10_init_16 rfl ?_
  refine ry_get hK fl_X10_15 sh_169 (by decide) (ry_fvg (r := 170) ⟨_, rfl⟩ rfl (by decide)) dX10_init_17 ?_
  refine ry_alen hK sh_170 (by decide) dX10_init_20 ?_
  refine ry_newa (at0 := .int) hK sh_171 ka_int (Or.inl ⟨rfl, rfl⟩) (by decide) (by decide) (by decide) (by decide) (by decide) dX10_init_21 ?_
  refine ry_put (x := nI (171 + 1)) hK hin fl_X10_21 (fun q h => by cases h; rfl) sh_169 (by decide) (ry_fvr ⟨_, rfl⟩ (by decide)) rfl rfl dX10_init_23 ?_
  exact ry_ret hK hR dX10_init_26
def cm_X10_init_172 (μ : ro_Mem) : ro_Mem := ro_set (ro_arr (ro_set (ro_arr (μ) 173 (fun _ => 0)) 172 0 (nI (173 + 1))) 174 (fun _ => 0)) 172 1 (nI (174 + 1))
set_option maxRecDepth 100000 in
theorem cy_X10_init_172 (l : Launch) (G : ro_G) (μ : ro_Mem) : ry_MY l G yX10_init cX10_init 2 1 2 32 [.ref (ro_ad G 172), .int 16] 173 μ 175 (cm_X10_init_172 μ) := by
  refine ry_MY.of (by decide +kernel) (Nat.le_of_ble_eq_true rfl) (fun K hG hl hK hR hin => ?_)
  subst hG
  subst hl
  unfold cm_X10_init_172 at hR
  refine ry_aload_n hK 0 rfl dX10_init_0 rfl ?_
  refine ry_obj hK ob_X10_3 ko_in ko_cd (Nat.le_of_ble_eq_true rfl) dX10_init_1 ?_
  refine ry_aload_n hK 0 rfl dX10_init_4 rfl ?_
  refine ry_iconst (v := 0) hK dX10_init_5 (by decide) ?_
  refine ry_iload_n hK 1 rfl dX10_init_6 rfl ?_
  refine ry_max (v := 16) hK ml_X10_9 (by decide) (by decide) (by decide) (Nat.le_of_ble_eq_true rfl) dX10_init_7 ?_
  refine ry_newa (at0 := .int) hK sh_173 ka_int (Or.inl ⟨rfl, rfl⟩) (by decide) (by decide) (by decide) (by decide) (by decide) dX10_init_10 ?_
  refine ry_put (x := nI (173 + 1)) hK hin fl_X10_15 (fun q h => by cases h; rfl) sh_172 (by decide) (ry_fvr ⟨_, rfl⟩ (by decide)) rfl rfl dX10_init_12 ?_
  refine ry_aload_n hK 0 rfl dX10_init_15 rfl ?_
  refine ry_aload_n hK 0 rfl dX10_init_16 rfl ?_
  refine ry_get hK fl_X10_15 sh_172 (by decide) (ry_fvg (r := 173) ⟨_, rfl⟩ rfl (by decide)) dX10_init_17 ?_
  refine ry_alen hK sh_173 (by decide) dX10_init_20 ?_
  refine ry_newa (at0 := .int) hK sh_174 ka_int (Or.inl ⟨rfl, rfl⟩) (by decide) (by decide) (by decide) (by decide) (by decide) dX10_init_21 ?_
  refine ry_put (x := nI (174 + 1)) hK hin fl_X10_21 (fun q h => by cases h; rfl) sh_172 (by decide) (ry_fvr ⟨_, rfl⟩ (by decide)) rfl rfl dX10_init_23 ?_
  exact ry_ret hK hR dX10_init_26
def cm_X10_init_175 (μ : ro_Mem) : ro_Mem := ro_set (ro_arr (ro_set (ro_arr (μ) 176 (fun _ => 0)) 175 0 (nI (176 + 1))) 177 (fun _ => 0)) 175 1 (nI (177 + 1))
set_option maxRecDepth 100000 in
theorem cy_X10_init_175 (l : Launch) (G : ro_G) (μ : ro_Mem) : ry_MY l G yX10_init cX10_init 2 1 2 32 [.ref (ro_ad G 175), .int 16] 176 μ 178 (cm_X10_init_175 μ) := by
  refine ry_MY.of (by decide +kernel) (Nat.le_of_ble_eq_true rfl) (fun K hG hl hK hR hin => ?_)
  subst hG
  subst hl
  unfold cm_X10_init_175 at hR
  refine ry_aload_n hK 0 rfl dX10_init_0 rfl ?_
  refine ry_obj hK ob_X10_3 ko_in ko_cd (Nat.le_of_ble_eq_true rfl) dX10_init_1 ?_
  refine ry_aload_n hK 0 rfl dX10_init_4 rfl ?_
  refine ry_iconst (v := 0) hK dX10_init_5 (by decide) ?_
  refine ry_iload_n hK 1 rfl dX10_init_6 rfl ?_
  refine ry_max (v := 16) hK ml_X10_9 (by decide) (by decide) (by decide) (Nat.le_of_ble_eq_true rfl) dX10_init_7 ?_
  refine ry_newa (at0 := .int) hK sh_176 ka_int (Or.inl ⟨rfl, rfl⟩) (by decide) (by decide) (by decide) (by decide) (by decide) dX10_init_10 ?_
  refine ry_put (x := nI (176 + 1)) hK hin fl_X10_15 (fun q h => by cases h; rfl) sh_175 (by decide) (ry_fvr ⟨_, rfl⟩ (by decide)) rfl rfl dX10_init_12 ?_
  refine ry_aload_n hK 0 rfl dX10_init_15 rfl ?_
  refine ry_aload_n hK 0 rfl dX10_init_16 rfl ?_
  refine ry_get hK fl_X10_15 sh_175 (by decide) (ry_fvg (r := 176) ⟨_, rfl⟩ rfl (by decide)) dX10_init_17 ?_
  refine ry_alen hK sh_176 (by decide) dX10_init_20 ?_
  refine ry_newa (at0 := .int) hK sh_177 ka_int (Or.inl ⟨rfl, rfl⟩) (by decide) (by decide) (by decide) (by decide) (by decide) dX10_init_21 ?_
  refine ry_put (x := nI (177 + 1)) hK hin fl_X10_21 (fun q h => by cases h; rfl) sh_175 (by decide) (ry_fvr ⟨_, rfl⟩ (by decide)) rfl rfl dX10_init_23 ?_
  exact ry_ret hK hR dX10_init_26
def cm_X10_init_178 (μ : ro_Mem) : ro_Mem := ro_set (ro_arr (ro_set (ro_arr (μ) 179 (fun _ => 0)) 178 0 (nI (179 + 1))) 180 (fun _ => 0)) 178 1 (nI (180 + 1))
set_option maxRecDepth 100000 in
theorem cy_X10_init_178 (l : Launch) (G : ro_G) (μ : ro_Mem) : ry_MY l G yX10_init cX10_init 2 1 2 32 [.ref (ro_ad G 178), .int 16] 179 μ 181 (cm_X10_init_178 μ) := by
  refine ry_MY.of (by decide +kernel) (Nat.le_of_ble_eq_true rfl) (fun K hG hl hK hR hin => ?_)
  subst hG
  subst hl
  unfold cm_X10_init_178 at hR
  refine ry_aload_n hK 0 rfl dX10_init_0 rfl ?_
  refine ry_obj hK ob_X10_3 ko_in ko_cd (Nat.le_of_ble_eq_true rfl) dX10_init_1 ?_
  refine ry_aload_n hK 0 rfl dX10_init_4 rfl ?_
  refine ry_iconst (v := 0) hK dX10_init_5 (by decide) ?_
  refine ry_iload_n hK 1 rfl dX10_init_6 rfl ?_
  refine ry_max (v := 16) hK ml_X10_9 (by decide) (by decide) (by decide) (Nat.le_of_ble_eq_true rfl) dX10_init_7 ?_
  refine ry_newa (at0 := .int) hK sh_179 ka_int (Or.inl ⟨rfl, rfl⟩) (by decide) (by decide) (by decide) (by decide) (by decide) dX10_init_10 ?_
  refine ry_put (x := nI (179 + 1)) hK hin fl_X10_15 (fun q h => by cases h; rfl) sh_178 (by decide) (ry_fvr ⟨_, rfl⟩ (by decide)) rfl rfl dX10_init_12 ?_
  refine ry_aload_n hK 0 rfl dX10_init_15 rfl ?_
  refine ry_aload_n hK 0 rfl dX10_init_16 rfl ?_
  refine ry_get hK fl_X10_15 sh_178 (by decide) (ry_fvg (r := 179) ⟨_, rfl⟩ rfl (by decide)) dX10_init_17 ?_
  refine ry_alen hK sh_179 (by decide) dX10_init_20 ?_
  refine ry_newa (at0 := .int) hK sh_180 ka_int (Or.inl ⟨rfl, rfl⟩) (by decide) (by decide) (by decide) (by decide) (by decide) dX10_init_21 ?_
  refine ry_put (x := nI (180 + 1)) hK hin fl_X10_21 (fun q h => by cases h; rfl) sh_178 (by decide) (ry_fvr ⟨_, rfl⟩ (by decide)) rfl rfl dX10_init_23 ?_
  exact ry_ret hK hR dX10_init_26
def cm_X10_init_181 (μ : ro_Mem) : ro_Mem := ro_set (ro_arr (ro_set (ro_arr (μ) 182 (fun _ => 0)) 181 0 (nI (182 + 1))) 183 (fun _ => 0)) 181 1 (nI (183 + 1))
set_option maxRecDepth 100000 in
theorem cy_X10_init_181 (l : Launch) (G : ro_G) (μ : ro_Mem) : ry_MY l G yX10_init cX10_init 2 1 2 32 [.ref (ro_ad G 181), .int 16] 182 μ 184 (cm_X10_init_181 μ) := by
  refine ry_MY.of (by decide +kernel) (Nat.le_of_ble_eq_true rfl) (fun K hG hl hK hR hin => ?_)
  subst hG
  subst hl
  unfold cm_X10_init_181 at hR
  refine ry_aload_n hK 0 rfl dX10_init_0 rfl ?_
  refine ry_obj hK ob_X10_3 ko_in ko_cd (Nat.le_of_ble_eq_true rfl) dX10_init_1 ?_
  refine ry_aload_n hK 0 rfl dX10_init_4 rfl ?_
  refine ry_iconst (v := 0) hK dX10_init_5 (by decide) ?_
  refine ry_iload_n hK 1 rfl dX10_init_6 rfl ?_
  refine ry_max (v := 16) hK ml_X10_9 (by decide) (by decide) (by decide) (Nat.le_of_ble_eq_true rfl) dX10_init_7 ?_
  refine ry_newa (at0 := .int) hK sh_182 ka_int (Or.inl ⟨rfl, rfl⟩) (by decide) (by decide) (by decide) (by decide) (by decide) dX10_init_10 ?_
  refine ry_put (x := nI (182 + 1)) hK hin fl_X10_15 (fun q h => by cases h; rfl) sh_181 (by decide) (ry_fvr ⟨_, rfl⟩ (by decide)) rfl rfl dX10_init_12 ?_
  refine ry_aload_n hK 0 rfl dX10_init_15 rfl ?_
  refine ry_aload_n hK 0 rfl dX10_init_16 rfl ?_
  refine ry_get hK fl_X10_15 sh_181 (by decide) (ry_fvg (r := 182) ⟨_, rfl⟩ rfl (by decide)) dX10_init_17 ?_
  refine ry_alen hK sh_182 (by decide) dX10_init_20 ?_
  refine ry_newa (at0 := .int) hK sh_183 ka_int (Or.inl ⟨rfl, rfl⟩) (by decide) (by decide) (by decide) (by decide) (by decide) dX10_init_21 ?_
  refine ry_put (x := nI (183 + 1)) hK hin fl_X10_21 (fun q h => by cases h; rfl) sh_181 (by decide) (ry_fvr ⟨_, rfl⟩ (by decide)) rfl rfl dX10_init_23 ?_
  exact ry_ret hK hR dX10_init_26
def cm_X10_init_184 (μ : ro_Mem) : ro_Mem := ro_set (ro_arr (ro_set (ro_arr (μ) 185 (fun _ => 0)) 184 0 (nI (185 + 1))) 186 (fun _ => 0)) 184 1 (nI (186 + 1))
set_option maxRecDepth 100000 in
theorem cy_X10_init_184 (l : Launch) (G : ro_G) (μ : ro_Mem) : ry_MY l G yX10_init cX10_init 2 1 2 32 [.ref (ro_ad G 184), .int 16] 185 μ 187 (cm_X10_init_184 μ) := by
  refine ry_MY.of (by decide +kernel) (Nat.le_of_ble_eq_true rfl) (fun K hG hl hK hR hin => ?_)
  subst hG
  subst hl
  unfold cm_X10_init_184 at hR
  refine ry_aload_n hK 0 rfl dX10_init_0 rfl ?_
  refine ry_obj hK ob_X10_3 ko_in ko_cd (Nat.le_of_ble_eq_true rfl) dX10_init_1 ?_
  refine ry_aload_n hK 0 rfl dX10_init_4 rfl ?_
  refine ry_iconst (v := 0) hK dX10_init_5 (by decide) ?_
  refine ry_iload_n hK 1 rfl dX10_init_6 rfl ?_
  refine ry_max (v := 16) hK ml_X10_9 (by decide) (by decide) (by decide) (Nat.le_of_ble_eq_true rfl) dX10_init_7 ?_
  refine ry_newa (at0 := .int) hK sh_185 ka_int (Or.inl ⟨rfl, rfl⟩) (by decide) (by decide) (by decide) (by decide) (by decide) dX10_init_10 ?_
  refine ry_put (x := nI (185 + 1)) hK hin fl_X10_15 (fun q h => by cases h; rfl) sh_184 (by decide) (ry_fvr ⟨_, rfl⟩ (by decide)) rfl rfl dX10_init_12 ?_
  refine ry_aload_n hK 0 rfl dX10_init_15 rfl ?_
  refine ry_aload_n hK 0 rfl dX10_init_16 rfl ?_
  refine ry_get hK fl_X10_15 sh_184 (by decide) (ry_fvg (r := 185) ⟨_, rfl⟩ rfl (by decide)) dX10_init_17 ?_
  refine ry_alen hK sh_185 (by decide) dX10_init_20 ?_
  refine ry_newa (at0 := .int) hK sh_186 ka_int (Or.inl ⟨rfl, rfl⟩) (by decide) (by decide) (by decide) (by decide) (by decide) dX10_init_21 ?_
  refine ry_put (x := nI (186 + 1)) hK hin fl_X10_21 (fun q h => by cases h; rfl) sh_184 (by decide) (ry_fvr ⟨_, rfl⟩ (by decide)) rfl rfl dX10_init_23 ?_
  exact ry_ret hK hR dX10_init_26
def cm_X10_init_187 (μ : ro_Mem) : ro_Mem := ro_set (ro_arr (ro_set (ro_arr (μ) 188 (fun _ => 0)) 187 0 (nI (188 + 1))) 189 (fun _ => 0)) 187 1 (nI (189 + 1))
set_option maxRecDepth 100000 in
theorem cy_X10_init_187 (l : Launch) (G : ro_G) (μ : ro_Mem) : ry_MY l G yX10_init cX10_init 2 1 2 32 [.ref (ro_ad G 187), .int 16] 188 μ 190 (cm_X10_init_187 μ) := by
  refine ry_MY.of (by decide +kernel) (Nat.le_of_ble_eq_true rfl) (fun K hG hl hK hR hin => ?_)
  subst hG
  subst hl
  unfold cm_X10_init_187 at hR
  refine ry_aload_n hK 0 rfl dX10_init_0 rfl ?_
  refine ry_obj hK ob_X10_3 ko_in ko_cd (Nat.le_of_ble_eq_true rfl) dX10_init_1 ?_
  refine ry_aload_n hK 0 rfl dX10_init_4 rfl ?_
  refine ry_iconst (v := 0) hK dX10_init_5 (by decide) ?_
  refine ry_iload_n hK 1 rfl dX10_init_6 rfl ?_
  refine ry_max (v := 16) hK ml_X10_9 (by decide) (by decide) (by decide) (Nat.le_of_ble_eq_true rfl) dX10_init_7 ?_
  refine ry_newa (at0 := .int) hK sh_188 ka_int (Or.inl ⟨rfl, rfl⟩) (by decide) (by decide) (by decide) (by decide) (by decide) dX10_init_10 ?_
  refine ry_put (x := nI (188 + 1)) hK hin fl_X10_15 (fun q h => by cases h; rfl) sh_187 (by decide) (ry_fvr ⟨_, rfl⟩ (by decide)) rfl rfl dX10_init_12 ?_
  refine ry_aload_n hK 0 rfl dX10_init_15 rfl ?_
  refine ry_aload_n hK 0 rfl dX10_init_16 rfl ?_
  refine ry_get hK fl_X10_15 sh_187 (by decide) (ry_fvg (r := 188) ⟨_, rfl⟩ rfl (by decide)) dX10_init_17 ?_
  refine ry_alen hK sh_188 (by decide) dX10_init_20 ?_
  refine ry_newa (at0 := .int) hK sh_189 ka_int (Or.inl ⟨rfl, rfl⟩) (by decide) (by decide) (by decide) (by decide) (by decide) dX10_init_21 ?_
  refine ry_put (x := nI (189 + 1)) hK hin fl_X10_21 (fun q h => by cases h; rfl) sh_187 (by decide) (ry_fvr ⟨_, rfl⟩ (by decide)) rfl rfl dX10_init_23 ?_
  exact ry_ret hK hR dX10_init_26
def cm_X10_init_190 (μ : ro_Mem) : ro_Mem := ro_set (ro_arr (ro_set (ro_arr (μ) 191 (fun _ => 0)) 190 0 (nI (191 + 1))) 192 (fun _ => 0)) 190 1 (nI (192 + 1))
set_option maxRecDepth 100000 in
theorem cy_X10_init_190 (l : Launch) (G : ro_G) (μ : ro_Mem) : ry_MY l G yX10_init cX10_init 2 1 2 32 [.ref (ro_ad G 190), .int 16] 191 μ 193 (cm_X10_init_190 μ) := by
  refine ry_MY.of (by decide +kernel) (Nat.le_of_ble_eq_true rfl) (fun K hG hl hK hR hin => ?_)
  subst hG
  subst hl
  unfold cm_X10_init_190 at hR
  refine ry_aload_n hK 0 rfl dX10_init_0 rfl ?_
  refine ry_obj hK ob_X10_3 ko_in ko_cd (Nat.le_of_ble_eq_true rfl) dX10_init_1 ?_
  refine ry_aload_n hK 0 rfl dX10_init_4 rfl ?_
  refine ry_iconst (v := 0) hK dX10_init_5 (by decide) ?_
  refine ry_iload_n hK 1 rfl dX10_init_6 rfl ?_
  refine ry_max (v := 16) hK ml_X10_9 (by decide) (by decide) (by decide) (Nat.le_of_ble_eq_true rfl) dX10_init_7 ?_
  refine ry_newa (at0 := .int) hK sh_191 ka_int (Or.inl ⟨rfl, rfl⟩) (by decide) (by decide) (by decide) (by decide) (by decide) dX10_init_10 ?_
  refine ry_put (x := nI (191 + 1)) hK hin fl_X10_15 (fun q h => by cases h; rfl) sh_190 (by decide) (ry_fvr ⟨_, rfl⟩ (by decide)) rfl rfl dX10_init_12 ?_
  refine ry_aload_n hK 0 rfl dX10_init_15 rfl ?_
  refine ry_aload_n hK 0 rfl dX10_init_16 rfl ?_
  refine ry_get hK fl_X10_15 sh_190 (by decide) (ry_fvg (r := 191) ⟨_, rfl⟩ rfl (by decide)) dX10_init_17 ?_
  refine ry_alen hK sh_191 (by decide) dX10_init_20 ?_
  refine ry_newa (at0 := .int) hK sh_192 ka_int (Or.inl ⟨rfl, rfl⟩) (by decide) (by decide) (by decide) (by decide) (by decide) dX10_init_21 ?_
  refine ry_put (x := nI (192 + 1)) hK hin fl_X10_21 (fun q h => by cases h; rfl) sh_190 (by decide) (ry_fvr ⟨_, rfl⟩ (by decide)) rfl rfl dX10_init_23 ?_
  exact ry_ret hK hR dX10_init_26
def cm_X10_init_193 (μ : ro_Mem) : ro_Mem := ro_set (ro_arr (ro_set (ro_arr (μ) 194 (fun _ => 0)) 193 0 (nI (194 + 1))) 195 (fun _ => 0)) 193 1 (nI (195 + 1))
set_option maxRecDepth 100000 in
theorem cy_X10_init_193 (l : Launch) (G : ro_G) (μ : ro_Mem) : ry_MY l G yX10_init cX10_init 2 1 2 32 [.ref (ro_ad G 193), .int 16] 194 μ 196 (cm_X10_init_193 μ) := by
  refine ry_MY.of (by decide +kernel) (Nat.le_of_ble_eq_true rfl) (fun K hG hl hK hR hin => ?_)
  subst hG
  subst hl
  unfold cm_X10_init_193 at hR
  refine ry_aload_n hK 0 rfl dX10_init_0 rfl ?_
  refine ry_obj hK ob_X10_3 ko_in ko_cd (Nat.le_of_ble_eq_true rfl) dX10_init_1 ?_
  refine ry_aload_n hK 0 rfl dX10_init_4 rfl ?_
  refine ry_iconst (v := 0) hK dX10_init_5 (by decide) ?_
  refine ry_iload_n hK 1 rfl dX10_init_6 rfl ?_
  refine ry_max (v := 16) hK ml_X10_9 (by decide) (by decide) (by decide) (Nat.le_of_ble_eq_true rfl) dX10_init_7 ?_
  refine ry_newa (at0 := .int) hK sh_194 ka_int (Or.inl ⟨rfl, rfl⟩) (by decide) (by decide) (by decide) (by decide) (by decide) dX10_init_10 ?_
  refine ry_put (x := nI (194 + 1)) hK hin fl_X10_15 (fun q h => by cases h; rfl) sh_193 (by decide) (ry_fvr ⟨_, rfl⟩ (by decide)) rfl rfl dX10_init_12 ?_
  refine ry_aload_n hK 0 rfl dX10_init_15 rfl ?_
  refine ry_aload_n hK 0 rfl dX10_init_16 rfl ?_
  refine ry_get hK fl_X10_15 sh_193 (by decide) (ry_fvg (r := 194) ⟨_, rfl⟩ rfl (by decide)) dX10_init_17 ?_
  refine ry_alen hK sh_194 (by decide) dX10_init_20 ?_
  refine ry_newa (at0 := .int) hK sh_195 ka_int (Or.inl ⟨rfl, rfl⟩) (by decide) (by decide) (by decide) (by decide) (by decide) dX10_init_21 ?_
  refine ry_put (x := nI (195 + 1)) hK hin fl_X10_21 (fun q h => by cases h; rfl) sh_193 (by decide) (ry_fvr ⟨_, rfl⟩ (by decide)) rfl rfl dX10_init_23 ?_
  exact ry_ret hK hR dX10_init_26
def cm_X10_init_196 (μ : ro_Mem) : ro_Mem := ro_set (ro_arr (ro_set (ro_arr (μ) 197 (fun _ => 0)) 196 0 (nI (197 + 1))) 198 (fun _ => 0)) 196 1 (nI (198 + 1))
set_option maxRecDepth 100000 in
theorem cy_X10_init_196 (l : Launch) (G : ro_G) (μ : ro_Mem) : ry_MY l G yX10_init cX10_init 2 1 2 32 [.ref (ro_ad G 196), .int 16] 197 μ 199 (cm_X10_init_196 μ) := by
  refine ry_MY.of (by decide +kernel) (Nat.le_of_ble_eq_true rfl) (fun K hG hl hK hR hin => ?_)
  subst hG
  subst hl
  unfold cm_X10_init_196 at hR
  refine ry_aload_n hK 0 rfl dX10_init_0 rfl ?_
  refine ry_obj hK ob_X10_3 ko_in ko_cd (Nat.le_of_ble_eq_true rfl) dX10_init_1 ?_
  refine ry_aload_n hK 0 rfl dX10_init_4 rfl ?_
  refine ry_iconst (v := 0) hK dX10_init_5 (by decide) ?_
  refine ry_iload_n hK 1 rfl dX10_init_6 rfl ?_
  refine ry_max (v := 16) hK ml_X10_9 (by decide) (by decide) (by decide) (Nat.le_of_ble_eq_true rfl) dX10_init_7 ?_
  refine ry_newa (at0 := .int) hK sh_197 ka_int (Or.inl ⟨rfl, rfl⟩) (by decide) (by decide) (by decide) (by decide) (by decide) dX10_init_10 ?_
  refine ry_put (x := nI (197 + 1)) hK hin fl_X10_15 (fun q h => by cases h; rfl) sh_196 (by decide) (ry_fvr ⟨_, rfl⟩ (by decide)) rfl rfl dX10_init_12 ?_
  refine ry_aload_n hK 0 rfl dX10_init_15 rfl ?_
  refine ry_aload_n hK 0 rfl dX10_init_16 rfl ?_
  refine ry_get hK fl_X10_15 sh_196 (by decide) (ry_fvg (r := 197) ⟨_, rfl⟩ rfl (by decide)) dX10_init_17 ?_
  refine ry_alen hK sh_197 (by decide) dX10_init_20 ?_
  refine ry_newa (at0 := .int) hK sh_198 ka_int (Or.inl ⟨rfl, rfl⟩) (by decide) (by decide) (by decide) (by decide) (by decide) dX10_init_21 ?_
  refine ry_put (x := nI (198 + 1)) hK hin fl_X10_21 (fun q h => by cases h; rfl) sh_196 (by decide) (ry_fvr ⟨_, rfl⟩ (by decide)) rfl rfl dX10_init_23 ?_
  exact ry_ret hK hR dX10_init_26
theorem dX4_init_0 : decode cX4_init 0 = .ok (.aload_n 0, 1) := by decide +kernel
theorem dX4_init_1 : decode cX4_init 1 = .ok (.invokespecial 3, 3) := by decide +kernel
theorem dX4_init_4 : decode cX4_init 4 = .ok (.aload_n 0, 1) := by decide +kernel
theorem dX4_init_5 : decode cX4_init 5 = .ok (.bipush 40, 2) := by decide +kernel
theorem dX4_init_7 : decode cX4_init 7 = .ok (.anewarray 9, 3) := by decide +kernel
theorem dX4_init_10 : decode cX4_init 10 = .ok (.putfield 11, 3) := by decide +kernel
theorem dX4_init_13 : decode cX4_init 13 = .ok (.aload_n 0, 1) := by decide +kernel
theorem dX4_init_14 : decode cX4_init 14 = .ok (.bipush 40, 2) := by decide +kernel
theorem dX4_init_16 : decode cX4_init 16 = .ok (.newarray .int, 2) := by decide +kernel
theorem dX4_init_18 : decode cX4_init 18 = .ok (.putfield 17, 3) := by decide +kernel
theorem dX4_init_21 : decode cX4_init 21 = .ok (.iconst 0, 1) := by decide +kernel
theorem dX4_init_22 : decode cX4_init 22 = .ok (.istore_n 1, 1) := by decide +kernel
theorem dX4_init_23 : decode cX4_init 23 = .ok (.iload_n 1, 1) := by decide +kernel
theorem dX4_init_24 : decode cX4_init 24 = .ok (.bipush 40, 2) := by decide +kernel
theorem dX4_init_26 : decode cX4_init 26 = .ok (.if_icmp .ge 24, 3) := by decide +kernel
theorem dX4_init_29 : decode cX4_init 29 = .ok (.aload_n 0, 1) := by decide +kernel
theorem dX4_init_30 : decode cX4_init 30 = .ok (.getfield 11, 3) := by decide +kernel
theorem dX4_init_33 : decode cX4_init 33 = .ok (.iload_n 1, 1) := by decide +kernel
theorem dX4_init_34 : decode cX4_init 34 = .ok (.new 9, 3) := by decide +kernel
theorem dX4_init_37 : decode cX4_init 37 = .ok (.dup, 1) := by decide +kernel
theorem dX4_init_38 : decode cX4_init 38 = .ok (.bipush 16, 2) := by decide +kernel
theorem dX4_init_40 : decode cX4_init 40 = .ok (.invokespecial 21, 3) := by decide +kernel
theorem dX4_init_43 : decode cX4_init 43 = .ok (.aastore, 1) := by decide +kernel
theorem dX4_init_44 : decode cX4_init 44 = .ok (.iinc 1 1, 3) := by decide +kernel
theorem dX4_init_47 : decode cX4_init 47 = .ok (.goto (-24), 3) := by decide +kernel
theorem dX4_init_50 : decode cX4_init 50 = .ok (.return_, 1) := by decide +kernel
def cm_X4_init_76 (μ : ro_Mem) : ro_Mem := ro_set (cm_X10_init_196 (ro_arr (ro_set (cm_X10_init_193 (ro_arr (ro_set (cm_X10_init_190 (ro_arr (ro_set (cm_X10_init_187 (ro_arr (ro_set (cm_X10_init_184 (ro_arr (ro_set (cm_X10_init_181 (ro_arr (ro_set (cm_X10_init_178 (ro_arr (ro_set (cm_X10_init_175 (ro_arr (ro_set (cm_X10_init_172 (ro_arr (ro_set (cm_X10_init_169 (ro_arr (ro_set (cm_X10_init_166 (ro_arr (ro_set (cm_X10_init_163 (ro_arr (ro_set (cm_X10_init_160 (ro_arr (ro_set (cm_X10_init_157 (ro_arr (ro_set (cm_X10_init_154 (ro_arr (ro_set (cm_X10_init_151 (ro_arr (ro_set (cm_X10_init_148 (ro_arr (ro_set (cm_X10_init_145 (ro_arr (ro_set (cm_X10_init_142 (ro_arr (ro_set (cm_X10_init_139 (ro_arr (ro_set (cm_X10_init_136 (ro_arr (ro_set (cm_X10_init_133 (ro_arr (ro_set (cm_X10_init_130 (ro_arr (ro_set (cm_X10_init_127 (ro_arr (ro_set (cm_X10_init_124 (ro_arr (ro_set (cm_X10_init_121 (ro_arr (ro_set (cm_X10_init_118 (ro_arr (ro_set (cm_X10_init_115 (ro_arr (ro_set (cm_X10_init_112 (ro_arr (ro_set (cm_X10_init_109 (ro_arr (ro_set (cm_X10_init_106 (ro_arr (ro_set (cm_X10_init_103 (ro_arr (ro_set (cm_X10_init_100 (ro_arr (ro_set (cm_X10_init_97 (ro_arr (ro_set (cm_X10_init_94 (ro_arr (ro_set (cm_X10_init_91 (ro_arr (ro_set (cm_X10_init_88 (ro_arr (ro_set (cm_X10_init_85 (ro_arr (ro_set (cm_X10_init_82 (ro_arr (ro_set (cm_X10_init_79 (ro_arr (ro_set (ro_arr (ro_set (ro_arr (μ) 77 (fun _ => 0)) 76 0 (nI (77 + 1))) 78 (fun _ => 0)) 76 1 (nI (78 + 1))) 79 (fun _ => 0))) 77 (0 : Int32).toNatClampNeg (nI (79 + 1))) 82 (fun _ => 0))) 77 (1 : Int32).toNatClampNeg (nI (82 + 1))) 85 (fun _ => 0))) 77 (2 : Int32).toNatClampNeg (nI (85 + 1))) 88 (fun _ => 0))) 77 (3 : Int32).toNatClampNeg (nI (88 + 1))) 91 (fun _ => 0))) 77 (4 : Int32).toNatClampNeg (nI (91 + 1))) 94 (fun _ => 0))) 77 (5 : Int32).toNatClampNeg (nI (94 + 1))) 97 (fun _ => 0))) 77 (6 : Int32).toNatClampNeg (nI (97 + 1))) 100 (fun _ => 0))) 77 (7 : Int32).toNatClampNeg (nI (100 + 1))) 103 (fun _ => 0))) 77 (8 : Int32).toNatClampNeg (nI (103 + 1))) 106 (fun _ => 0))) 77 (9 : Int32).toNatClampNeg (nI (106 + 1))) 109 (fun _ => 0))) 77 (10 : Int32).toNatClampNeg (nI (109 + 1))) 112 (fun _ => 0))) 77 (11 : Int32).toNatClampNeg (nI (112 + 1))) 115 (fun _ => 0))) 77 (12 : Int32).toNatClampNeg (nI (115 + 1))) 118 (fun _ => 0))) 77 (13 : Int32).toNatClampNeg (nI (118 + 1))) 121 (fun _ => 0))) 77 (14 : Int32).toNatClampNeg (nI (121 + 1))) 124 (fun _ => 0))) 77 (15 : Int32).toNatClampNeg (nI (124 + 1))) 127 (fun _ => 0))) 77 (16 : Int32).toNatClampNeg (nI (127 + 1))) 130 (fun _ => 0))) 77 (17 : Int32).toNatClampNeg (nI (130 + 1))) 133 (fun _ => 0))) 77 (18 : Int32).toNatClampNeg (nI (133 + 1))) 136 (fun _ => 0))) 77 (19 : Int32).toNatClampNeg (nI (136 + 1))) 139 (fun _ => 0))) 77 (20 : Int32).toNatClampNeg (nI (139 + 1))) 142 (fun _ => 0))) 77 (21 : Int32).toNatClampNeg (nI (142 + 1))) 145 (fun _ => 0))) 77 (22 : Int32).toNatClampNeg (nI (145 + 1))) 148 (fun _ => 0))) 77 (23 : Int32).toNatClampNeg (nI (148 + 1))) 151 (fun _ => 0))) 77 (24 : Int32).toNatClampNeg (nI (151 + 1))) 154 (fun _ => 0))) 77 (25 : Int32).toNatClampNeg (nI (154 + 1))) 157 (fun _ => 0))) 77 (26 : Int32).toNatClampNeg (nI (157 + 1))) 160 (fun _ => 0))) 77 (27 : Int32).toNatClampNeg (nI (160 + 1))) 163 (fun _ => 0))) 77 (28 : Int32).toNatClampNeg (nI (163 + 1))) 166 (fun _ => 0))) 77 (29 : Int32).toNatClampNeg (nI (166 + 1))) 169 (fun _ => 0))) 77 (30 : Int32).toNatClampNeg (nI (169 + 1))) 172 (fun _ => 0))) 77 (31 : Int32).toNatClampNeg (nI (172 + 1))) 175 (fun _ => 0))) 77 (32 : Int32).toNatClampNeg (nI (175 + 1))) 178 (fun _ => 0))) 77 (33 : Int32).toNatClampNeg (nI (178 + 1))) 181 (fun _ => 0))) 77 (34 : Int32).toNatClampNeg (nI (181 + 1))) 184 (fun _ => 0))) 77 (35 : Int32).toNatClampNeg (nI (184 + 1))) 187 (fun _ => 0))) 77 (36 : Int32).toNatClampNeg (nI (187 + 1))) 190 (fun _ => 0))) 77 (37 : Int32).toNatClampNeg (nI (190 + 1))) 193 (fun _ => 0))) 77 (38 : Int32).toNatClampNeg (nI (193 + 1))) 196 (fun _ => 0))) 77 (39 : Int32).toNatClampNeg (nI (196 + 1))
set_option maxRecDepth 100000 in
theorem cy_X4_init_76 (l : Launch) (G : ro_G) (μ : ro_Mem) : ry_MY l G yX4_init cX4_init 2 2 122 1440 [.ref (ro_ad G 76)] 77 μ 199 (cm_X4_init_76 μ) := by
  refine ry_MY.of (by decide +kernel) (Nat.le_of_ble_eq_true rfl) (fun K hG hl hK hR hin => ?_)
  subst hG
  subst hl
  unfold cm_X4_init_76 at hR
  refine ry_aload_n hK 0 rfl dX4_init_0 rfl ?_
  refine ry_obj hK ob_X4_3 ko_in ko_cd (Nat.le_of_ble_eq_true rfl) dX4_init_1 ?_
  refine ry_aload_n hK 0 rfl dX4_init_4 rfl ?_
  refine ry_bipush (v := 40) hK dX4_init_5 (by decide) ?_
  refine ry_newq hK sh_77 cl_X4_9 (by decide) (by decide) (by decide) (by decide) (by decide) dX4_init_7 ?_
  refine ry_put (x := nI (77 + 1)) hK hin fl_X4_11 (fun q h => by cases h; rfl) sh_76 (by decide) (ry_fvr ⟨_, rfl⟩ (by decide)) rfl rfl dX4_init_10 ?_
  refine ry_aload_n hK 0 rfl dX4_init_13 rfl ?_
  refine ry_bipush (v := 40) hK dX4_init_14 (by decide) ?_
  refine ry_newa (at0 := .int) hK sh_78 ka_int (Or.inl ⟨rfl, rfl⟩) (by decide) (by decide) (by decide) (by decide) (by decide) dX4_init_16 ?_
  refine ry_put (x := nI (78 + 1)) hK hin fl_X4_17 (fun q h => by cases h; rfl) sh_76 (by decide) (ry_fvr ⟨_, rfl⟩ (by decide)) rfl rfl dX4_init_18 ?_
  refine ry_iconst (v := 0) hK dX4_init_21 (by decide) ?_
  refine ry_istore_n (L' := [(1, .int 0), (0, .ref (ro_ad (kG K) 76))]) hK dX4_init_22 rfl (by decide) rfl ?_
  refine ry_iload_n hK 0 rfl dX4_init_23 rfl ?_
  refine ry_bipush (v := 40) hK dX4_init_24 (by decide) ?_
  refine ry_icmp_ge hK 50 dX4_init_26 (by decide) (fun q => absurd q (by decide)) (fun _ => ?_)
  refine ry_aload_n hK 1 rfl dX4_init_29 rfl ?_
  refine ry_get hK fl_X4_11 sh_76 (by decide) (ry_fvg (r := 77) ⟨_, rfl⟩ rfl (by decide)) dX4_init_30 ?_
  refine ry_iload_n hK 0 rfl dX4_init_33 rfl ?_
  refine ry_new hK tyX10 sh_79 rfl rfl inw_10 tyX10_ok df_10 cl_X4_9 is_10 it_10 (by decide) (by decide) dX4_init_34 ?_
  refine ry_dup hK dX4_init_37 rfl ?_
  refine ry_bipush (v := 16) hK dX4_init_38 (by decide) ?_
  refine ry_calli hK [.int 16] ml_X4_21 im_X10_init rfl mw_X10_init (cy_X10_init_79 (kl K) (kG K) _) (by decide) rfl rfl (Nat.le_of_ble_eq_true rfl) (by decide) (by decide) dX4_init_40 ?_
  refine ry_aast hK sh_77 (by decide) sh_79 (by decide) (by decide) (by decide) dX4_init_43 ?_
  refine ry_iinc (v := 1) (L' := [(1, .int 1), (0, .ref (ro_ad (kG K) 76))]) hK 0 rfl dX4_init_44 (by decide) (by decide) rfl ?_
  refine ry_goto hK 23 dX4_init_47 (by decide) ?_
  refine ry_iload_n hK 0 rfl dX4_init_23 rfl ?_
  refine ry_bipush (v := 40) hK dX4_init_24 (by decide) ?_
  refine ry_icmp_ge hK 50 dX4_init_26 (by decide) (fun q => absurd q (by decide)) (fun _ => ?_)
  refine ry_aload_n hK 1 rfl dX4_init_29 rfl ?_
  refine ry_get hK fl_X4_11 sh_76 (by decide) (ry_fvg (r := 77) ⟨_, rfl⟩ rfl (by decide)) dX4_init_30 ?_
  refine ry_iload_n hK 0 rfl dX4_init_33 rfl ?_
  refine ry_new hK tyX10 sh_82 rfl rfl inw_10 tyX10_ok df_10 cl_X4_9 is_10 it_10 (by decide) (by decide) dX4_init_34 ?_
  refine ry_dup hK dX4_init_37 rfl ?_
  refine ry_bipush (v := 16) hK dX4_init_38 (by decide) ?_
  refine ry_calli hK [.int 16] ml_X4_21 im_X10_init rfl mw_X10_init (cy_X10_init_82 (kl K) (kG K) _) (by decide) rfl rfl (Nat.le_of_ble_eq_true rfl) (by decide) (by decide) dX4_init_40 ?_
  refine ry_aast hK sh_77 (by decide) sh_82 (by decide) (by decide) (by decide) dX4_init_43 ?_
  refine ry_iinc (v := 2) (L' := [(1, .int 2), (0, .ref (ro_ad (kG K) 76))]) hK 0 rfl dX4_init_44 (by decide) (by decide) rfl ?_
  refine ry_goto hK 23 dX4_init_47 (by decide) ?_
  refine ry_iload_n hK 0 rfl dX4_init_23 rfl ?_
  refine ry_bipush (v := 40) hK dX4_init_24 (by decide) ?_
  refine ry_icmp_ge hK 50 dX4_init_26 (by decide) (fun q => absurd q (by decide)) (fun _ => ?_)
  refine ry_aload_n hK 1 rfl dX4_init_29 rfl ?_
  refine ry_get hK fl_X4_11 sh_76 (by decide) (ry_fvg (r := 77) ⟨_, rfl⟩ rfl (by decide)) dX4_init_30 ?_
  refine ry_iload_n hK 0 rfl dX4_init_33 rfl ?_
  refine ry_new hK tyX10 sh_85 rfl rfl inw_10 tyX10_ok df_10 cl_X4_9 is_10 it_10 (by decide) (by decide) dX4_init_34 ?_
  refine ry_dup hK dX4_init_37 rfl ?_
  refine ry_bipush (v := 16) hK dX4_init_38 (by decide) ?_
  refine ry_calli hK [.int 16] ml_X4_21 im_X10_init rfl mw_X10_init (cy_X10_init_85 (kl K) (kG K) _) (by decide) rfl rfl (Nat.le_of_ble_eq_true rfl) (by decide) (by decide) dX4_init_40 ?_
  refine ry_aast hK sh_77 (by decide) sh_85 (by decide) (by decide) (by decide) dX4_init_43 ?_
  refine ry_iinc (v := 3) (L' := [(1, .int 3), (0, .ref (ro_ad (kG K) 76))]) hK 0 rfl dX4_init_44 (by decide) (by decide) rfl ?_
  refine ry_goto hK 23 dX4_init_47 (by decide) ?_
  refine ry_iload_n hK 0 rfl dX4_init_23 rfl ?_
  refine ry_bipush (v := 40) hK dX4_init_24 (by decide) ?_
  refine ry_icmp_ge hK 50 dX4_init_26 (by decide) (fun q => absurd q (by decide)) (fun _ => ?_)
  refine ry_aload_n hK 1 rfl dX4_init_29 rfl ?_
  refine ry_get hK fl_X4_11 sh_76 (by decide) (ry_fvg (r := 77) ⟨_, rfl⟩ rfl (by decide)) dX4_init_30 ?_
  refine ry_iload_n hK 0 rfl dX4_init_33 rfl ?_
  refine ry_new hK tyX10 sh_88 rfl rfl inw_10 tyX10_ok df_10 cl_X4_9 is_10 it_10 (by decide) (by decide) dX4_init_34 ?_
  refine ry_dup hK dX4_init_37 rfl ?_
  refine ry_bipush (v := 16) hK dX4_init_38 (by decide) ?_
  refine ry_calli hK [.int 16] ml_X4_21 im_X10_init rfl mw_X10_init (cy_X10_init_88 (kl K) (kG K) _) (by decide) rfl rfl (Nat.le_of_ble_eq_true rfl) (by decide) (by decide) dX4_init_40 ?_
  refine ry_aast hK sh_77 (by decide) sh_88 (by decide) (by decide) (by decide) dX4_init_43 ?_
  refine ry_iinc (v := 4) (L' := [(1, .int 4), (0, .ref (ro_ad (kG K) 76))]) hK 0 rfl dX4_init_44 (by decide) (by decide) rfl ?_
  refine ry_goto hK 23 dX4_init_47 (by decide) ?_
  refine ry_iload_n hK 0 rfl dX4_init_23 rfl ?_
  refine ry_bipush (v := 40) hK dX4_init_24 (by decide) ?_
  refine ry_icmp_ge hK 50 dX4_init_26 (by decide) (fun q => absurd q (by decide)) (fun _ => ?_)
  refine ry_aload_n hK 1 rfl dX4_init_29 rfl ?_
  refine ry_get hK fl_X4_11 sh_76 (by decide) (ry_fvg (r := 77) ⟨_, rfl⟩ rfl (by decide)) dX4_init_30 ?_
  refine ry_iload_n hK 0 rfl dX4_init_33 rfl ?_
  refine ry_new hK tyX10 sh_91 rfl rfl inw_10 tyX10_ok df_10 cl_X4_9 is_10 it_10 (by decide) (by decide) dX4_init_34 ?_
  refine ry_dup hK dX4_init_37 rfl ?_
  refine ry_bipush (v := 16) hK dX4_init_38 (by decide) ?_
  refine ry_calli hK [.int 16] ml_X4_21 im_X10_init rfl mw_X10_init (cy_X10_init_91 (kl K) (kG K) _) (by decide) rfl rfl (Nat.le_of_ble_eq_true rfl) (by decide) (by decide) dX4_init_40 ?_
  refine ry_aast hK sh_77 (by decide) sh_91 (by decide) (by decide) (by decide) dX4_init_43 ?_
  refine ry_iinc (v := 5) (L' := [(1, .int 5), (0, .ref (ro_ad (kG K) 76))]) hK 0 rfl dX4_init_44 (by decide) (by decide) rfl ?_
  refine ry_goto hK 23 dX4_init_47 (by decide) ?_
  refine ry_iload_n hK 0 rfl dX4_init_23 rfl ?_
  refine ry_bipush (v := 40) hK dX4_init_24 (by decide) ?_
  refine ry_icmp_ge hK 50 dX4_init_26 (by decide) (fun q => absurd q (by decide)) (fun _ => ?_)
  refine ry_aload_n hK 1 rfl dX4_init_29 rfl ?_
  refine ry_get hK fl_X4_11 sh_76 (by decide) (ry_fvg (r := 77) ⟨_, rfl⟩ rfl (by decide)) dX4_init_30 ?_
  refine ry_iload_n hK 0 rfl dX4_init_33 rfl ?_
  refine ry_new hK tyX10 sh_94 rfl rfl inw_10 tyX10_ok df_10 cl_X4_9 is_10 it_10 (by decide) (by decide) dX4_init_34 ?_
  refine ry_dup hK dX4_init_37 rfl ?_
  refine ry_bipush (v := 16) hK dX4_init_38 (by decide) ?_
  refine ry_calli hK [.int 16] ml_X4_21 im_X10_init rfl mw_X10_init (cy_X10_init_94 (kl K) (kG K) _) (by decide) rfl rfl (Nat.le_of_ble_eq_true rfl) (by decide) (by decide) dX4_init_40 ?_
  refine ry_aast hK sh_77 (by decide) sh_94 (by decide) (by decide) (by decide) dX4_init_43 ?_
  refine ry_iinc (v := 6) (L' := [(1, .int 6), (0, .ref (ro_ad (kG K) 76))]) hK 0 rfl dX4_init_44 (by decide) (by decide) rfl ?_
  refine ry_goto hK 23 dX4_init_47 (by decide) ?_
  refine ry_iload_n hK 0 rfl dX4_init_23 rfl ?_
  refine ry_bipush (v := 40) hK dX4_init_24 (by decide) ?_
  refine ry_icmp_ge hK 50 dX4_init_26 (by decide) (fun q => absurd q (by decide)) (fun _ => ?_)
  refine ry_aload_n hK 1 rfl dX4_init_29 rfl ?_
  refine ry_get hK fl_X4_11 sh_76 (by decide) (ry_fvg (r := 77) ⟨_, rfl⟩ rfl (by decide)) dX4_init_30 ?_
  refine ry_iload_n hK 0 rfl dX4_init_33 rfl ?_
  refine ry_new hK tyX10 sh_97 rfl rfl inw_10 tyX10_ok df_10 cl_X4_9 is_10 it_10 (by decide) (by decide) dX4_init_34 ?_
  refine ry_dup hK dX4_init_37 rfl ?_
  refine ry_bipush (v := 16) hK dX4_init_38 (by decide) ?_
  refine ry_calli hK [.int 16] ml_X4_21 im_X10_init rfl mw_X10_init (cy_X10_init_97 (kl K) (kG K) _) (by decide) rfl rfl (Nat.le_of_ble_eq_true rfl) (by decide) (by decide) dX4_init_40 ?_
  refine ry_aast hK sh_77 (by decide) sh_97 (by decide) (by decide) (by decide) dX4_init_43 ?_
  refine ry_iinc (v := 7) (L' := [(1, .int 7), (0, .ref (ro_ad (kG K) 76))]) hK 0 rfl dX4_init_44 (by decide) (by decide) rfl ?_
  refine ry_goto hK 23 dX4_init_47 (by decide) ?_
  refine ry_iload_n hK 0 rfl dX4_init_23 rfl ?_
  refine ry_bipush (v := 40) hK dX4_init_24 (by decide) ?_
  refine ry_icmp_ge hK 50 dX4_init_26 (by decide) (fun q => absurd q (by decide)) (fun _ => ?_)
  refine ry_aload_n hK 1 rfl dX4_init_29 rfl ?_
  refine ry_get hK fl_X4_11 sh_76 (by decide) (ry_fvg (r := 77) ⟨_, rfl⟩ rfl (by decide)) dX4_init_30 ?_
  refine ry_iload_n hK 0 rfl dX4_init_33 rfl ?_
  refine ry_new hK tyX10 sh_100 rfl rfl inw_10 tyX10_ok df_10 cl_X4_9 is_10 it_10 (by decide) (by decide) dX4_init_34 ?_
  refine ry_dup hK dX4_init_37 rfl ?_
  refine ry_bipush (v := 16) hK dX4_init_38 (by decide) ?_
  refine ry_calli hK [.int 16] ml_X4_21 im_X10_init rfl mw_X10_init (cy_X10_init_100 (kl K) (kG K) _) (by decide) rfl rfl (Nat.le_of_ble_eq_true rfl) (by decide) (by decide) dX4_init_40 ?_
  refine ry_aast hK sh_77 (by decide) sh_100 (by decide) (by decide) (by decide) dX4_init_43 ?_
  refine ry_iinc (v := 8) (L' := [(1, .int 8), (0, .ref (ro_ad (kG K) 76))]) hK 0 rfl dX4_init_44 (by decide) (by decide) rfl ?_
  refine ry_goto hK 23 dX4_init_47 (by decide) ?_
  refine ry_iload_n hK 0 rfl dX4_init_23 rfl ?_
  refine ry_bipush (v := 40) hK dX4_init_24 (by decide) ?_
  refine ry_icmp_ge hK 50 dX4_init_26 (by decide) (fun q => absurd q (by decide)) (fun _ => ?_)
  refine ry_aload_n hK 1 rfl dX4_init_29 rfl ?_
  refine ry_get hK fl_X4_11 sh_76 (by decide) (ry_fvg (r := 77) ⟨_, rfl⟩ rfl (by decide)) dX4_init_30 ?_
  refine ry_iload_n hK 0 rfl dX4_init_33 rfl ?_
  refine ry_new hK tyX10 sh_103 rfl rfl inw_10 tyX10_ok df_10 cl_X4_9 is_10 it_10 (by decide) (by decide) dX4_init_34 ?_
  refine ry_dup hK dX4_init_37 rfl ?_
  refine ry_bipush (v := 16) hK dX4_init_38 (by decide) ?_
  refine ry_calli hK [.int 16] ml_X4_21 im_X10_init rfl mw_X10_init (cy_X10_init_103 (kl K) (kG K) _) (by decide) rfl rfl (Nat.le_of_ble_eq_true rfl) (by decide) (by decide) dX4_init_40 ?_
  refine ry_aast hK sh_77 (by decide) sh_103 (by decide) (by decide) (by decide) dX4_init_43 ?_
  refine ry_iinc (v := 9) (L' := [(1, .int 9), (0, .ref (ro_ad (kG K) 76))]) hK 0 rfl dX4_init_44 (by decide) (by decide) rfl ?_
  refine ry_goto hK 23 dX4_init_47 (by decide) ?_
  refine ry_iload_n hK 0 rfl dX4_init_23 rfl ?_
  refine ry_bipush (v := 40) hK dX4_init_24 (by decide) ?_
  refine ry_icmp_ge hK 50 dX4_init_26 (by decide) (fun q => absurd q (by decide)) (fun _ => ?_)
  refine ry_aload_n hK 1 rfl dX4_init_29 rfl ?_
  refine ry_get hK fl_X4_11 sh_76 (by decide) (ry_fvg (r := 77) ⟨_, rfl⟩ rfl (by decide)) dX4_init_30 ?_
  refine ry_iload_n hK 0 rfl dX4_init_33 rfl ?_
  refine ry_new hK tyX10 sh_106 rfl rfl inw_10 tyX10_ok df_10 cl_X4_9 is_10 it_10 (by decide) (by decide) dX4_init_34 ?_
  refine ry_dup hK dX4_init_37 rfl ?_
  refine ry_bipush (v := 16) hK dX4_init_38 (by decide) ?_
  refine ry_calli hK [.int 16] ml_X4_21 im_X10_init rfl mw_X10_init (cy_X10_init_106 (kl K) (kG K) _) (by decide) rfl rfl (Nat.le_of_ble_eq_true rfl) (by decide) (by decide) dX4_init_40 ?_
  refine ry_aast hK sh_77 (by decide) sh_106 (by decide) (by decide) (by decide) dX4_init_43 ?_
  refine ry_iinc (v := 10) (L' := [(1, .int 10), (0, .ref (ro_ad (kG K) 76))]) hK 0 rfl dX4_init_44 (by decide) (by decide) rfl ?_
  refine ry_goto hK 23 dX4_init_47 (by decide) ?_
  refine ry_iload_n hK 0 rfl dX4_init_23 rfl ?_
  refine ry_bipush (v := 40) hK dX4_init_24 (by decide) ?_
  refine ry_icmp_ge hK 50 dX4_init_26 (by decide) (fun q => absurd q (by decide)) (fun _ => ?_)
  refine ry_aload_n hK 1 rfl dX4_init_29 rfl ?_
  refine ry_get hK fl_X4_11 sh_76 (by decide) (ry_fvg (r := 77) ⟨_, rfl⟩ rfl (by decide)) dX4_init_30 ?_
  refine ry_iload_n hK 0 rfl dX4_init_33 rfl ?_
  refine ry_new hK tyX10 sh_109 rfl rfl inw_10 tyX10_ok df_10 cl_X4_9 is_10 it_10 (by decide) (by decide) dX4_init_34 ?_
  refine ry_dup hK dX4_init_37 rfl ?_
  refine ry_bipush (v := 16) hK dX4_init_38 (by decide) ?_
  refine ry_calli hK [.int 16] ml_X4_21 im_X10_init rfl mw_X10_init (cy_X10_init_109 (kl K) (kG K) _) (by decide) rfl rfl (Nat.le_of_ble_eq_true rfl) (by decide) (by decide) dX4_init_40 ?_
  refine ry_aast hK sh_77 (by decide) sh_109 (by decide) (by decide) (by decide) dX4_init_43 ?_
  refine ry_iinc (v := 11) (L' := [(1, .int 11), (0, .ref (ro_ad (kG K) 76))]) hK 0 rfl dX4_init_44 (by decide) (by decide) rfl ?_
  refine ry_goto hK 23 dX4_init_47 (by decide) ?_
  refine ry_iload_n hK 0 rfl dX4_init_23 rfl ?_
  refine ry_bipush (v := 40) hK dX4_init_24 (by decide) ?_
  refine ry_icmp_ge hK 50 dX4_init_26 (by decide) (fun q => absurd q (by decide)) (fun _ => ?_)
  refine ry_aload_n hK 1 rfl dX4_init_29 rfl ?_
  refine ry_get hK fl_X4_11 sh_76 (by decide) (ry_fvg (r := 77) ⟨_, rfl⟩ rfl (by decide)) dX4_init_30 ?_
  refine ry_iload_n hK 0 rfl dX4_init_33 rfl ?_
  refine ry_new hK tyX10 sh_112 rfl rfl inw_10 tyX10_ok df_10 cl_X4_9 is_10 it_10 (by decide) (by decide) dX4_init_34 ?_
  refine ry_dup hK dX4_init_37 rfl ?_
  refine ry_bipush (v := 16) hK dX4_init_38 (by decide) ?_
  refine ry_calli hK [.int 16] ml_X4_21 im_X10_init rfl mw_X10_init (cy_X10_init_112 (kl K) (kG K) _) (by decide) rfl rfl (Nat.le_of_ble_eq_true rfl) (by decide) (by decide) dX4_init_40 ?_
  refine ry_aast hK sh_77 (by decide) sh_112 (by decide) (by decide) (by decide) dX4_init_43 ?_
  refine ry_iinc (v := 12) (L' := [(1, .int 12), (0, .ref (ro_ad (kG K) 76))]) hK 0 rfl dX4_init_44 (by decide) (by decide) rfl ?_
  refine ry_goto hK 23 dX4_init_47 (by decide) ?_
  refine ry_iload_n hK 0 rfl dX4_init_23 rfl ?_
  refine ry_bipush (v := 40) hK dX4_init_24 (by decide) ?_
  refine ry_icmp_ge hK 50 dX4_init_26 (by decide) (fun q => absurd q (by decide)) (fun _ => ?_)
  refine ry_aload_n hK 1 rfl dX4_init_29 rfl ?_
  refine ry_get hK fl_X4_11 sh_76 (by decide) (ry_fvg (r := 77) ⟨_, rfl⟩ rfl (by decide)) dX4_init_30 ?_
  refine ry_iload_n hK 0 rfl dX4_init_33 rfl ?_
  refine ry_new hK tyX10 sh_115 rfl rfl inw_10 tyX10_ok df_10 cl_X4_9 is_10 it_10 (by decide) (by decide) dX4_init_34 ?_
  refine ry_dup hK dX4_init_37 rfl ?_
  refine ry_bipush (v := 16) hK dX4_init_38 (by decide) ?_
  refine ry_calli hK [.int 16] ml_X4_21 im_X10_init rfl mw_X10_init (cy_X10_init_115 (kl K) (kG K) _) (by decide) rfl rfl (Nat.le_of_ble_eq_true rfl) (by decide) (by decide) dX4_init_40 ?_
  refine ry_aast hK sh_77 (by decide) sh_115 (by decide) (by decide) (by decide) dX4_init_43 ?_
  refine ry_iinc (v := 13) (L' := [(1, .int 13), (0, .ref (ro_ad (kG K) 76))]) hK 0 rfl dX4_init_44 (by decide) (by decide) rfl ?_
  refine ry_goto hK 23 dX4_init_47 (by decide) ?_
  refine ry_iload_n hK 0 rfl dX4_init_23 rfl ?_
  refine ry_bipush (v := 40) hK dX4_init_24 (by decide) ?_
  refine ry_icmp_ge hK 50 dX4_init_26 (by decide) (fun q => absurd q (by decide)) (fun _ => ?_)
  refine ry_aload_n hK 1 rfl dX4_init_29 rfl ?_
  refine ry_get hK fl_X4_11 sh_76 (by decide) (ry_fvg (r := 77) ⟨_, rfl⟩ rfl (by decide)) dX4_init_30 ?_
  refine ry_iload_n hK 0 rfl dX4_init_33 rfl ?_
  refine ry_new hK tyX10 sh_118 rfl rfl inw_10 tyX10_ok df_10 cl_X4_9 is_10 it_10 (by decide) (by decide) dX4_init_34 ?_
  refine ry_dup hK dX4_init_37 rfl ?_
  refine ry_bipush (v := 16) hK dX4_init_38 (by decide) ?_
  refine ry_calli hK [.int 16] ml_X4_21 im_X10_init rfl mw_X10_init (cy_X10_init_118 (kl K) (kG K) _) (by decide) rfl rfl (Nat.le_of_ble_eq_true rfl) (by decide) (by decide) dX4_init_40 ?_
  refine ry_aast hK sh_77 (by decide) sh_118 (by decide) (by decide) (by decide) dX4_init_43 ?_
  refine ry_iinc (v := 14) (L' := [(1, .int 14), (0, .ref (ro_ad (kG K) 76))]) hK 0 rfl dX4_init_44 (by decide) (by decide) rfl ?_
  refine ry_goto hK 23 dX4_init_47 (by decide) ?_
  refine ry_iload_n hK 0 rfl dX4_init_23 rfl ?_
  refine ry_bipush (v := 40) hK dX4_init_24 (by decide) ?_
  refine ry_icmp_ge hK 50 dX4_init_26 (by decide) (fun q => absurd q (by decide)) (fun _ => ?_)
  refine ry_aload_n hK 1 rfl dX4_init_29 rfl ?_
  refine ry_get hK fl_X4_11 sh_76 (by decide) (ry_fvg (r := 77) ⟨_, rfl⟩ rfl (by decide)) dX4_init_30 ?_
  refine ry_iload_n hK 0 rfl dX4_init_33 rfl ?_
  refine ry_new hK tyX10 sh_121 rfl rfl inw_10 tyX10_ok df_10 cl_X4_9 is_10 it_10 (by decide) (by decide) dX4_init_34 ?_
  refine ry_dup hK dX4_init_37 rfl ?_
  refine ry_bipush (v := 16) hK dX4_init_38 (by decide) ?_
  refine ry_calli hK [.int 16] ml_X4_21 im_X10_init rfl mw_X10_init (cy_X10_init_121 (kl K) (kG K) _) (by decide) rfl rfl (Nat.le_of_ble_eq_true rfl) (by decide) (by decide) dX4_init_40 ?_
  refine ry_aast hK sh_77 (by decide) sh_121 (by decide) (by decide) (by decide) dX4_init_43 ?_
  refine ry_iinc (v := 15) (L' := [(1, .int 15), (0, .ref (ro_ad (kG K) 76))]) hK 0 rfl dX4_init_44 (by decide) (by decide) rfl ?_
  refine ry_goto hK 23 dX4_init_47 (by decide) ?_
  refine ry_iload_n hK 0 rfl dX4_init_23 rfl ?_
  refine ry_bipush (v := 40) hK dX4_init_24 (by decide) ?_
  refine ry_icmp_ge hK 50 dX4_init_26 (by decide) (fun q => absurd q (by decide)) (fun _ => ?_)
  refine ry_aload_n hK 1 rfl dX4_init_29 rfl ?_
  refine ry_get hK fl_X4_11 sh_76 (by decide) (ry_fvg (r := 77) ⟨_, rfl⟩ rfl (by decide)) dX4_init_30 ?_
  refine ry_iload_n hK 0 rfl dX4_init_33 rfl ?_
  refine ry_new hK tyX10 sh_124 rfl rfl inw_10 tyX10_ok df_10 cl_X4_9 is_10 it_10 (by decide) (by decide) dX4_init_34 ?_
  refine ry_dup hK dX4_init_37 rfl ?_
  refine ry_bipush (v := 16) hK dX4_init_38 (by decide) ?_
  refine ry_calli hK [.int 16] ml_X4_21 im_X10_init rfl mw_X10_init (cy_X10_init_124 (kl K) (kG K) _) (by decide) rfl rfl (Nat.le_of_ble_eq_true rfl) (by decide) (by decide) dX4_init_40 ?_
  refine ry_aast hK sh_77 (by decide) sh_124 (by decide) (by decide) (by decide) dX4_init_43 ?_
  refine ry_iinc (v := 16) (L' := [(1, .int 16), (0, .ref (ro_ad (kG K) 76))]) hK 0 rfl dX4_init_44 (by decide) (by decide) rfl ?_
  refine ry_goto hK 23 dX4_init_47 (by decide) ?_
  refine ry_iload_n hK 0 rfl dX4_init_23 rfl ?_
  refine ry_bipush (v := 40) hK dX4_init_24 (by decide) ?_
  refine ry_icmp_ge hK 50 dX4_init_26 (by decide) (fun q => absurd q (by decide)) (fun _ => ?_)
  refine ry_aload_n hK 1 rfl dX4_init_29 rfl ?_
  refine ry_get hK fl_X4_11 sh_76 (by decide) (ry_fvg (r := 77) ⟨_, rfl⟩ rfl (by decide)) dX4_init_30 ?_
  refine ry_iload_n hK 0 rfl dX4_init_33 rfl ?_
  refine ry_new hK tyX10 sh_127 rfl rfl inw_10 tyX10_ok df_10 cl_X4_9 is_10 it_10 (by decide) (by decide) dX4_init_34 ?_
  refine ry_dup hK dX4_init_37 rfl ?_
  refine ry_bipush (v := 16) hK dX4_init_38 (by decide) ?_
  refine ry_calli hK [.int 16] ml_X4_21 im_X10_init rfl mw_X10_init (cy_X10_init_127 (kl K) (kG K) _) (by decide) rfl rfl (Nat.le_of_ble_eq_true rfl) (by decide) (by decide) dX4_init_40 ?_
  refine ry_aast hK sh_77 (by decide) sh_127 (by decide) (by decide) (by decide) dX4_init_43 ?_
  refine ry_iinc (v := 17) (L' := [(1, .int 17), (0, .ref (ro_ad (kG K) 76))]) hK 0 rfl dX4_init_44 (by decide) (by decide) rfl ?_
  refine ry_goto hK 23 dX4_init_47 (by decide) ?_
  refine ry_iload_n hK 0 rfl dX4_init_23 rfl ?_
  refine ry_bipush (v := 40) hK dX4_init_24 (by decide) ?_
  refine ry_icmp_ge hK 50 dX4_init_26 (by decide) (fun q => absurd q (by decide)) (fun _ => ?_)
  refine ry_aload_n hK 1 rfl dX4_init_29 rfl ?_
  refine ry_get hK fl_X4_11 sh_76 (by decide) (ry_fvg (r := 77) ⟨_, rfl⟩ rfl (by decide)) dX4_init_30 ?_
  refine ry_iload_n hK 0 rfl dX4_init_33 rfl ?_
  refine ry_new hK tyX10 sh_130 rfl rfl inw_10 tyX10_ok df_10 cl_X4_9 is_10 it_10 (by decide) (by decide) dX4_init_34 ?_
  refine ry_dup hK dX4_init_37 rfl ?_
  refine ry_bipush (v := 16) hK dX4_init_38 (by decide) ?_
  refine ry_calli hK [.int 16] ml_X4_21 im_X10_init rfl mw_X10_init (cy_X10_init_130 (kl K) (kG K) _) (by decide) rfl rfl (Nat.le_of_ble_eq_true rfl) (by decide) (by decide) dX4_init_40 ?_
  refine ry_aast hK sh_77 (by decide) sh_130 (by decide) (by decide) (by decide) dX4_init_43 ?_
  refine ry_iinc (v := 18) (L' := [(1, .int 18), (0, .ref (ro_ad (kG K) 76))]) hK 0 rfl dX4_init_44 (by decide) (by decide) rfl ?_
  refine ry_goto hK 23 dX4_init_47 (by decide) ?_
  refine ry_iload_n hK 0 rfl dX4_init_23 rfl ?_
  refine ry_bipush (v := 40) hK dX4_init_24 (by decide) ?_
  refine ry_icmp_ge hK 50 dX4_init_26 (by decide) (fun q => absurd q (by decide)) (fun _ => ?_)
  refine ry_aload_n hK 1 rfl dX4_init_29 rfl ?_
  refine ry_get hK fl_X4_11 sh_76 (by decide) (ry_fvg (r := 77) ⟨_, rfl⟩ rfl (by decide)) dX4_init_30 ?_
  refine ry_iload_n hK 0 rfl dX4_init_33 rfl ?_
  refine ry_new hK tyX10 sh_133 rfl rfl inw_10 tyX10_ok df_10 cl_X4_9 is_10 it_10 (by decide) (by decide) dX4_init_34 ?_
  refine ry_dup hK dX4_init_37 rfl ?_
  refine ry_bipush (v := 16) hK dX4_init_38 (by decide) ?_
  refine ry_calli hK [.int 16] ml_X4_21 im_X10_init rfl mw_X10_init (cy_X10_init_133 (kl K) (kG K) _) (by decide) rfl rfl (Nat.le_of_ble_eq_true rfl) (by decide) (by decide) dX4_init_40 ?_
  refine ry_aast hK sh_77 (by decide) sh_133 (by decide) (by decide) (by decide) dX4_init_43 ?_
  refine ry_iinc (v := 19) (L' := [(1, .int 19), (0, .ref (ro_ad (kG K) 76))]) hK 0 rfl dX4_init_44 (by decide) (by decide) rfl ?_
  refine ry_goto hK 23 dX4_init_47 (by decide) ?_
  refine ry_iload_n hK 0 rfl dX4_init_23 rfl ?_
  refine ry_bipush (v := 40) hK dX4_init_24 (by decide) ?_
  refine ry_icmp_ge hK 50 dX4_init_26 (by decide) (fun q => absurd q (by decide)) (fun _ => ?_)
  refine ry_aload_n hK 1 rfl dX4_init_29 rfl ?_
  refine ry_get hK fl_X4_11 sh_76 (by decide) (ry_fvg (r := 77) ⟨_, rfl⟩ rfl (by decide)) dX4_init_30 ?_
  refine ry_iload_n hK 0 rfl dX4_init_33 rfl ?_
  refine ry_new hK tyX10 sh_136 rfl rfl inw_10 tyX10_ok df_10 cl_X4_9 is_10 it_10 (by decide) (by decide) dX4_init_34 ?_
  refine ry_dup hK dX4_init_37 rfl ?_
  refine ry_bipush (v := 16) hK dX4_init_38 (by decide) ?_
  refine ry_calli hK [.int 16] ml_X4_21 im_X10_init rfl mw_X10_init (cy_X10_init_136 (kl K) (kG K) _) (by decide) rfl rfl (Nat.le_of_ble_eq_true rfl) (by decide) (by decide) dX4_init_40 ?_
  refine ry_aast hK sh_77 (by decide) sh_136 (by decide) (by decide) (by decide) dX4_init_43 ?_
  refine ry_iinc (v := 20) (L' := [(1, .int 20), (0, .ref (ro_ad (kG K) 76))]) hK 0 rfl dX4_init_44 (by decide) (by decide) rfl ?_
  refine ry_goto hK 23 dX4_init_47 (by decide) ?_
  refine ry_iload_n hK 0 rfl dX4_init_23 rfl ?_
  refine ry_bipush (v := 40) hK dX4_init_24 (by decide) ?_
  refine ry_icmp_ge hK 50 dX4_init_26 (by decide) (fun q => absurd q (by decide)) (fun _ => ?_)
  refine ry_aload_n hK 1 rfl dX4_init_29 rfl ?_
  refine ry_get hK fl_X4_11 sh_76 (by decide) (ry_fvg (r := 77) ⟨_, rfl⟩ rfl (by decide)) dX4_init_30 ?_
  refine ry_iload_n hK 0 rfl dX4_init_33 rfl ?_
  refine ry_new hK tyX10 sh_139 rfl rfl inw_10 tyX10_ok df_10 cl_X4_9 is_10 it_10 (by decide) (by decide) dX4_init_34 ?_
  refine ry_dup hK dX4_init_37 rfl ?_
  refine ry_bipush (v := 16) hK dX4_init_38 (by decide) ?_
  refine ry_calli hK [.int 16] ml_X4_21 im_X10_init rfl mw_X10_init (cy_X10_init_139 (kl K) (kG K) _) (by decide) rfl rfl (Nat.le_of_ble_eq_true rfl) (by decide) (by decide) dX4_init_40 ?_
  refine ry_aast hK sh_77 (by decide) sh_139 (by decide) (by decide) (by decide) dX4_init_43 ?_
  refine ry_iinc (v := 21) (L' := [(1, .int 21), (0, .ref (ro_ad (kG K) 76))]) hK 0 rfl dX4_init_44 (by decide) (by decide) rfl ?_
  refine ry_goto hK 23 dX4_init_47 (by decide) ?_
  refine ry_iload_n hK 0 rfl dX4_init_23 rfl ?_
  refine ry_bipush (v := 40) hK dX4_init_24 (by decide) ?_
  refine ry_icmp_ge hK 50 dX4_init_26 (by decide) (fun q => absurd q (by decide)) (fun _ => ?_)
  refine ry_aload_n hK 1 rfl dX4_init_29 rfl ?_
  refine ry_get hK fl_X4_11 sh_76 (by decide) (ry_fvg (r := 77) ⟨_, rfl⟩ rfl (by decide)) dX4_init_30 ?_
  refine ry_iload_n hK 0 rfl dX4_init_33 rfl ?_
  refine ry_new hK tyX10 sh_142 rfl rfl inw_10 tyX10_ok df_10 cl_X4_9 is_10 it_10 (by decide) (by decide) dX4_init_34 ?_
  refine ry_dup hK dX4_init_37 rfl ?_
  refine ry_bipush (v := 16) hK dX4_init_38 (by decide) ?_
  refine ry_calli hK [.int 16] ml_X4_21 im_X10_init rfl mw_X10_init (cy_X10_init_142 (kl K) (kG K) _) (by decide) rfl rfl (Nat.le_of_ble_eq_true rfl) (by decide) (by decide) dX4_init_40 ?_
  refine ry_aast hK sh_77 (by decide) sh_142 (by decide) (by decide) (by decide) dX4_init_43 ?_
  refine ry_iinc (v := 22) (L' := [(1, .int 22), (0, .ref (ro_ad (kG K) 76))]) hK 0 rfl dX4_init_44 (by decide) (by decide) rfl ?_
  refine ry_goto hK 23 dX4_init_47 (by decide) ?_
  refine ry_iload_n hK 0 rfl dX4_init_23 rfl ?_
  refine ry_bipush (v := 40) hK dX4_init_24 (by decide) ?_
  refine ry_icmp_ge hK 50 dX4_init_26 (by decide) (fun q => absurd q (by decide)) (fun _ => ?_)
  refine ry_aload_n hK 1 rfl dX4_init_29 rfl ?_
  refine ry_get hK fl_X4_11 sh_76 (by decide) (ry_fvg (r := 77) ⟨_, rfl⟩ rfl (by decide)) dX4_init_30 ?_
  refine ry_iload_n hK 0 rfl dX4_init_33 rfl ?_
  refine ry_new hK tyX10 sh_145 rfl rfl inw_10 tyX10_ok df_10 cl_X4_9 is_10 it_10 (by decide) (by decide) dX4_init_34 ?_
  refine ry_dup hK dX4_init_37 rfl ?_
  refine ry_bipush (v := 16) hK dX4_init_38 (by decide) ?_
  refine ry_calli hK [.int 16] ml_X4_21 im_X10_init rfl mw_X10_init (cy_X10_init_145 (kl K) (kG K) _) (by decide) rfl rfl (Nat.le_of_ble_eq_true rfl) (by decide) (by decide) dX4_init_40 ?_
  refine ry_aast hK sh_77 (by decide) sh_145 (by decide) (by decide) (by decide) dX4_init_43 ?_
  refine ry_iinc (v := 23) (L' := [(1, .int 23), (0, .ref (ro_ad (kG K) 76))]) hK 0 rfl dX4_init_44 (by decide) (by decide) rfl ?_
  refine ry_goto hK 23 dX4_init_47 (by decide) ?_
  refine ry_iload_n hK 0 rfl dX4_init_23 rfl ?_
  refine ry_bipush (v := 40) hK dX4_init_24 (by decide) ?_
  refine ry_icmp_ge hK 50 dX4_init_26 (by decide) (fun q => absurd q (by decide)) (fun _ => ?_)
  refine ry_aload_n hK 1 rfl dX4_init_29 rfl ?_
  refine ry_get hK fl_X4_11 sh_76 (by decide) (ry_fvg (r := 77) ⟨_, rfl⟩ rfl (by decide)) dX4_init_30 ?_
  refine ry_iload_n hK 0 rfl dX4_init_33 rfl ?_
  refine ry_new hK tyX10 sh_148 rfl rfl inw_10 tyX10_ok df_10 cl_X4_9 is_10 it_10 (by decide) (by decide) dX4_init_34 ?_
  refine ry_dup hK dX4_init_37 rfl ?_
  refine ry_bipush (v := 16) hK dX4_init_38 (by decide) ?_
  refine ry_calli hK [.int 16] ml_X4_21 im_X10_init rfl mw_X10_init (cy_X10_init_148 (kl K) (kG K) _) (by decide) rfl rfl (Nat.le_of_ble_eq_true rfl) (by decide) (by decide) dX4_init_40 ?_
  refine ry_aast hK sh_77 (by decide) sh_148 (by decide) (by decide) (by decide) dX4_init_43 ?_
  refine ry_iinc (v := 24) (L' := [(1, .int 24), (0, .ref (ro_ad (kG K) 76))]) hK 0 rfl dX4_init_44 (by decide) (by decide) rfl ?_
  refine ry_goto hK 23 dX4_init_47 (by decide) ?_
  refine ry_iload_n hK 0 rfl dX4_init_23 rfl ?_
  refine ry_bipush (v := 40) hK dX4_init_24 (by decide) ?_
  refine ry_icmp_ge hK 50 dX4_init_26 (by decide) (fun q => absurd q (by decide)) (fun _ => ?_)
  refine ry_aload_n hK 1 rfl dX4_init_29 rfl ?_
  refine ry_get hK fl_X4_11 sh_76 (by decide) (ry_fvg (r := 77) ⟨_, rfl⟩ rfl (by decide)) dX4_init_30 ?_
  refine ry_iload_n hK 0 rfl dX4_init_33 rfl ?_
  refine ry_new hK tyX10 sh_151 rfl rfl inw_10 tyX10_ok df_10 cl_X4_9 is_10 it_10 (by decide) (by decide) dX4_init_34 ?_
  refine ry_dup hK dX4_init_37 rfl ?_
  refine ry_bipush (v := 16) hK dX4_init_38 (by decide) ?_
  refine ry_calli hK [.int 16] ml_X4_21 im_X10_init rfl mw_X10_init (cy_X10_init_151 (kl K) (kG K) _) (by decide) rfl rfl (Nat.le_of_ble_eq_true rfl) (by decide) (by decide) dX4_init_40 ?_
  refine ry_aast hK sh_77 (by decide) sh_151 (by decide) (by decide) (by decide) dX4_init_43 ?_
  refine ry_iinc (v := 25) (L' := [(1, .int 25), (0, .ref (ro_ad (kG K) 76))]) hK 0 rfl dX4_init_44 (by decide) (by decide) rfl ?_
  refine ry_goto hK 23 dX4_init_47 (by decide) ?_
  refine ry_iload_n hK 0 rfl dX4_init_23 rfl ?_
  refine ry_bipush (v := 40) hK dX4_init_24 (by decide) ?_
  refine ry_icmp_ge hK 50 dX4_init_26 (by decide) (fun q => absurd q (by decide)) (fun _ => ?_)
  refine ry_aload_n hK 1 rfl dX4_init_29 rfl ?_
  refine ry_get hK fl_X4_11 sh_76 (by decide) (ry_fvg (r := 77) ⟨_, rfl⟩ rfl (by decide)) dX4_init_30 ?_
  refine ry_iload_n hK 0 rfl dX4_init_33 rfl ?_
  refine ry_new hK tyX10 sh_154 rfl rfl inw_10 tyX10_ok df_10 cl_X4_9 is_10 it_10 (by decide) (by decide) dX4_init_34 ?_
  refine ry_dup hK dX4_init_37 rfl ?_
  refine ry_bipush (v := 16) hK dX4_init_38 (by decide) ?_
  refine ry_calli hK [.int 16] ml_X4_21 im_X10_init rfl mw_X10_init (cy_X10_init_154 (kl K) (kG K) _) (by decide) rfl rfl (Nat.le_of_ble_eq_true rfl) (by decide) (by decide) dX4_init_40 ?_
  refine ry_aast hK sh_77 (by decide) sh_154 (by decide) (by decide) (by decide) dX4_init_43 ?_
  refine ry_iinc (v := 26) (L' := [(1, .int 26), (0, .ref (ro_ad (kG K) 76))]) hK 0 rfl dX4_init_44 (by decide) (by decide) rfl ?_
  refine ry_goto hK 23 dX4_init_47 (by decide) ?_
  refine ry_iload_n hK 0 rfl dX4_init_23 rfl ?_
  refine ry_bipush (v := 40) hK dX4_init_24 (by decide) ?_
  refine ry_icmp_ge hK 50 dX4_init_26 (by decide) (fun q => absurd q (by decide)) (fun _ => ?_)
  refine ry_aload_n hK 1 rfl dX4_init_29 rfl ?_
  refine ry_get hK fl_X4_11 sh_76 (by decide) (ry_fvg (r := 77) ⟨_, rfl⟩ rfl (by decide)) dX4_init_30 ?_
  refine ry_iload_n hK 0 rfl dX4_init_33 rfl ?_
  refine ry_new hK tyX10 sh_157 rfl rfl inw_10 tyX10_ok df_10 cl_X4_9 is_10 it_10 (by decide) (by decide) dX4_init_34 ?_
  refine ry_dup hK dX4_init_37 rfl ?_
  refine ry_bipush (v := 16) hK dX4_init_38 (by decide) ?_
  refine ry_calli hK [.int 16] ml_X4_21 im_X10_init rfl mw_X10_init (cy_X10_init_157 (kl K) (kG K) _) (by decide) rfl rfl (Nat.le_of_ble_eq_true rfl) (by decide) (by decide) dX4_init_40 ?_
  refine ry_aast hK sh_77 (by decide) sh_157 (by decide) (by decide) (by decide) dX4_init_43 ?_
  refine ry_iinc (v := 27) (L' := [(1, .int 27), (0, .ref (ro_ad (kG K) 76))]) hK 0 rfl dX4_init_44 (by decide) (by decide) rfl ?_
  refine ry_goto hK 23 dX4_init_47 (by decide) ?_
  refine ry_iload_n hK 0 rfl dX4_init_23 rfl ?_
  refine ry_bipush (v := 40) hK dX4_init_24 (by decide) ?_
  refine ry_icmp_ge hK 50 dX4_init_26 (by decide) (fun q => absurd q (by decide)) (fun _ => ?_)
  refine ry_aload_n hK 1 rfl dX4_init_29 rfl ?_
  refine ry_get hK fl_X4_11 sh_76 (by decide) (ry_fvg (r := 77) ⟨_, rfl⟩ rfl (by decide)) dX4_init_30 ?_
  refine ry_iload_n hK 0 rfl dX4_init_33 rfl ?_
  refine ry_new hK tyX10 sh_160 rfl rfl inw_10 tyX10_ok df_10 cl_X4_9 is_10 it_10 (by decide) (by decide) dX4_init_34 ?_
  refine ry_dup hK dX4_init_37 rfl ?_
  refine ry_bipush (v := 16) hK dX4_init_38 (by decide) ?_
  refine ry_calli hK [.int 16] ml_X4_21 im_X10_init rfl mw_X10_init (cy_X10_init_160 (kl K) (kG K) _) (by decide) rfl rfl (Nat.le_of_ble_eq_true rfl) (by decide) (by decide) dX4_init_40 ?_
  refine ry_aast hK sh_77 (by decide) sh_160 (by decide) (by decide) (by decide) dX4_init_43 ?_
  refine ry_iinc (v := 28) (L' := [(1, .int 28), (0, .ref (ro_ad (kG K) 76))]) hK 0 rfl dX4_init_44 (by decide) (by decide) rfl ?_
  refine ry_goto hK 23 dX4_init_47 (by decide) ?_
  refine ry_iload_n hK 0 rfl dX4_init_23 rfl ?_
  refine ry_bipush (v := 40) hK dX4_init_24 (by decide) ?_
  refine ry_icmp_ge hK 50 dX4_init_26 (by decide) (fun q => absurd q (by decide)) (fun _ => ?_)
  refine ry_aload_n hK 1 rfl dX4_init_29 rfl ?_
  refine ry_get hK fl_X4_11 sh_76 (by decide) (ry_fvg (r := 77) ⟨_, rfl⟩ rfl (by decide)) dX4_init_30 ?_
  refine ry_iload_n hK 0 rfl dX4_init_33 rfl ?_
  refine ry_new hK tyX10 sh_163 rfl rfl inw_10 tyX10_ok df_10 cl_X4_9 is_10 it_10 (by decide) (by decide) dX4_init_34 ?_
  refine ry_dup hK dX4_init_37 rfl ?_
  refine ry_bipush (v := 16) hK dX4_init_38 (by decide) ?_
  refine ry_calli hK [.int 16] ml_X4_21 im_X10_init rfl mw_X10_init (cy_X10_init_163 (kl K) (kG K) _) (by decide) rfl rfl (Nat.le_of_ble_eq_true rfl) (by decide) (by decide) dX4_init_40 ?_
  refine ry_aast hK sh_77 (by decide) sh_163 (by decide) (by decide) (by decide) dX4_init_43 ?_
  refine ry_iinc (v := 29) (L' := [(1, .int 29), (0, .ref (ro_ad (kG K) 76))]) hK 0 rfl dX4_init_44 (by decide) (by decide) rfl ?_
  refine ry_goto hK 23 dX4_init_47 (by decide) ?_
  refine ry_iload_n hK 0 rfl dX4_init_23 rfl ?_
  refine ry_bipush (v := 40) hK dX4_init_24 (by decide) ?_
  refine ry_icmp_ge hK 50 dX4_init_26 (by decide) (fun q => absurd q (by decide)) (fun _ => ?_)
  refine ry_aload_n hK 1 rfl dX4_init_29 rfl ?_
  refine ry_get hK fl_X4_11 sh_76 (by decide) (ry_fvg (r := 77) ⟨_, rfl⟩ rfl (by decide)) dX4_init_30 ?_
  refine ry_iload_n hK 0 rfl dX4_init_33 rfl ?_
  refine ry_new hK tyX10 sh_166 rfl rfl inw_10 tyX10_ok df_10 cl_X4_9 is_10 it_10 (by decide) (by decide) dX4_init_34 ?_
  refine ry_dup hK dX4_init_37 rfl ?_
  refine ry_bipush (v := 16) hK dX4_init_38 (by decide) ?_
  refine ry_calli hK [.int 16] ml_X4_21 im_X10_init rfl mw_X10_init (cy_X10_init_166 (kl K) (kG K) _) (by decide) rfl rfl (Nat.le_of_ble_eq_true rfl) (by decide) (by decide) dX4_init_40 ?_
  refine ry_aast hK sh_77 (by decide) sh_166 (by decide) (by decide) (by decide) dX4_init_43 ?_
  refine ry_iinc (v := 30) (L' := [(1, .int 30), (0, .ref (ro_ad (kG K) 76))]) hK 0 rfl dX4_init_44 (by decide) (by decide) rfl ?_
  refine ry_goto hK 23 dX4_init_47 (by decide) ?_
  refine ry_iload_n hK 0 rfl dX4_init_23 rfl ?_
  refine ry_bipush (v := 40) hK dX4_init_24 (by decide) ?_
  refine ry_icmp_ge hK 50 dX4_init_26 (by decide) (fun q => absurd q (by decide)) (fun _ => ?_)
  refine ry_aload_n hK 1 rfl dX4_init_29 rfl ?_
  refine ry_get hK fl_X4_11 sh_76 (by decide) (ry_fvg (r := 77) ⟨_, rfl⟩ rfl (by decide)) dX4_init_30 ?_
  refine ry_iload_n hK 0 rfl dX4_init_33 rfl ?_
  refine ry_new hK tyX10 sh_169 rfl rfl inw_10 tyX10_ok df_10 cl_X4_9 is_10 it_10 (by decide) (by decide) dX4_init_34 ?_
  refine ry_dup hK dX4_init_37 rfl ?_
  refine ry_bipush (v := 16) hK dX4_init_38 (by decide) ?_
  refine ry_calli hK [.int 16] ml_X4_21 im_X10_init rfl mw_X10_init (cy_X10_init_169 (kl K) (kG K) _) (by decide) rfl rfl (Nat.le_of_ble_eq_true rfl) (by decide) (by decide) dX4_init_40 ?_
  refine ry_aast hK sh_77 (by decide) sh_169 (by decide) (by decide) (by decide) dX4_init_43 ?_
  refine ry_iinc (v := 31) (L' := [(1, .int 31), (0, .ref (ro_ad (kG K) 76))]) hK 0 rfl dX4_init_44 (by decide) (by decide) rfl ?_
  refine ry_goto hK 23 dX4_init_47 (by decide) ?_
  refine ry_iload_n hK 0 rfl dX4_init_23 rfl ?_
  refine ry_bipush (v := 40) hK dX4_init_24 (by decide) ?_
  refine ry_icmp_ge hK 50 dX4_init_26 (by decide) (fun q => absurd q (by decide)) (fun _ => ?_)
  refine ry_aload_n hK 1 rfl dX4_init_29 rfl ?_
  refine ry_get hK fl_X4_11 sh_76 (by decide) (ry_fvg (r := 77) ⟨_, rfl⟩ rfl (by decide)) dX4_init_30 ?_
  refine ry_iload_n hK 0 rfl dX4_init_33 rfl ?_
  refine ry_new hK tyX10 sh_172 rfl rfl inw_10 tyX10_ok df_10 cl_X4_9 is_10 it_10 (by decide) (by decide) dX4_init_34 ?_
  refine ry_dup hK dX4_init_37 rfl ?_
  refine ry_bipush (v := 16) hK dX4_init_38 (by decide) ?_
  refine ry_calli hK [.int 16] ml_X4_21 im_X10_init rfl mw_X10_init (cy_X10_init_172 (kl K) (kG K) _) (by decide) rfl rfl (Nat.le_of_ble_eq_true rfl) (by decide) (by decide) dX4_init_40 ?_
  refine ry_aast hK sh_77 (by decide) sh_172 (by decide) (by decide) (by decide) dX4_init_43 ?_
  refine ry_iinc (v := 32) (L' := [(1, .int 32), (0, .ref (ro_ad (kG K) 76))]) hK 0 rfl dX4_init_44 (by decide) (by decide) rfl ?_
  refine ry_goto hK 23 dX4_init_47 (by decide) ?_
  refine ry_iload_n hK 0 rfl dX4_init_23 rfl ?_
  refine ry_bipush (v := 40) hK dX4_init_24 (by decide) ?_
  refine ry_icmp_ge hK 50 dX4_init_26 (by decide) (fun q => absurd q (by decide)) (fun _ => ?_)
  refine ry_aload_n hK 1 rfl dX4_init_29 rfl ?_
  refine ry_get hK fl_X4_11 sh_76 (by decide) (ry_fvg (r := 77) ⟨_, rfl⟩ rfl (by decide)) dX4_init_30 ?_
  refine ry_iload_n hK 0 rfl dX4_init_33 rfl ?_
  refine ry_new hK tyX10 sh_175 rfl rfl inw_10 tyX10_ok df_10 cl_X4_9 is_10 it_10 (by decide) (by decide) dX4_init_34 ?_
  refine ry_dup hK dX4_init_37 rfl ?_
  refine ry_bipush (v := 16) hK dX4_init_38 (by decide) ?_
  refine ry_calli hK [.int 16] ml_X4_21 im_X10_init rfl mw_X10_init (cy_X10_init_175 (kl K) (kG K) _) (by decide) rfl rfl (Nat.le_of_ble_eq_true rfl) (by decide) (by decide) dX4_init_40 ?_
  refine ry_aast hK sh_77 (by decide) sh_175 (by decide) (by decide) (by decide) dX4_init_43 ?_
  refine ry_iinc (v := 33) (L' := [(1, .int 33), (0, .ref (ro_ad (kG K) 76))]) hK 0 rfl dX4_init_44 (by decide) (by decide) rfl ?_
  refine ry_goto hK 23 dX4_init_47 (by decide) ?_
  refine ry_iload_n hK 0 rfl dX4_init_23 rfl ?_
  refine ry_bipush (v := 40) hK dX4_init_24 (by decide) ?_
  refine ry_icmp_ge hK 50 dX4_init_26 (by decide) (fun q => absurd q (by decide)) (fun _ => ?_)
  refine ry_aload_n hK 1 rfl dX4_init_29 rfl ?_
  refine ry_get hK fl_X4_11 sh_76 (by decide) (ry_fvg (r := 77) ⟨_, rfl⟩ rfl (by decide)) dX4_init_30 ?_
  refine ry_iload_n hK 0 rfl dX4_init_33 rfl ?_
  refine ry_new hK tyX10 sh_178 rfl rfl inw_10 tyX10_ok df_10 cl_X4_9 is_10 it_10 (by decide) (by decide) dX4_init_34 ?_
  refine ry_dup hK dX4_init_37 rfl ?_
  refine ry_bipush (v := 16) hK dX4_init_38 (by decide) ?_
  refine ry_calli hK [.int 16] ml_X4_21 im_X10_init rfl mw_X10_init (cy_X10_init_178 (kl K) (kG K) _) (by decide) rfl rfl (Nat.le_of_ble_eq_true rfl) (by decide) (by decide) dX4_init_40 ?_
  refine ry_aast hK sh_77 (by decide) sh_178 (by decide) (by decide) (by decide) dX4_init_43 ?_
  refine ry_iinc (v := 34) (L' := [(1, .int 34), (0, .ref (ro_ad (kG K) 76))]) hK 0 rfl dX4_init_44 (by decide) (by decide) rfl ?_
  refine ry_goto hK 23 dX4_init_47 (by decide) ?_
  refine ry_iload_n hK 0 rfl dX4_init_23 rfl ?_
  refine ry_bipush (v := 40) hK dX4_init_24 (by decide) ?_
  refine ry_icmp_ge hK 50 dX4_init_26 (by decide) (fun q => absurd q (by decide)) (fun _ => ?_)
  refine ry_aload_n hK 1 rfl dX4_init_29 rfl ?_
  refine ry_get hK fl_X4_11 sh_76 (by decide) (ry_fvg (r := 77) ⟨_, rfl⟩ rfl (by decide)) dX4_init_30 ?_
  refine ry_iload_n hK 0 rfl dX4_init_33 rfl ?_
  refine ry_new hK tyX10 sh_181 rfl rfl inw_10 tyX10_ok df_10 cl_X4_9 is_10 it_10 (by decide) (by decide) dX4_init_34 ?_
  refine ry_dup hK dX4_init_37 rfl ?_
  refine ry_bipush (v := 16) hK dX4_init_38 (by decide) ?_
  refine ry_calli hK [.int 16] ml_X4_21 im_X10_init rfl mw_X10_init (cy_X10_init_181 (kl K) (kG K) _) (by decide) rfl rfl (Nat.le_of_ble_eq_true rfl) (by decide) (by decide) dX4_init_40 ?_
  refine ry_aast hK sh_77 (by decide) sh_181 (by decide) (by decide) (by decide) dX4_init_43 ?_
  refine ry_iinc (v := 35) (L' := [(1, .int 35), (0, .ref (ro_ad (kG K) 76))]) hK 0 rfl dX4_init_44 (by decide) (by decide) rfl ?_
  refine ry_goto hK 23 dX4_init_47 (by decide) ?_
  refine ry_iload_n hK 0 rfl dX4_init_23 rfl ?_
  refine ry_bipush (v := 40) hK dX4_init_24 (by decide) ?_
  refine ry_icmp_ge hK 50 dX4_init_26 (by decide) (fun q => absurd q (by decide)) (fun _ => ?_)
  refine ry_aload_n hK 1 rfl dX4_init_29 rfl ?_
  refine ry_get hK fl_X4_11 sh_76 (by decide) (ry_fvg (r := 77) ⟨_, rfl⟩ rfl (by decide)) dX4_init_30 ?_
  refine ry_iload_n hK 0 rfl dX4_init_33 rfl ?_
  refine ry_new hK tyX10 sh_184 rfl rfl inw_10 tyX10_ok df_10 cl_X4_9 is_10 it_10 (by decide) (by decide) dX4_init_34 ?_
  refine ry_dup hK dX4_init_37 rfl ?_
  refine ry_bipush (v := 16) hK dX4_init_38 (by decide) ?_
  refine ry_calli hK [.int 16] ml_X4_21 im_X10_init rfl mw_X10_init (cy_X10_init_184 (kl K) (kG K) _) (by decide) rfl rfl (Nat.le_of_ble_eq_true rfl) (by decide) (by decide) dX4_init_40 ?_
  refine ry_aast hK sh_77 (by decide) sh_184 (by decide) (by decide) (by decide) dX4_init_43 ?_
  refine ry_iinc (v := 36) (L' := [(1, .int 36), (0, .ref (ro_ad (kG K) 76))]) hK 0 rfl dX4_init_44 (by decide) (by decide) rfl ?_
  refine ry_goto hK 23 dX4_init_47 (by decide) ?_
  refine ry_iload_n hK 0 rfl dX4_init_23 rfl ?_
  refine ry_bipush (v := 40) hK dX4_init_24 (by decide) ?_
  refine ry_icmp_ge hK 50 dX4_init_26 (by decide) (fun q => absurd q (by decide)) (fun _ => ?_)
  refine ry_aload_n hK 1 rfl dX4_init_29 rfl ?_
  refine ry_get hK fl_X4_11 sh_76 (by decide) (ry_fvg (r := 77) ⟨_, rfl⟩ rfl (by decide)) dX4_init_30 ?_
  refine ry_iload_n hK 0 rfl dX4_init_33 rfl ?_
  refine ry_new hK tyX10 sh_187 rfl rfl inw_10 tyX10_ok df_10 cl_X4_9 is_10 it_10 (by decide) (by decide) dX4_init_34 ?_
  refine ry_dup hK dX4_init_37 rfl ?_
  refine ry_bipush (v := 16) hK dX4_init_38 (by decide) ?_
  refine ry_calli hK [.int 16] ml_X4_21 im_X10_init rfl mw_X10_init (cy_X10_init_187 (kl K) (kG K) _) (by decide) rfl rfl (Nat.le_of_ble_eq_true rfl) (by decide) (by decide) dX4_init_40 ?_
  refine ry_aast hK sh_77 (by decide) sh_187 (by decide) (by decide) (by decide) dX4_init_43 ?_
  refine ry_iinc (v := 37) (L' := [(1, .int 37), (0, .ref (ro_ad (kG K) 76))]) hK 0 rfl dX4_init_44 (by decide) (by decide) rfl ?_
  refine ry_goto hK 23 dX4_init_47 (by decide) ?_
  refine ry_iload_n hK 0 rfl dX4_init_23 rfl ?_
  refine ry_bipush (v := 40) hK dX4_init_24 (by decide) ?_
  refine ry_icmp_ge hK 50 dX4_init_26 (by decide) (fun q => absurd q (by decide)) (fun _ => ?_)
  refine ry_aload_n hK 1 rfl dX4_init_29 rfl ?_
  refine ry_get hK fl_X4_11 sh_76 (by decide) (ry_fvg (r := 77) ⟨_, rfl⟩ rfl (by decide)) dX4_init_30 ?_
  refine ry_iload_n hK 0 rfl dX4_init_33 rfl ?_
  refine ry_new hK tyX10 sh_190 rfl rfl inw_10 tyX10_ok df_10 cl_X4_9 is_10 it_10 (by decide) (by decide) dX4_init_34 ?_
  refine ry_dup hK dX4_init_37 rfl ?_
  refine ry_bipush (v := 16) hK dX4_init_38 (by decide) ?_
  refine ry_calli hK [.int 16] ml_X4_21 im_X10_init rfl mw_X10_init (cy_X10_init_190 (kl K) (kG K) _) (by decide) rfl rfl (Nat.le_of_ble_eq_true rfl) (by decide) (by decide) dX4_init_40 ?_
  refine ry_aast hK sh_77 (by decide) sh_190 (by decide) (by decide) (by decide) dX4_init_43 ?_
  refine ry_iinc (v := 38) (L' := [(1, .int 38), (0, .ref (ro_ad (kG K) 76))]) hK 0 rfl dX4_init_44 (by decide) (by decide) rfl ?_
  refine ry_goto hK 23 dX4_init_47 (by decide) ?_
  refine ry_iload_n hK 0 rfl dX4_init_23 rfl ?_
  refine ry_bipush (v := 40) hK dX4_init_24 (by decide) ?_
  refine ry_icmp_ge hK 50 dX4_init_26 (by decide) (fun q => absurd q (by decide)) (fun _ => ?_)
  refine ry_aload_n hK 1 rfl dX4_init_29 rfl ?_
  refine ry_get hK fl_X4_11 sh_76 (by decide) (ry_fvg (r := 77) ⟨_, rfl⟩ rfl (by decide)) dX4_init_30 ?_
  refine ry_iload_n hK 0 rfl dX4_init_33 rfl ?_
  refine ry_new hK tyX10 sh_193 rfl rfl inw_10 tyX10_ok df_10 cl_X4_9 is_10 it_10 (by decide) (by decide) dX4_init_34 ?_
  refine ry_dup hK dX4_init_37 rfl ?_
  refine ry_bipush (v := 16) hK dX4_init_38 (by decide) ?_
  refine ry_calli hK [.int 16] ml_X4_21 im_X10_init rfl mw_X10_init (cy_X10_init_193 (kl K) (kG K) _) (by decide) rfl rfl (Nat.le_of_ble_eq_true rfl) (by decide) (by decide) dX4_init_40 ?_
  refine ry_aast hK sh_77 (by decide) sh_193 (by decide) (by decide) (by decide) dX4_init_43 ?_
  refine ry_iinc (v := 39) (L' := [(1, .int 39), (0, .ref (ro_ad (kG K) 76))]) hK 0 rfl dX4_init_44 (by decide) (by decide) rfl ?_
  refine ry_goto hK 23 dX4_init_47 (by decide) ?_
  refine ry_iload_n hK 0 rfl dX4_init_23 rfl ?_
  refine ry_bipush (v := 40) hK dX4_init_24 (by decide) ?_
  refine ry_icmp_ge hK 50 dX4_init_26 (by decide) (fun q => absurd q (by decide)) (fun _ => ?_)
  refine ry_aload_n hK 1 rfl dX4_init_29 rfl ?_
  refine ry_get hK fl_X4_11 sh_76 (by decide) (ry_fvg (r := 77) ⟨_, rfl⟩ rfl (by decide)) dX4_init_30 ?_
  refine ry_iload_n hK 0 rfl dX4_init_33 rfl ?_
  refine ry_new hK tyX10 sh_196 rfl rfl inw_10 tyX10_ok df_10 cl_X4_9 is_10 it_10 (by decide) (by decide) dX4_init_34 ?_
  refine ry_dup hK dX4_init_37 rfl ?_
  refine ry_bipush (v := 16) hK dX4_init_38 (by decide) ?_
  refine ry_calli hK [.int 16] ml_X4_21 im_X10_init rfl mw_X10_init (cy_X10_init_196 (kl K) (kG K) _) (by decide) rfl rfl (Nat.le_of_ble_eq_true rfl) (by decide) (by decide) dX4_init_40 ?_
  refine ry_aast hK sh_77 (by decide) sh_196 (by decide) (by decide) (by decide) dX4_init_43 ?_
  refine ry_iinc (v := 40) (L' := [(1, .int 40), (0, .ref (ro_ad (kG K) 76))]) hK 0 rfl dX4_init_44 (by decide) (by decide) rfl ?_
  refine ry_goto hK 23 dX4_init_47 (by decide) ?_
  refine ry_iload_n hK 0 rfl dX4_init_23 rfl ?_
  refine ry_bipush (v := 40) hK dX4_init_24 (by decide) ?_
  refine ry_icmp_ge hK 50 dX4_init_26 (by decide) (fun _ => ?_) (fun q => absurd (by decide) q)
  exact ry_ret hK hR dX4_init_50
theorem dX7_init_0 : decode cX7_init 0 = .ok (.aload_n 0, 1) := by decide +kernel
theorem dX7_init_1 : decode cX7_init 1 = .ok (.invokespecial 3, 3) := by decide +kernel
theorem dX7_init_4 : decode cX7_init 4 = .ok (.aload_n 0, 1) := by decide +kernel
theorem dX7_init_5 : decode cX7_init 5 = .ok (.bipush 20, 2) := by decide +kernel
theorem dX7_init_7 : decode cX7_init 7 = .ok (.newarray .int, 2) := by decide +kernel
theorem dX7_init_9 : decode cX7_init 9 = .ok (.putfield 9, 3) := by decide +kernel
theorem dX7_init_12 : decode cX7_init 12 = .ok (.aload_n 0, 1) := by decide +kernel
theorem dX7_init_13 : decode cX7_init 13 = .ok (.bipush 20, 2) := by decide +kernel
theorem dX7_init_15 : decode cX7_init 15 = .ok (.newarray .int, 2) := by decide +kernel
theorem dX7_init_17 : decode cX7_init 17 = .ok (.putfield 15, 3) := by decide +kernel
theorem dX7_init_20 : decode cX7_init 20 = .ok (.aload_n 0, 1) := by decide +kernel
theorem dX7_init_21 : decode cX7_init 21 = .ok (.bipush 20, 2) := by decide +kernel
theorem dX7_init_23 : decode cX7_init 23 = .ok (.newarray .int, 2) := by decide +kernel
theorem dX7_init_25 : decode cX7_init 25 = .ok (.putfield 18, 3) := by decide +kernel
theorem dX7_init_28 : decode cX7_init 28 = .ok (.aload_n 0, 1) := by decide +kernel
theorem dX7_init_29 : decode cX7_init 29 = .ok (.sipush 260, 3) := by decide +kernel
theorem dX7_init_32 : decode cX7_init 32 = .ok (.newarray .int, 2) := by decide +kernel
theorem dX7_init_34 : decode cX7_init 34 = .ok (.putfield 21, 3) := by decide +kernel
theorem dX7_init_37 : decode cX7_init 37 = .ok (.return_, 1) := by decide +kernel
def cm_X7_init_199 (μ : ro_Mem) : ro_Mem := ro_set (ro_arr (ro_set (ro_arr (ro_set (ro_arr (ro_set (ro_arr (μ) 200 (fun _ => 0)) 199 7 (nI (200 + 1))) 201 (fun _ => 0)) 199 8 (nI (201 + 1))) 202 (fun _ => 0)) 199 9 (nI (202 + 1))) 203 (fun _ => 0)) 199 10 (nI (203 + 1))
set_option maxRecDepth 100000 in
theorem cy_X7_init_199 (l : Launch) (G : ro_G) (μ : ro_Mem) : ry_MY l G yX7_init cX7_init 1 0 4 320 [.ref (ro_ad G 199)] 200 μ 204 (cm_X7_init_199 μ) := by
  refine ry_MY.of (by decide +kernel) (Nat.le_of_ble_eq_true rfl) (fun K hG hl hK hR hin => ?_)
  subst hG
  subst hl
  unfold cm_X7_init_199 at hR
  refine ry_aload_n hK 0 rfl dX7_init_0 rfl ?_
  refine ry_obj hK ob_X7_3 ko_in ko_cd (Nat.le_of_ble_eq_true rfl) dX7_init_1 ?_
  refine ry_aload_n hK 0 rfl dX7_init_4 rfl ?_
  refine ry_bipush (v := 20) hK dX7_init_5 (by decide) ?_
  refine ry_newa (at0 := .int) hK sh_200 ka_int (Or.inl ⟨rfl, rfl⟩) (by decide) (by decide) (by decide) (by decide) (by decide) dX7_init_7 ?_
  refine ry_put (x := nI (200 + 1)) hK hin fl_X7_9 (fun q h => by cases h; rfl) sh_199 (by decide) (ry_fvr ⟨_, rfl⟩ (by decide)) rfl rfl dX7_init_9 ?_
  refine ry_aload_n hK 0 rfl dX7_init_12 rfl ?_
  refine ry_bipush (v := 20) hK dX7_init_13 (by decide) ?_
  refine ry_newa (at0 := .int) hK sh_201 ka_int (Or.inl ⟨rfl, rfl⟩) (by decide) (by decide) (by decide) (by decide) (by decide) dX7_init_15 ?_
  refine ry_put (x := nI (201 + 1)) hK hin fl_X7_15 (fun q h => by cases h; rfl) sh_199 (by decide) (ry_fvr ⟨_, rfl⟩ (by decide)) rfl rfl dX7_init_17 ?_
  refine ry_aload_n hK 0 rfl dX7_init_20 rfl ?_
  refine ry_bipush (v := 20) hK dX7_init_21 (by decide) ?_
  refine ry_newa (at0 := .int) hK sh_202 ka_int (Or.inl ⟨rfl, rfl⟩) (by decide) (by decide) (by decide) (by decide) (by decide) dX7_init_23 ?_
  refine ry_put (x := nI (202 + 1)) hK hin fl_X7_18 (fun q h => by cases h; rfl) sh_199 (by decide) (ry_fvr ⟨_, rfl⟩ (by decide)) rfl rfl dX7_init_25 ?_
  refine ry_aload_n hK 0 rfl dX7_init_28 rfl ?_
  refine ry_sipush (v := 260) hK dX7_init_29 (by decide) ?_
  refine ry_newa (at0 := .int) hK sh_203 ka_int (Or.inl ⟨rfl, rfl⟩) (by decide) (by decide) (by decide) (by decide) (by decide) dX7_init_32 ?_
  refine ry_put (x := nI (203 + 1)) hK hin fl_X7_21 (fun q h => by cases h; rfl) sh_199 (by decide) (ry_fvr ⟨_, rfl⟩ (by decide)) rfl rfl dX7_init_34 ?_
  exact ry_ret hK hR dX7_init_37
def cm_X10_init_204 (μ : ro_Mem) : ro_Mem := ro_set (ro_arr (ro_set (ro_arr (μ) 205 (fun _ => 0)) 204 0 (nI (205 + 1))) 206 (fun _ => 0)) 204 1 (nI (206 + 1))
set_option maxRecDepth 100000 in
theorem cy_X10_init_204 (l : Launch) (G : ro_G) (μ : ro_Mem) : ry_MY l G yX10_init cX10_init 2 1 2 64 [.ref (ro_ad G 204), .int 32] 205 μ 207 (cm_X10_init_204 μ) := by
  refine ry_MY.of (by decide +kernel) (Nat.le_of_ble_eq_true rfl) (fun K hG hl hK hR hin => ?_)
  subst hG
  subst hl
  unfold cm_X10_init_204 at hR
  refine ry_aload_n hK 0 rfl dX10_init_0 rfl ?_
  refine ry_obj hK ob_X10_3 ko_in ko_cd (Nat.le_of_ble_eq_true rfl) dX10_init_1 ?_
  refine ry_aload_n hK 0 rfl dX10_init_4 rfl ?_
  refine ry_iconst (v := 0) hK dX10_init_5 (by decide) ?_
  refine ry_iload_n hK 1 rfl dX10_init_6 rfl ?_
  refine ry_max (v := 32) hK ml_X10_9 (by decide) (by decide) (by decide) (Nat.le_of_ble_eq_true rfl) dX10_init_7 ?_
  refine ry_newa (at0 := .int) hK sh_205 ka_int (Or.inl ⟨rfl, rfl⟩) (by decide) (by decide) (by decide) (by decide) (by decide) dX10_init_10 ?_
  refine ry_put (x := nI (205 + 1)) hK hin fl_X10_15 (fun q h => by cases h; rfl) sh_204 (by decide) (ry_fvr ⟨_, rfl⟩ (by decide)) rfl rfl dX10_init_12 ?_
  refine ry_aload_n hK 0 rfl dX10_init_15 rfl ?_
  refine ry_aload_n hK 0 rfl dX10_init_16 rfl ?_
  refine ry_get hK fl_X10_15 sh_204 (by decide) (ry_fvg (r := 205) ⟨_, rfl⟩ rfl (by decide)) dX10_init_17 ?_
  refine ry_alen hK sh_205 (by decide) dX10_init_20 ?_
  refine ry_newa (at0 := .int) hK sh_206 ka_int (Or.inl ⟨rfl, rfl⟩) (by decide) (by decide) (by decide) (by decide) (by decide) dX10_init_21 ?_
  refine ry_put (x := nI (206 + 1)) hK hin fl_X10_21 (fun q h => by cases h; rfl) sh_204 (by decide) (ry_fvr ⟨_, rfl⟩ (by decide)) rfl rfl dX10_init_23 ?_
  exact ry_ret hK hR dX10_init_26
theorem dX11_init_0 : decode cX11_init 0 = .ok (.aload_n 0, 1) := by decide +kernel
theorem dX11_init_1 : decode cX11_init 1 = .ok (.invokespecial 1, 3) := by decide +kernel
theorem dX11_init_4 : decode cX11_init 4 = .ok (.aload_n 0, 1) := by decide +kernel
theorem dX11_init_5 : decode cX11_init 5 = .ok (.new 7, 3) := by decide +kernel
theorem dX11_init_8 : decode cX11_init 8 = .ok (.dup, 1) := by decide +kernel
theorem dX11_init_9 : decode cX11_init 9 = .ok (.invokespecial 9, 3) := by decide +kernel
theorem dX11_init_12 : decode cX11_init 12 = .ok (.putfield 10, 3) := by decide +kernel
theorem dX11_init_15 : decode cX11_init 15 = .ok (.aload_n 0, 1) := by decide +kernel
theorem dX11_init_16 : decode cX11_init 16 = .ok (.new 16, 3) := by decide +kernel
theorem dX11_init_19 : decode cX11_init 19 = .ok (.dup, 1) := by decide +kernel
theorem dX11_init_20 : decode cX11_init 20 = .ok (.invokespecial 18, 3) := by decide +kernel
theorem dX11_init_23 : decode cX11_init 23 = .ok (.putfield 19, 3) := by decide +kernel
theorem dX11_init_26 : decode cX11_init 26 = .ok (.aload_n 0, 1) := by decide +kernel
theorem dX11_init_27 : decode cX11_init 27 = .ok (.new 23, 3) := by decide +kernel
theorem dX11_init_30 : decode cX11_init 30 = .ok (.dup, 1) := by decide +kernel
theorem dX11_init_31 : decode cX11_init 31 = .ok (.invokespecial 25, 3) := by decide +kernel
theorem dX11_init_34 : decode cX11_init 34 = .ok (.putfield 26, 3) := by decide +kernel
theorem dX11_init_37 : decode cX11_init 37 = .ok (.aload_n 0, 1) := by decide +kernel
theorem dX11_init_38 : decode cX11_init 38 = .ok (.new 30, 3) := by decide +kernel
theorem dX11_init_41 : decode cX11_init 41 = .ok (.dup, 1) := by decide +kernel
theorem dX11_init_42 : decode cX11_init 42 = .ok (.invokespecial 32, 3) := by decide +kernel
theorem dX11_init_45 : decode cX11_init 45 = .ok (.putfield 33, 3) := by decide +kernel
theorem dX11_init_48 : decode cX11_init 48 = .ok (.aload_n 0, 1) := by decide +kernel
theorem dX11_init_49 : decode cX11_init 49 = .ok (.new 37, 3) := by decide +kernel
theorem dX11_init_52 : decode cX11_init 52 = .ok (.dup, 1) := by decide +kernel
theorem dX11_init_53 : decode cX11_init 53 = .ok (.invokespecial 39, 3) := by decide +kernel
theorem dX11_init_56 : decode cX11_init 56 = .ok (.putfield 40, 3) := by decide +kernel
theorem dX11_init_59 : decode cX11_init 59 = .ok (.aload_n 0, 1) := by decide +kernel
theorem dX11_init_60 : decode cX11_init 60 = .ok (.new 44, 3) := by decide +kernel
theorem dX11_init_63 : decode cX11_init 63 = .ok (.dup, 1) := by decide +kernel
theorem dX11_init_64 : decode cX11_init 64 = .ok (.invokespecial 46, 3) := by decide +kernel
theorem dX11_init_67 : decode cX11_init 67 = .ok (.putfield 47, 3) := by decide +kernel
theorem dX11_init_70 : decode cX11_init 70 = .ok (.aload_n 0, 1) := by decide +kernel
theorem dX11_init_71 : decode cX11_init 71 = .ok (.iconst 1, 1) := by decide +kernel
theorem dX11_init_72 : decode cX11_init 72 = .ok (.putfield 51, 3) := by decide +kernel
theorem dX11_init_75 : decode cX11_init 75 = .ok (.aload_n 0, 1) := by decide +kernel
theorem dX11_init_76 : decode cX11_init 76 = .ok (.new 55, 3) := by decide +kernel
theorem dX11_init_79 : decode cX11_init 79 = .ok (.dup, 1) := by decide +kernel
theorem dX11_init_80 : decode cX11_init 80 = .ok (.invokespecial 57, 3) := by decide +kernel
theorem dX11_init_83 : decode cX11_init 83 = .ok (.putfield 58, 3) := by decide +kernel
theorem dX11_init_86 : decode cX11_init 86 = .ok (.aload_n 0, 1) := by decide +kernel
theorem dX11_init_87 : decode cX11_init 87 = .ok (.new 62, 3) := by decide +kernel
theorem dX11_init_90 : decode cX11_init 90 = .ok (.dup, 1) := by decide +kernel
theorem dX11_init_91 : decode cX11_init 91 = .ok (.invokespecial 64, 3) := by decide +kernel
theorem dX11_init_94 : decode cX11_init 94 = .ok (.putfield 65, 3) := by decide +kernel
theorem dX11_init_97 : decode cX11_init 97 = .ok (.aload_n 0, 1) := by decide +kernel
theorem dX11_init_98 : decode cX11_init 98 = .ok (.new 69, 3) := by decide +kernel
theorem dX11_init_101 : decode cX11_init 101 = .ok (.dup, 1) := by decide +kernel
theorem dX11_init_102 : decode cX11_init 102 = .ok (.invokespecial 71, 3) := by decide +kernel
theorem dX11_init_105 : decode cX11_init 105 = .ok (.putfield 72, 3) := by decide +kernel
theorem dX11_init_108 : decode cX11_init 108 = .ok (.aload_n 0, 1) := by decide +kernel
theorem dX11_init_109 : decode cX11_init 109 = .ok (.new 76, 3) := by decide +kernel
theorem dX11_init_112 : decode cX11_init 112 = .ok (.dup, 1) := by decide +kernel
theorem dX11_init_113 : decode cX11_init 113 = .ok (.bipush 32, 2) := by decide +kernel
theorem dX11_init_115 : decode cX11_init 115 = .ok (.invokespecial 78, 3) := by decide +kernel
theorem dX11_init_118 : decode cX11_init 118 = .ok (.putfield 81, 3) := by decide +kernel
theorem dX11_init_121 : decode cX11_init 121 = .ok (.return_, 1) := by decide +kernel
def cm_X11_init_0 (μ : ro_Mem) : ro_Mem := ro_set (cm_X10_init_204 (ro_arr (ro_set (cm_X7_init_199 (ro_arr (ro_set (cm_X4_init_76 (ro_arr (ro_set (cm_X6_init_69 (ro_arr (ro_set (ro_set (cm_X0_init_62 (ro_arr (ro_set (cm_X8_init_60 (ro_arr (ro_set (cm_X3_init_50 (ro_arr (ro_set (cm_X5_init_44 (ro_arr (ro_set (cm_X1_init_31 (ro_arr (ro_set (cm_X9_init_1 (ro_arr (μ) 1 (fun _ => 0))) 0 0 (nI (1 + 1))) 31 (fun _ => 0))) 0 1 (nI (31 + 1))) 44 (fun _ => 0))) 0 3 (nI (44 + 1))) 50 (fun _ => 0))) 0 4 (nI (50 + 1))) 60 (fun _ => 0))) 0 5 (nI (60 + 1))) 62 (fun _ => 0))) 0 6 (nI (62 + 1))) 0 7 1) 69 (fun _ => 0))) 0 8 (nI (69 + 1))) 76 (fun _ => 0))) 0 9 (nI (76 + 1))) 199 (fun _ => 0))) 0 10 (nI (199 + 1))) 204 (fun _ => 0))) 0 11 (nI (204 + 1))
set_option maxRecDepth 100000 in
theorem cy_X11_init_0 (l : Launch) (G : ro_G) (μ : ro_Mem) : ry_MY l G yX11_init cX11_init 1 3 206 6224 [.ref (ro_ad G 0)] 1 μ 207 (cm_X11_init_0 μ) := by
  refine ry_MY.of (by decide +kernel) (Nat.le_of_ble_eq_true rfl) (fun K hG hl hK hR hin => ?_)
  subst hG
  subst hl
  unfold cm_X11_init_0 at hR
  refine ry_aload_n hK 0 rfl dX11_init_0 rfl ?_
  refine ry_obj hK ob_X11_1 ko_in ko_cd (Nat.le_of_ble_eq_true rfl) dX11_init_1 ?_
  refine ry_aload_n hK 0 rfl dX11_init_4 rfl ?_
  refine ry_new hK tyX9 sh_1 rfl rfl inw_9 tyX9_ok df_9 cl_X11_7 is_9 it_9 (by decide) (by decide) dX11_init_5 ?_
  refine ry_dup hK dX11_init_8 rfl ?_
  refine ry_callin hK [] (by decide +kernel) im_X9_init rfl mw_X9_init (cy_X9_init_1 (kl K) (kG K) _) (by decide) rfl rfl (Nat.le_of_ble_eq_true rfl) (by decide) (by decide) dX11_init_9 ?_
  refine ry_put (x := nI (1 + 1)) hK hin fl_X11_10 (fun q h => by cases h; rfl) sh_0 (by decide) (ry_fvr ⟨_, rfl⟩ (by decide)) rfl rfl dX11_init_12 ?_
  refine ry_aload_n hK 0 rfl dX11_init_15 rfl ?_
  refine ry_new hK tyX1 sh_31 rfl rfl inw_1 tyX1_ok df_1 cl_X11_16 is_1 it_1 (by decide) (by decide) dX11_init_16 ?_
  refine ry_dup hK dX11_init_19 rfl ?_
  refine ry_calli hK [] ml_X11_18 im_X1_init rfl mw_X1_init (cy_X1_init_31 (kl K) (kG K) _) (by decide) rfl rfl (Nat.le_of_ble_eq_true rfl) (by decide) (by decide) dX11_init_20 ?_
  refine ry_put (x := nI (31 + 1)) hK hin fl_X11_19 (fun q h => by cases h; rfl) sh_0 (by decide) (ry_fvr ⟨_, rfl⟩ (by decide)) rfl rfl dX11_init_23 ?_
  refine ry_aload_n hK 0 rfl dX11_init_26 rfl ?_
  refine ry_new hK tyX5 sh_44 rfl rfl inw_5 tyX5_ok df_5 cl_X11_23 is_5 it_5 (by decide) (by decide) dX11_init_27 ?_
  refine ry_dup hK dX11_init_30 rfl ?_
  refine ry_callin hK [] (by decide +kernel) im_X5_init rfl mw_X5_init (cy_X5_init_44 (kl K) (kG K) _) (by decide) rfl rfl (Nat.le_of_ble_eq_true rfl) (by decide) (by decide) dX11_init_31 ?_
  refine ry_put (x := nI (44 + 1)) hK hin fl_X11_26 (fun q h => by cases h; rfl) sh_0 (by decide) (ry_fvr ⟨_, rfl⟩ (by decide)) rfl rfl dX11_init_34 ?_
  refine ry_aload_n hK 0 rfl dX11_init_37 rfl ?_
  refine ry_new hK tyX3 sh_50 rfl rfl inw_3 tyX3_ok df_3 cl_X11_30 is_3 it_3 (by decide) (by decide) dX11_init_38 ?_
  refine ry_dup hK dX11_init_41 rfl ?_
  refine ry_callin hK [] (by decide +kernel) im_X3_init rfl mw_X3_init (cy_X3_init_50 (kl K) (kG K) _) (by decide) rfl rfl (Nat.le_of_ble_eq_true rfl) (by decide) (by decide) dX11_init_42 ?_
  refine ry_put (x := nI (50 + 1)) hK hin fl_X11_33 (fun q h => by cases h; rfl) sh_0 (by decide) (ry_fvr ⟨_, rfl⟩ (by decide)) rfl rfl dX11_init_45 ?_
  refine ry_aload_n hK 0 rfl dX11_init_48 rfl ?_
  refine ry_new hK tyX8 sh_60 rfl rfl inw_8 tyX8_ok df_8 cl_X11_37 is_8 it_8 (by decide) (by decide) dX11_init_49 ?_
  refine ry_dup hK dX11_init_52 rfl ?_
  refine ry_callin hK [] (by decide +kernel) im_X8_init rfl mw_X8_init (cy_X8_init_60 (kl K) (kG K) _) (by decide) rfl rfl (Nat.le_of_ble_eq_true rfl) (by decide) (by decide) dX11_init_53 ?_
  refine ry_put (x := nI (60 + 1)) hK hin fl_X11_40 (fun q h => by cases h; rfl) sh_0 (by decide) (ry_fvr ⟨_, rfl⟩ (by decide)) rfl rfl dX11_init_56 ?_
  refine ry_aload_n hK 0 rfl dX11_init_59 rfl ?_
  refine ry_new hK tyX0 sh_62 rfl rfl inw_0 tyX0_ok df_0 cl_X11_44 is_0 it_0 (by decide) (by decide) dX11_init_60 ?_
  refine ry_dup hK dX11_init_63 rfl ?_
  refine ry_callin hK [] (by decide +kernel) im_X0_init rfl mw_X0_init (cy_X0_init_62 (kl K) (kG K) _) (by decide) rfl rfl (Nat.le_of_ble_eq_true rfl) (by decide) (by decide) dX11_init_64 ?_
  refine ry_put (x := nI (62 + 1)) hK hin fl_X11_47 (fun q h => by cases h; rfl) sh_0 (by decide) (ry_fvr ⟨_, rfl⟩ (by decide)) rfl rfl dX11_init_67 ?_
  refine ry_aload_n hK 0 rfl dX11_init_70 rfl ?_
  refine ry_iconst (v := 1) hK dX11_init_71 (by decide) ?_
  refine ry_put (x := 1) hK hin fl_X11_51 (fun q h => by cases h; rfl) sh_0 (by decide) (ry_fvi rfl) rfl rfl dX11_init_72 ?_
  refine ry_aload_n hK 0 rfl dX11_init_75 rfl ?_
  refine ry_new hK tyX6 sh_69 rfl rfl inw_6 tyX6_ok df_6 cl_X11_55 is_6 it_6 (by decide) (by decide) dX11_init_76 ?_
  refine ry_dup hK dX11_init_79 rfl ?_
  refine ry_callin hK [] (by decide +kernel) im_X6_init rfl mw_X6_init (cy_X6_init_69 (kl K) (kG K) _) (by decide) rfl rfl (Nat.le_of_ble_eq_true rfl) (by decide) (by decide) dX11_init_80 ?_
  refine ry_put (x := nI (69 + 1)) hK hin fl_X11_58 (fun q h => by cases h; rfl) sh_0 (by decide) (ry_fvr ⟨_, rfl⟩ (by decide)) rfl rfl dX11_init_83 ?_
  refine ry_aload_n hK 0 rfl dX11_init_86 rfl ?_
  refine ry_new hK tyX4 sh_76 rfl rfl inw_4 tyX4_ok df_4 cl_X11_62 is_4 it_4 (by decide) (by decide) dX11_init_87 ?_
  refine ry_dup hK dX11_init_90 rfl ?_
  refine ry_calli hK [] ml_X11_64 im_X4_init rfl mw_X4_init (cy_X4_init_76 (kl K) (kG K) _) (by decide) rfl rfl (Nat.le_of_ble_eq_true rfl) (by decide) (by decide) dX11_init_91 ?_
  refine ry_put (x := nI (76 + 1)) hK hin fl_X11_65 (fun q h => by cases h; rfl) sh_0 (by decide) (ry_fvr ⟨_, rfl⟩ (by decide)) rfl rfl dX11_init_94 ?_
  refine ry_aload_n hK 0 rfl dX11_init_97 rfl ?_
  refine ry_new hK tyX7 sh_199 rfl rfl inw_7 tyX7_ok df_7 cl_X11_69 is_7 it_7 (by decide) (by decide) dX11_init_98 ?_
  refine ry_dup hK dX11_init_101 rfl ?_
  refine ry_callin hK [] (by decide +kernel) im_X7_init rfl mw_X7_init (cy_X7_init_199 (kl K) (kG K) _) (by decide) rfl rfl (Nat.le_of_ble_eq_true rfl) (by decide) (by decide) dX11_init_102 ?_
  refine ry_put (x := nI (199 + 1)) hK hin fl_X11_72 (fun q h => by cases h; rfl) sh_0 (by decide) (ry_fvr ⟨_, rfl⟩ (by decide)) rfl rfl dX11_init_105 ?_
  refine ry_aload_n hK 0 rfl dX11_init_108 rfl ?_
  refine ry_new hK tyX10 sh_204 rfl rfl inw_10 tyX10_ok df_10 cl_X11_76 is_10 it_10 (by decide) (by decide) dX11_init_109 ?_
  refine ry_dup hK dX11_init_112 rfl ?_
  refine ry_bipush (v := 32) hK dX11_init_113 (by decide) ?_
  refine ry_calli hK [.int 32] ml_X11_78 im_X10_init rfl mw_X10_init (cy_X10_init_204 (kl K) (kG K) _) (by decide) rfl rfl (Nat.le_of_ble_eq_true rfl) (by decide) (by decide) dX11_init_115 ?_
  refine ry_put (x := nI (204 + 1)) hK hin fl_X11_81 (fun q h => by cases h; rfl) sh_0 (by decide) (ry_fvr ⟨_, rfl⟩ (by decide)) rfl rfl dX11_init_118 ?_
  exact ry_ret hK hR dX11_init_121
