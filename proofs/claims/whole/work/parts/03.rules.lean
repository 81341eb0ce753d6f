-- ===== a row an instruction =====
abbrev ro_in (i : Int32) (n : Nat) : Prop := 0 ≤ i ∧ i.toNatClampNeg < n
theorem ro_in_vp {i : Int32} {n : Nat} (h : ro_in i n) : vp_in i n := by
  intro q
  rcases q with q | q
  · exact absurd h.1 (Int32.not_le.mpr q)
  · exact absurd h.2 (Nat.not_lt.mpr q)
section ROW
variable {K : ro_K} {own : String} {cc : ByteArray} {nL h pc : Nat} {L : List (Nat × Value)} {st : List Value} {μ : ro_Mem}
theorem ro_iconst (hK : ro_C K own cc nL h) {n : Int} {v : Int32} (d : decode cc pc = .ok (.iconst n, 1)) (hv : Int32.ofInt n = v) (k : ro_X K (pc + 1) L (.int v :: st) μ) : ro_X K pc L st μ := fun H lo ls hP hS hl => lv_iconst hK.1 hK.2.1 d hv (k H lo ls hP hS hl)
theorem ro_bipush (hK : ro_C K own cc nL h) {n : Int} {v : Int32} (d : decode cc pc = .ok (.bipush n, 2)) (hv : (Int8.ofInt n).toInt32 = v) (k : ro_X K (pc + 2) L (.int v :: st) μ) : ro_X K pc L st μ := fun H lo ls hP hS hl => lv_bipush hK.1 hK.2.1 d hv (k H lo ls hP hS hl)
theorem ro_sipush (hK : ro_C K own cc nL h) {n : Int} {v : Int32} (d : decode cc pc = .ok (.sipush n, 3)) (hv : (Int16.ofInt n).toInt32 = v) (k : ro_X K (pc + 3) L (.int v :: st) μ) : ro_X K pc L st μ := fun H lo ls hP hS hl => lv_sipush hK.1 hK.2.1 d hv (k H lo ls hP hS hl)
theorem ro_ldc (hK : ro_C K own cc nL h) {i : Nat} {v : Int32} (hw : Cond.constant own i v ∈ ro_WT) (d : decode cc pc = .ok (.ldc i, 2)) (k : ro_X K (pc + 2) L (.int v :: st) μ) : ro_X K pc L st μ := fun H lo ls hP hS hl => lv_ldc hK.1 hK.2.1 hK.2.2.2.1 (hK.2.2.2.2.1 _ hw) d (k H lo ls hP hS hl)
theorem ro_ldcw (hK : ro_C K own cc nL h) {i : Nat} {v : Int32} (hw : Cond.constant own i v ∈ ro_WT) (d : decode cc pc = .ok (.ldc_w i, 3)) (k : ro_X K (pc + 3) L (.int v :: st) μ) : ro_X K pc L st μ := fun H lo ls hP hS hl => lv_ldcw hK.1 hK.2.1 hK.2.2.2.1 (hK.2.2.2.2.1 _ hw) d (k H lo ls hP hS hl)
theorem ro_ldcs (hK : ro_C K own cc nL h) {i : Nat} {tx : String} {a : Nat} (hz : vk_R own i tx a (ks K)) (d : decode cc pc = .ok (.ldc i, 2)) (k : ro_X K (pc + 2) L (.ref a :: st) μ) : ro_X K pc L st μ := fun H lo ls hP hS hl => va_ldcS hK.1 hK.2.1 hK.2.2.2.1 hz d (k H lo ls hP hS hl)
theorem ro_iload_n (hK : ro_C K own cc nL h) {q : Fin 4} {i : Nat} {x : Int32} (j : Nat) (hj : L[j]? = some (i, .int x)) (d : decode cc pc = .ok (.iload_n q, 1)) (hq : (q : Nat) = i) (k : ro_X K (pc + 1) L (.int x :: st) μ) : ro_X K pc L st μ := fun H lo ls hP hS hl => lv_iload_n hK.1 hK.2.1 d hq (lv_at hl j hj) (k H lo ls hP hS hl)
theorem ro_iload (hK : ro_C K own cc nL h) {i : Nat} {x : Int32} (j : Nat) (hj : L[j]? = some (i, .int x)) (d : decode cc pc = .ok (.iload i, 2)) (k : ro_X K (pc + 2) L (.int x :: st) μ) : ro_X K pc L st μ := fun H lo ls hP hS hl => lv_iload hK.1 hK.2.1 d (lv_at hl j hj) (k H lo ls hP hS hl)
theorem ro_aload_n (hK : ro_C K own cc nL h) {q : Fin 4} {i : Nat} {x : Nat} (j : Nat) (hj : L[j]? = some (i, .ref x)) (d : decode cc pc = .ok (.aload_n q, 1)) (hq : (q : Nat) = i) (k : ro_X K (pc + 1) L (.ref x :: st) μ) : ro_X K pc L st μ := fun H lo ls hP hS hl => lv_aload_n hK.1 hK.2.1 d hq (lv_at hl j hj) (k H lo ls hP hS hl)
theorem ro_aload (hK : ro_C K own cc nL h) {i : Nat} {x : Nat} (j : Nat) (hj : L[j]? = some (i, .ref x)) (d : decode cc pc = .ok (.aload i, 2)) (k : ro_X K (pc + 2) L (.ref x :: st) μ) : ro_X K pc L st μ := fun H lo ls hP hS hl => lv_aload hK.1 hK.2.1 d (lv_at hl j hj) (k H lo ls hP hS hl)
theorem ro_istore_n (hK : ro_C K own cc nL h) {q : Fin 4} {i : Nat} {x : Int32} {L' : List (Nat × Value)} (d : decode cc pc = .ok (.istore_n q, 1)) (hq : (q : Nat) = i) (hi : i < nL) (hl' : (i, Value.int x) :: L.filter (fun q => !(q.1 == i) && !(q.1 + 1 == i && q.2.category == 2)) = L') (k : ro_X K (pc + 1) L' st μ) : ro_X K pc L (.int x :: st) μ := fun H lo ls hP hS hl => lv_istore_n hK.1 hK.2.1 d hq hl (by rw [hK.2.2.2.2.2.2.2.2.2.2.2.2.2]; exact hi) hl' (fun ls' hl2 => k H lo ls' hP hS hl2)
theorem ro_istore (hK : ro_C K own cc nL h) {i : Nat} {x : Int32} {L' : List (Nat × Value)} (d : decode cc pc = .ok (.istore i, 2)) (hi : i < nL) (hl' : (i, Value.int x) :: L.filter (fun q => !(q.1 == i) && !(q.1 + 1 == i && q.2.category == 2)) = L') (k : ro_X K (pc + 2) L' st μ) : ro_X K pc L (.int x :: st) μ := fun H lo ls hP hS hl => lv_istore hK.1 hK.2.1 d hl (by rw [hK.2.2.2.2.2.2.2.2.2.2.2.2.2]; exact hi) hl' (fun ls' hl2 => k H lo ls' hP hS hl2)
theorem ro_astore_n (hK : ro_C K own cc nL h) {q : Fin 4} {i : Nat} {x : Nat} {L' : List (Nat × Value)} (d : decode cc pc = .ok (.astore_n q, 1)) (hq : (q : Nat) = i) (hi : i < nL) (hl' : (i, Value.ref x) :: L.filter (fun q => !(q.1 == i) && !(q.1 + 1 == i && q.2.category == 2)) = L') (k : ro_X K (pc + 1) L' st μ) : ro_X K pc L (.ref x :: st) μ := fun H lo ls hP hS hl => lv_astore_n hK.1 hK.2.1 d hq hl (by rw [hK.2.2.2.2.2.2.2.2.2.2.2.2.2]; exact hi) hl' (fun ls' hl2 => k H lo ls' hP hS hl2)
theorem ro_astore (hK : ro_C K own cc nL h) {i : Nat} {x : Nat} {L' : List (Nat × Value)} (d : decode cc pc = .ok (.astore i, 2)) (hi : i < nL) (hl' : (i, Value.ref x) :: L.filter (fun q => !(q.1 == i) && !(q.1 + 1 == i && q.2.category == 2)) = L') (k : ro_X K (pc + 2) L' st μ) : ro_X K pc L (.ref x :: st) μ := fun H lo ls hP hS hl => lv_astore hK.1 hK.2.1 d hl (by rw [hK.2.2.2.2.2.2.2.2.2.2.2.2.2]; exact hi) hl' (fun ls' hl2 => k H lo ls' hP hS hl2)
theorem ro_iinc (hK : ro_C K own cc nL h) {i : Nat} {n : Int} {x v : Int32} {L' : List (Nat × Value)} (j : Nat) (hj : L[j]? = some (i, .int x)) (d : decode cc pc = .ok (.iinc i n, 3)) (hv : x + Int32.ofInt n = v) (hi : i < nL) (hl' : (i, Value.int v) :: L.filter (fun q => !(q.1 == i) && !(q.1 + 1 == i && q.2.category == 2)) = L') (k : ro_X K (pc + 3) L' st μ) : ro_X K pc L st μ := fun H lo ls hP hS hl => lv_iinc hK.1 hK.2.1 d hl hj hv (by rw [hK.2.2.2.2.2.2.2.2.2.2.2.2.2]; exact hi) hl' (fun ls' hl2 => k H lo ls' hP hS hl2)
/-- fewer locals -/
theorem ro_sub {L' : List (Nat × Value)} (is : List Nat) (hs : lv_pick L is = L') (k : ro_X K pc L' st μ) : ro_X K pc L st μ := fun H lo ls hP hS hl => k H lo ls hP hS (lv_sub hl is hs)
theorem ro_iadd (hK : ro_C K own cc nL h) {x y : Int32} (d : decode cc pc = .ok (.iadd, 1)) (k : ro_X K (pc + 1) L (.int (x + y) :: st) μ) : ro_X K pc L (.int y :: .int x :: st) μ := fun H lo ls hP hS hl => lv_iadd hK.1 hK.2.1 d (k H lo ls hP hS hl)
theorem ro_isub (hK : ro_C K own cc nL h) {x y : Int32} (d : decode cc pc = .ok (.isub, 1)) (k : ro_X K (pc + 1) L (.int (x - y) :: st) μ) : ro_X K pc L (.int y :: .int x :: st) μ := fun H lo ls hP hS hl => lv_isub hK.1 hK.2.1 d (k H lo ls hP hS hl)
theorem ro_imul (hK : ro_C K own cc nL h) {x y : Int32} (d : decode cc pc = .ok (.imul, 1)) (k : ro_X K (pc + 1) L (.int (x * y) :: st) μ) : ro_X K pc L (.int y :: .int x :: st) μ := fun H lo ls hP hS hl => lv_imul hK.1 hK.2.1 d (k H lo ls hP hS hl)
theorem ro_iand (hK : ro_C K own cc nL h) {x y : Int32} (d : decode cc pc = .ok (.iand, 1)) (k : ro_X K (pc + 1) L (.int (x &&& y) :: st) μ) : ro_X K pc L (.int y :: .int x :: st) μ := fun H lo ls hP hS hl => lv_iand hK.1 hK.2.1 d (k H lo ls hP hS hl)
theorem ro_ior (hK : ro_C K own cc nL h) {x y : Int32} (d : decode cc pc = .ok (.ior, 1)) (k : ro_X K (pc + 1) L (.int (x ||| y) :: st) μ) : ro_X K pc L (.int y :: .int x :: st) μ := fun H lo ls hP hS hl => lv_ior hK.1 hK.2.1 d (k H lo ls hP hS hl)
theorem ro_ixor (hK : ro_C K own cc nL h) {x y : Int32} (d : decode cc pc = .ok (.ixor, 1)) (k : ro_X K (pc + 1) L (.int (x ^^^ y) :: st) μ) : ro_X K pc L (.int y :: .int x :: st) μ := fun H lo ls hP hS hl => lv_ixor hK.1 hK.2.1 d (k H lo ls hP hS hl)
theorem ro_idiv (hK : ro_C K own cc nL h) {x y : Int32} (d : decode cc pc = .ok (.idiv, 1)) (hy : ¬ y = 0) (k : ro_X K (pc + 1) L (.int (x / y) :: st) μ) : ro_X K pc L (.int y :: .int x :: st) μ := fun H lo ls hP hS hl => lv_idiv hK.1 hK.2.1 d hy (k H lo ls hP hS hl)
theorem ro_irem (hK : ro_C K own cc nL h) {x y : Int32} (d : decode cc pc = .ok (.irem, 1)) (hy : ¬ y = 0) (k : ro_X K (pc + 1) L (.int (x - x / y * y) :: st) μ) : ro_X K pc L (.int y :: .int x :: st) μ := fun H lo ls hP hS hl => lv_irem hK.1 hK.2.1 d hy (k H lo ls hP hS hl)
theorem ro_ineg (hK : ro_C K own cc nL h) {x : Int32} (d : decode cc pc = .ok (.ineg, 1)) (k : ro_X K (pc + 1) L (.int (0 - x) :: st) μ) : ro_X K pc L (.int x :: st) μ := fun H lo ls hP hS hl => lv_ineg hK.1 hK.2.1 d (k H lo ls hP hS hl)
theorem ro_ishl (hK : ro_C K own cc nL h) {x y : Int32} (d : decode cc pc = .ok (.ishl, 1)) (k : ro_X K (pc + 1) L (.int (x <<< (y &&& 31)) :: st) μ) : ro_X K pc L (.int y :: .int x :: st) μ := fun H lo ls hP hS hl => lv_ishl hK.1 hK.2.1 d (k H lo ls hP hS hl)
theorem ro_ishr (hK : ro_C K own cc nL h) {x y : Int32} (d : decode cc pc = .ok (.ishr, 1)) (k : ro_X K (pc + 1) L (.int (x >>> (y &&& 31)) :: st) μ) : ro_X K pc L (.int y :: .int x :: st) μ := fun H lo ls hP hS hl => lv_ishr hK.1 hK.2.1 d (k H lo ls hP hS hl)
def ro_ush (x y : Int32) : Int32 := (x.toUInt32 >>> (y.toUInt32 &&& Int32.toUInt32 31)).toInt32
theorem ro_iushr (hK : ro_C K own cc nL h) {x y : Int32} (d : decode cc pc = .ok (.iushr, 1)) (k : ro_X K (pc + 1) L (.int (ro_ush x y) :: st) μ) : ro_X K pc L (.int y :: .int x :: st) μ := fun H lo ls hP hS hl => lv_iushr hK.1 hK.2.1 d rfl (k H lo ls hP hS hl)
def ro_i2b (x : Int32) : Int32 := x.toInt8.toInt32
def ro_i2c (x : Int32) : Int32 := (x.toUInt32 % 65536).toInt32
theorem ro_ib (hK : ro_C K own cc nL h) {x : Int32} (d : decode cc pc = .ok (.i2b, 1)) (k : ro_X K (pc + 1) L (.int (ro_i2b x) :: st) μ) : ro_X K pc L (.int x :: st) μ := fun H lo ls hP hS hl => lv_i2b hK.1 hK.2.1 d rfl (k H lo ls hP hS hl)
theorem ro_ic (hK : ro_C K own cc nL h) {x : Int32} (d : decode cc pc = .ok (.i2c, 1)) (k : ro_X K (pc + 1) L (.int (ro_i2c x) :: st) μ) : ro_X K pc L (.int x :: st) μ := fun H lo ls hP hS hl => lv_i2c hK.1 hK.2.1 d rfl (k H lo ls hP hS hl)
theorem ro_dup (hK : ro_C K own cc nL h) {va : Value} (d : decode cc pc = .ok (.dup, 1)) (hc : va.category = 1) (k : ro_X K (pc + 1) L (va :: va :: st) μ) : ro_X K pc L (va :: st) μ := fun H lo ls hP hS hl => lv_dup hK.1 hK.2.1 d hc (k H lo ls hP hS hl)
theorem ro_dup2 (hK : ro_C K own cc nL h) {va vb : Value} (d : decode cc pc = .ok (.dup2, 1)) (hc : va.category = 1) (hc2 : vb.category = 1) (k : ro_X K (pc + 1) L (va :: vb :: va :: vb :: st) μ) : ro_X K pc L (va :: vb :: st) μ := fun H lo ls hP hS hl => lv_dup2_11 hK.1 hK.2.1 d hc hc2 (k H lo ls hP hS hl)
theorem ro_pop (hK : ro_C K own cc nL h) {va : Value} (d : decode cc pc = .ok (.pop, 1)) (hc : va.category = 1) (k : ro_X K (pc + 1) L st μ) : ro_X K pc L (va :: st) μ := fun H lo ls hP hS hl => lv_pop hK.1 hK.2.1 d hc (k H lo ls hP hS hl)
theorem ro_goto (hK : ro_C K own cc nL h) {off : Int} (tgt : Nat) (d : decode cc pc = .ok (.goto off, 3)) (ht : (pc : Int) + off = (tgt : Int)) (k : ro_X K tgt L st μ) : ro_X K pc L st μ := fun H lo ls hP hS hl => lv_goto hK.1 hK.2.1 d ht (k H lo ls hP hS hl)
theorem ro_if_eq (hK : ro_C K own cc nL h) {x : Int32} {off : Int} (tgt : Nat) (d : decode cc pc = .ok (.ifCond .eq off, 3)) (ht : (pc : Int) + off = (tgt : Int)) (k1 : x = 0 → ro_X K tgt L st μ) (k2 : ¬ x = 0 → ro_X K (pc + 3) L st μ) : ro_X K pc L (.int x :: st) μ := fun H lo ls hP hS hl => lv_if_eq hK.1 hK.2.1 d ht (fun q => k1 q H lo ls hP hS hl) (fun q => k2 q H lo ls hP hS hl)
theorem ro_if_ne (hK : ro_C K own cc nL h) {x : Int32} {off : Int} (tgt : Nat) (d : decode cc pc = .ok (.ifCond .ne off, 3)) (ht : (pc : Int) + off = (tgt : Int)) (k1 : ¬ x = 0 → ro_X K tgt L st μ) (k2 : x = 0 → ro_X K (pc + 3) L st μ) : ro_X K pc L (.int x :: st) μ := fun H lo ls hP hS hl => lv_if_ne hK.1 hK.2.1 d ht (fun q => k1 q H lo ls hP hS hl) (fun q => k2 q H lo ls hP hS hl)
theorem ro_if_lt (hK : ro_C K own cc nL h) {x : Int32} {off : Int} (tgt : Nat) (d : decode cc pc = .ok (.ifCond .lt off, 3)) (ht : (pc : Int) + off = (tgt : Int)) (k1 : x < 0 → ro_X K tgt L st μ) (k2 : ¬ x < 0 → ro_X K (pc + 3) L st μ) : ro_X K pc L (.int x :: st) μ := fun H lo ls hP hS hl => lv_if_lt hK.1 hK.2.1 d ht (fun q => k1 q H lo ls hP hS hl) (fun q => k2 q H lo ls hP hS hl)
theorem ro_if_ge (hK : ro_C K own cc nL h) {x : Int32} {off : Int} (tgt : Nat) (d : decode cc pc = .ok (.ifCond .ge off, 3)) (ht : (pc : Int) + off = (tgt : Int)) (k1 : 0 ≤ x → ro_X K tgt L st μ) (k2 : ¬ 0 ≤ x → ro_X K (pc + 3) L st μ) : ro_X K pc L (.int x :: st) μ := fun H lo ls hP hS hl => lv_if_ge hK.1 hK.2.1 d ht (fun q => k1 q H lo ls hP hS hl) (fun q => k2 q H lo ls hP hS hl)
theorem ro_if_gt (hK : ro_C K own cc nL h) {x : Int32} {off : Int} (tgt : Nat) (d : decode cc pc = .ok (.ifCond .gt off, 3)) (ht : (pc : Int) + off = (tgt : Int)) (k1 : 0 < x → ro_X K tgt L st μ) (k2 : ¬ 0 < x → ro_X K (pc + 3) L st μ) : ro_X K pc L (.int x :: st) μ := fun H lo ls hP hS hl => lv_if_gt hK.1 hK.2.1 d ht (fun q => k1 q H lo ls hP hS hl) (fun q => k2 q H lo ls hP hS hl)
theorem ro_if_le (hK : ro_C K own cc nL h) {x : Int32} {off : Int} (tgt : Nat) (d : decode cc pc = .ok (.ifCond .le off, 3)) (ht : (pc : Int) + off = (tgt : Int)) (k1 : x ≤ 0 → ro_X K tgt L st μ) (k2 : ¬ x ≤ 0 → ro_X K (pc + 3) L st μ) : ro_X K pc L (.int x :: st) μ := fun H lo ls hP hS hl => lv_if_le hK.1 hK.2.1 d ht (fun q => k1 q H lo ls hP hS hl) (fun q => k2 q H lo ls hP hS hl)
theorem ro_icmp_eq (hK : ro_C K own cc nL h) {x y : Int32} {off : Int} (tgt : Nat) (d : decode cc pc = .ok (.if_icmp .eq off, 3)) (ht : (pc : Int) + off = (tgt : Int)) (k1 : x = y → ro_X K tgt L st μ) (k2 : ¬ x = y → ro_X K (pc + 3) L st μ) : ro_X K pc L (.int y :: .int x :: st) μ := fun H lo ls hP hS hl => lv_icmp_eq hK.1 hK.2.1 d ht (fun q => k1 q H lo ls hP hS hl) (fun q => k2 q H lo ls hP hS hl)
theorem ro_icmp_ne (hK : ro_C K own cc nL h) {x y : Int32} {off : Int} (tgt : Nat) (d : decode cc pc = .ok (.if_icmp .ne off, 3)) (ht : (pc : Int) + off = (tgt : Int)) (k1 : ¬ x = y → ro_X K tgt L st μ) (k2 : x = y → ro_X K (pc + 3) L st μ) : ro_X K pc L (.int y :: .int x :: st) μ := fun H lo ls hP hS hl => lv_icmp_ne hK.1 hK.2.1 d ht (fun q => k1 q H lo ls hP hS hl) (fun q => k2 q H lo ls hP hS hl)
theorem ro_icmp_lt (hK : ro_C K own cc nL h) {x y : Int32} {off : Int} (tgt : Nat) (d : decode cc pc = .ok (.if_icmp .lt off, 3)) (ht : (pc : Int) + off = (tgt : Int)) (k1 : x < y → ro_X K tgt L st μ) (k2 : ¬ x < y → ro_X K (pc + 3) L st μ) : ro_X K pc L (.int y :: .int x :: st) μ := fun H lo ls hP hS hl => lv_icmp_lt hK.1 hK.2.1 d ht (fun q => k1 q H lo ls hP hS hl) (fun q => k2 q H lo ls hP hS hl)
theorem ro_icmp_ge (hK : ro_C K own cc nL h) {x y : Int32} {off : Int} (tgt : Nat) (d : decode cc pc = .ok (.if_icmp .ge off, 3)) (ht : (pc : Int) + off = (tgt : Int)) (k1 : y ≤ x → ro_X K tgt L st μ) (k2 : ¬ y ≤ x → ro_X K (pc + 3) L st μ) : ro_X K pc L (.int y :: .int x :: st) μ := fun H lo ls hP hS hl => lv_icmp_ge hK.1 hK.2.1 d ht (fun q => k1 q H lo ls hP hS hl) (fun q => k2 q H lo ls hP hS hl)
theorem ro_icmp_gt (hK : ro_C K own cc nL h) {x y : Int32} {off : Int} (tgt : Nat) (d : decode cc pc = .ok (.if_icmp .gt off, 3)) (ht : (pc : Int) + off = (tgt : Int)) (k1 : y < x → ro_X K tgt L st μ) (k2 : ¬ y < x → ro_X K (pc + 3) L st μ) : ro_X K pc L (.int y :: .int x :: st) μ := fun H lo ls hP hS hl => lv_icmp_gt hK.1 hK.2.1 d ht (fun q => k1 q H lo ls hP hS hl) (fun q => k2 q H lo ls hP hS hl)
theorem ro_icmp_le (hK : ro_C K own cc nL h) {x y : Int32} {off : Int} (tgt : Nat) (d : decode cc pc = .ok (.if_icmp .le off, 3)) (ht : (pc : Int) + off = (tgt : Int)) (k1 : x ≤ y → ro_X K tgt L st μ) (k2 : ¬ x ≤ y → ro_X K (pc + 3) L st μ) : ro_X K pc L (.int y :: .int x :: st) μ := fun H lo ls hP hS hl => lv_icmp_le hK.1 hK.2.1 d ht (fun q => k1 q H lo ls hP hS hl) (fun q => k2 q H lo ls hP hS hl)
theorem ro_tabOut (hK : ro_C K own cc nL h) {dflt lo hi : Int} {offs : Array Int} {len : Nat} {x : Int32} (tgt : Nat) (d : decode cc pc = .ok (.tableswitch dflt lo hi offs, len)) (hx : x.toInt < lo ∨ hi < x.toInt) (ht : (pc : Int) + dflt = (tgt : Int)) (k : ro_X K tgt L st μ) : ro_X K pc L (.int x :: st) μ := fun H lo ls hP hS hl => lv_tableOut hK.1 hK.2.1 d hx ht (k H lo ls hP hS hl)
theorem ro_tabIn (hK : ro_C K own cc nL h) {dflt lo hi : Int} {offs : Array Int} {len : Nat} {x : Int32} {off : Int} (v : Int32) (tgt : Nat) (d : decode cc pc = .ok (.tableswitch dflt lo hi offs, len)) (hx : x = v) (h1 : ¬ v.toInt < lo) (h2 : ¬ hi < v.toInt) (ho : offs[(v.toInt - lo).toNat]? = some off) (ht : (pc : Int) + off = (tgt : Int)) (k : ro_X K tgt L st μ) : ro_X K pc L (.int x :: st) μ := fun H lo ls hP hS hl => lv_tableIn hK.1 hK.2.1 d (by rw [hx]; exact h1) (by rw [hx]; exact h2) (by rw [hx]; exact ho) ht (k H lo ls hP hS hl)
-- returns
theorem ro_iret (hK : ro_C K own cc nL h) (hR : ro_R K (some .int)) {v : Int32} (d : decode cc pc = .ok (.ireturn, 1)) (hq : kQ K (some (.int v)) μ) : ro_X K pc L [.int v] μ := by
  intro H lo ls hP hS hl
  rw [hR.2.2]
  exact W.iret hK.1 hK.2.1 hR.1 (fun t ht hW => ⟨⟨_, μ, rfl, hq, ro_PW.of hK hP hS t ht hW⟩, hS.F ht⟩) hS.2.2 d hR.2.1
theorem ro_zret (hK : ro_C K own cc nL h) (hR : ro_R K (some .boolean)) {v : Int32} (d : decode cc pc = .ok (.ireturn, 1)) (hv : v = 0 ∨ v = 1) (hq : kQ K (some (.int v)) μ) : ro_X K pc L [.int v] μ := by
  intro H lo ls hP hS hl
  rw [hR.2.2]
  exact W.zret hK.1 hK.2.1 hR.1 (by rcases hv with rfl | rfl <;> rfl) (fun t ht hW => ⟨⟨_, μ, rfl, hq, ro_PW.of hK hP hS t ht hW⟩, hS.F ht⟩) hS.2.2 d hR.2.1
theorem ro_vret (hK : ro_C K own cc nL h) (hR : ro_R K none) (d : decode cc pc = .ok (.return_, 1)) (hq : kQ K none μ) : ro_X K pc L [] μ := by
  intro H lo ls hP hS hl
  rw [hR.2.2]
  exact W.vret hK.1 hK.2.1 hR.1 (fun t ht hW => ⟨⟨_, μ, rfl, hq, ro_PW.of hK hP hS t ht hW⟩, hS.F ht⟩) hS.2.2 d hR.2.1
end ROW
-- ===== fields and arrays =====
/-- the field link idx of class own is field k of class number c: a number (kd.1 = 0), a final reference kd.2 ids on (1), a reference that changes (2) -/
def ro_FL (own : String) (idx c k : Nat) (ty : FieldType) (kd : Nat × Nat) : Prop :=
  ∃ (C : String) (T : u_T) (N : Nat) (ty0 : Nat → FieldType), cls[c]? = some (C, T, N) ∧ ro_nf c = N ∧ k < N ∧ ro_fk c k = kd ∧ (∀ w ∈ u_ws C T N, w ∈ ro_WT) ∧ (∀ k, k < N → parseFieldDescriptor (T k).2.2.1 = some (ty0 k)) ∧ (∀ a, a < N → ∀ b, b < N → a ≠ b → (T a).2.1 ≠ (T b).2.1) ∧ ty0 k = ty ∧ (T k).2.2.2 = (kd.1 == 1) ∧ Cond.fieldLink own idx (T k).1 (T k).2.1 (T k).2.2.1 ∈ ro_WT
section FLD
variable {K : ro_K} {own : String} {cc : ByteArray} {nL h pc : Nat} {L : List (Nat × Value)} {st : List Value} {μ : ro_Mem}
theorem ro_getv (hK : ro_C K own cc nL h) {idx c k id : Nat} {ty : FieldType} {kd : Nat × Nat} (hF : ro_FL own idx c k ty kd) (hs : ro_sh id = (0, c)) (d : decode cc pc = .ok (.getfield idx, 3)) (kk : ro_X K (pc + 3) L (ro_fv (kG K) c id μ k :: st) μ) : ro_X K pc L (.ref (ro_ad (kG K) id) :: st) μ := by
  intro H lo ls hP hS hl
  obtain ⟨C, T, N, ty0, h1, h2, h3, h4, h5, h6, h7, h8, h9, h10⟩ := hF
  have hid := ro_sh_lt hs (by decide)
  exact va_get (own := own) (ref := (T k).1) (Ts := ro_WT) hK.1 hK.2.1 hK.2.2.2.2.1 h5 hK.2.2.2.1 hK.2.2.2.2.2.1 hP id (by rw [ro_wl_at hid, ro_ent_obj hs]) h1 k h3 (hK.2.2.2.2.1 _ h10) (fun _ q => q) (v := ro_fv (kG K) c id μ k) (by simp [h2, h3]) d (kk H lo ls hP hS hl)
theorem ro_geti (hK : ro_C K own cc nL h) {idx c k id : Nat} {ty : FieldType} {z : Nat} (hF : ro_FL own idx c k ty (0, z)) (hs : ro_sh id = (0, c)) (d : decode cc pc = .ok (.getfield idx, 3)) (kk : ro_X K (pc + 3) L (.int (μ id k) :: st) μ) : ro_X K pc L (.ref (ro_ad (kG K) id) :: st) μ := by
  refine ro_getv hK hF hs d ?_
  obtain ⟨C, T, N, ty0, h1, h2, h3, h4, h5⟩ := hF
  simp only [ro_fv, h4]
  exact kk
theorem ro_getr (hK : ro_C K own cc nL h) {idx c k id : Nat} {ty : FieldType} {z : Nat} (hF : ro_FL own idx c k ty (1, z)) (hs : ro_sh id = (0, c)) (d : decode cc pc = .ok (.getfield idx, 3)) (kk : ro_X K (pc + 3) L (.ref (ro_ad (kG K) (id + z)) :: st) μ) : ro_X K pc L (.ref (ro_ad (kG K) id) :: st) μ := by
  refine ro_getv hK hF hs d ?_
  obtain ⟨C, T, N, ty0, h1, h2, h3, h4, h5⟩ := hF
  simp only [ro_fv, h4]
  exact kk
theorem ro_getm (hK : ro_C K own cc nL h) {idx c k id : Nat} {ty : FieldType} {z : Nat} (hF : ro_FL own idx c k ty (2, z)) (hs : ro_sh id = (0, c)) (d : decode cc pc = .ok (.getfield idx, 3)) (kk : ro_X K (pc + 3) L (.ref (ro_ad (kG K) (μ id k).toNatClampNeg) :: st) μ) : ro_X K pc L (.ref (ro_ad (kG K) id) :: st) μ := by
  refine ro_getv hK hF hs d ?_
  obtain ⟨C, T, N, ty0, h1, h2, h3, h4, h5⟩ := hF
  simp only [ro_fv, h4]
  exact kk
theorem ro_puti (hK : ro_C K own cc nL h) {idx c k id : Nat} {ty : FieldType} {z : Nat} {v : Int32} (hF : ro_FL own idx c k ty (0, z)) (hs : ro_sh id = (0, c)) (hn : narrow ty (.int v) = .int v) (hf : fits ty (.int v) = true) (d : decode cc pc = .ok (.putfield idx, 3)) (kk : ro_X K (pc + 3) L st (ro_set μ id k v)) : ro_X K pc L (.int v :: .ref (ro_ad (kG K) id) :: st) μ := by
  intro H lo ls hP hS hl
  obtain ⟨C, T, N, ty0, h1, h2, h3, h4, h5, h6, h7, h8, h9, h10⟩ := hF
  have hid := ro_sh_lt hs (by decide)
  refine va_put (own := own) (ref := (T k).1) (Ts := ro_WT) hK.1 hK.2.1 hK.2.2.2.2.1 h5 ty0 h6 h7 hK.2.2.2.1 hK.2.2.2.2.2.1 hP (hK.2.2.2.2.2.2.1 μ) hS id (by rw [ro_wl_at hid, ro_ent_obj hs]) h1 k h3 (hK.2.2.2.2.1 _ h10) (fun _ q => q) (by rw [h9]; rfl) (ty := ty) (by rw [← h8]; exact h6 k h3) hn hf (by simp [h2, h3]) d (fun H1 lo1 g1 g2 g3 => ?_)
  rw [ro_wl_int hs (by rw [h4])] at g1
  exact kk H1 lo1 ls g1 g3 hl
theorem ro_putm (hK : ro_C K own cc nL h) {idx c k id r : Nat} {ty : FieldType} {z : Nat} (hF : ro_FL own idx c k ty (2, z)) (hs : ro_sh id = (0, c)) (hr : r < 2 ^ 31) (hn : ∀ a, narrow ty (.ref a) = .ref a) (hf : ∀ a, fits ty (.ref a) = true) (d : decode cc pc = .ok (.putfield idx, 3)) (kk : ro_X K (pc + 3) L st (ro_set μ id k (nI r))) : ro_X K pc L (.ref (ro_ad (kG K) r) :: .ref (ro_ad (kG K) id) :: st) μ := by
  intro H lo ls hP hS hl
  obtain ⟨C, T, N, ty0, h1, h2, h3, h4, h5, h6, h7, h8, h9, h10⟩ := hF
  have hid := ro_sh_lt hs (by decide)
  refine va_put (own := own) (ref := (T k).1) (Ts := ro_WT) hK.1 hK.2.1 hK.2.2.2.2.1 h5 ty0 h6 h7 hK.2.2.2.1 hK.2.2.2.2.2.1 hP (hK.2.2.2.2.2.2.1 μ) hS id (by rw [ro_wl_at hid, ro_ent_obj hs]) h1 k h3 (hK.2.2.2.2.1 _ h10) (fun _ q => q) (by rw [h9]; rfl) (ty := ty) (by rw [← h8]; exact h6 k h3) (hn _) (hf _) (by simp [h2, h3]) d (fun H1 lo1 g1 g2 g3 => ?_)
  rw [ro_wl_ref hs (by rw [h4]) hr] at g1
  exact kk H1 lo1 ls g1 g3 hl
theorem ro_iald (hK : ro_C K own cc nL h) {id n : Nat} {i : Int32} (hs : ro_sh id = (1, n)) (hi : ro_in i n) (d : decode cc pc = .ok (.iaload, 1)) (kk : ro_X K (pc + 1) L (.int (μ id i.toNatClampNeg) :: st) μ) : ro_X K pc L (.int i :: .ref (ro_ad (kG K) id) :: st) μ := fun H lo ls hP hS hl =>
  va_iald hK.1 hK.2.1 hK.2.2.2.2.2.1 hP id 0 (by rw [ro_wl_at (ro_sh_lt hs (by decide)), ro_ent_arr hs (Or.inl rfl)]) rfl (ro_in_vp hi) d (kk H lo ls hP hS hl)
theorem ro_zald (hK : ro_C K own cc nL h) {id n : Nat} {i : Int32} (hs : ro_sh id = (2, n)) (hi : ro_in i n) (d : decode cc pc = .ok (.baload, 1)) (kk : ro_X K (pc + 1) L (.int (μ id i.toNatClampNeg) :: st) μ) : ro_X K pc L (.int i :: .ref (ro_ad (kG K) id) :: st) μ := fun H lo ls hP hS hl =>
  va_zald hK.1 hK.2.1 hK.2.2.2.2.2.1 hP id 1 (by rw [ro_wl_at (ro_sh_lt hs (by decide)), ro_ent_arr hs (Or.inr (Or.inl rfl))]) rfl (ro_in_vp hi) d (kk H lo ls hP hS hl)
theorem ro_bald (hK : ro_C K own cc nL h) {id n : Nat} {i : Int32} (hs : ro_sh id = (3, n)) (hi : ro_in i n) (d : decode cc pc = .ok (.baload, 1)) (kk : ro_X K (pc + 1) L (.int (μ id i.toNatClampNeg) :: st) μ) : ro_X K pc L (.int i :: .ref (ro_ad (kG K) id) :: st) μ := fun H lo ls hP hS hl =>
  va_bald hK.1 hK.2.1 hK.2.2.2.2.2.1 hP id 2 (by rw [ro_wl_at (ro_sh_lt hs (by decide)), ro_ent_arr hs (Or.inr (Or.inr rfl))]) rfl (ro_in_vp hi) d (kk H lo ls hP hS hl)
theorem ro_aald (hK : ro_C K own cc nL h) {id n : Nat} {i : Int32} (hs : ro_sh id = (4, n)) (hi : ro_in i n) (d : decode cc pc = .ok (.aaload, 1)) (kk : ro_X K (pc + 1) L (.ref (ro_ad (kG K) (id + 2 + 3 * i.toNatClampNeg)) :: st) μ) : ro_X K pc L (.int i :: .ref (ro_ad (kG K) id) :: st) μ := fun H lo ls hP hS hl =>
  va_aldq (f := fun j => some (ro_ad (kG K) (id + 2 + 3 * j))) hK.1 hK.2.1 hK.2.2.2.2.2.1 hP id 3 (by rw [ro_wl_at (ro_sh_lt hs (by decide)), ro_ent_q hs]) rfl (ro_in_vp hi) d (kk H lo ls hP hS hl)
theorem ro_iast (hK : ro_C K own cc nL h) {id n : Nat} {i x : Int32} (hs : ro_sh id = (1, n)) (hi : ro_in i n) (d : decode cc pc = .ok (.iastore, 1)) (kk : ro_X K (pc + 1) L st (ro_set μ id i.toNatClampNeg x)) : ro_X K pc L (.int x :: .int i :: .ref (ro_ad (kG K) id) :: st) μ := fun H lo ls hP hS hl =>
  va_iast hK.1 hK.2.1 hK.2.2.2.2.2.1 hP (hK.2.2.2.2.2.2.1 μ) hS id 0 (by rw [ro_wl_at (ro_sh_lt hs (by decide)), ro_ent_arr hs (Or.inl rfl)]) rfl (ro_in_vp hi) d (fun H1 lo1 g1 g2 g3 => by
    rw [ro_wl_arr hs (Or.inl rfl)] at g1
    exact kk H1 lo1 ls g1 g3 hl)
theorem ro_zast (hK : ro_C K own cc nL h) {id n : Nat} {i x : Int32} (hs : ro_sh id = (2, n)) (hi : ro_in i n) (d : decode cc pc = .ok (.bastore, 1)) (kk : ro_X K (pc + 1) L st (ro_set μ id i.toNatClampNeg (vp_nar .boolean x))) : ro_X K pc L (.int x :: .int i :: .ref (ro_ad (kG K) id) :: st) μ := fun H lo ls hP hS hl =>
  va_zast hK.1 hK.2.1 hK.2.2.2.2.2.1 hP (hK.2.2.2.2.2.2.1 μ) hS id 1 (by rw [ro_wl_at (ro_sh_lt hs (by decide)), ro_ent_arr hs (Or.inr (Or.inl rfl))]) rfl (ro_in_vp hi) d (fun H1 lo1 g1 g2 g3 => by
    rw [ro_wl_arr hs (Or.inr (Or.inl rfl))] at g1
    exact kk H1 lo1 ls g1 g3 hl)
theorem ro_bast (hK : ro_C K own cc nL h) {id n : Nat} {i x : Int32} (hs : ro_sh id = (3, n)) (hi : ro_in i n) (d : decode cc pc = .ok (.bastore, 1)) (kk : ro_X K (pc + 1) L st (ro_set μ id i.toNatClampNeg (vp_nar .byte x))) : ro_X K pc L (.int x :: .int i :: .ref (ro_ad (kG K) id) :: st) μ := fun H lo ls hP hS hl =>
  va_bast hK.1 hK.2.1 hK.2.2.2.2.2.1 hP (hK.2.2.2.2.2.2.1 μ) hS id 2 (by rw [ro_wl_at (ro_sh_lt hs (by decide)), ro_ent_arr hs (Or.inr (Or.inr rfl))]) rfl (ro_in_vp hi) d (fun H1 lo1 g1 g2 g3 => by
    rw [ro_wl_arr hs (Or.inr (Or.inr rfl))] at g1
    exact kk H1 lo1 ls g1 g3 hl)
theorem ro_alen (hK : ro_C K own cc nL h) {id n : Nat} (hs : ro_sh id = (1, n)) (d : decode cc pc = .ok (.arraylength, 1)) (kk : ro_X K (pc + 1) L (.int (nI n) :: st) μ) : ro_X K pc L (.ref (ro_ad (kG K) id) :: st) μ := fun H lo ls hP hS hl =>
  va_alen hK.1 hK.2.1 hK.2.2.2.2.2.1 hP id 0 (x := (n, .inl (μ id))) (by rw [ro_wl_at (ro_sh_lt hs (by decide)), ro_ent_arr hs (Or.inl rfl)]) rfl rfl d (kk H lo ls hP hS hl)
/-- System.arraycopy between int arrays -/
theorem ro_copy (hK : ro_C K own cc nL h) {idx i0 i1 n0 n1 : Nat} {sp dp n : Int32} (hl : Cond.methodLink own idx arraycopyName ∈ ro_WT) (hnat : Cond.native arraycopyName ∈ ro_WT) (hstat : Cond.static arraycopyName ∈ ro_WT) (hini : Cond.initialized "java/lang/System" ∈ ro_WT) (hs0 : ro_sh i0 = (1, n0)) (hs1 : ro_sh i1 = (1, n1)) (h1 : ¬ sp < 0) (h2 : ¬ dp < 0) (h3 : ¬ n < 0) (h4 : sp.toNatClampNeg + n.toNatClampNeg ≤ n0) (h5 : dp.toNatClampNeg + n.toNatClampNeg ≤ n1) (hh : 1 ≤ h) (hr : (st.map fun v => v.category).sum ≤ 8) (d : decode cc pc = .ok (.invokestatic idx, 3)) (kk : ro_X K (pc + 3) L st (ro_arr μ i1 (va_cpy (μ i0) (μ i1) sp.toNatClampNeg dp.toNatClampNeg n.toNatClampNeg))) : ro_X K pc L (.int n :: .int dp :: .ref (ro_ad (kG K) i1) :: .int sp :: .ref (ro_ad (kG K) i0) :: st) μ := by
  intro H lo ls hP hS hls
  have hfr := hK.2.2.2.2.2.2.2.2.2.1
  have hlo := hK.2.2.2.2.2.2.2.2.2.2.1
  refine va_copyi (own := own) (index := idx) (ty := .int) hK.1 hK.2.1 (hK.2.2.1.trans hls.1.symm) hK.2.2.2.1 (hK.2.2.2.2.1 _ hl) (hK.2.2.2.2.1 _ hnat) (hK.2.2.2.2.1 _ hstat) (hK.2.2.2.2.1 _ hini) hK.2.2.2.2.2.1 hP (hK.2.2.2.2.2.2.1 μ) hS i0 i1 0 0 (by rw [ro_wl_at (ro_sh_lt hs0 (by decide)), ro_ent_arr hs0 (Or.inl rfl)]) (by rw [ro_wl_at (ro_sh_lt hs1 (by decide)), ro_ent_arr hs1 (Or.inl rfl)]) rfl rfl rfl h1 h2 h3 h4 h5 (fun _ _ => rfl) (by omega) ?_ d (fun H1 lo1 g1 g2 g3 => ?_)
  · have h6 : nativeFrameWords "java/lang/System" "arraycopy" 5 ≤ 30 := by decide
    omega
  · rw [ro_wl_arr hs1 (Or.inl rfl)] at g1
    exact kk H1 lo1 ls g1 g3 hls
end FLD
