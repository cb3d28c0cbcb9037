section Xa
variable {d : Nat} {L st : List Value} {μ : mM} {Q : Option Value → mM → Prop} {t : mL} {V : Nat → Nat → Value} {A : Nat → Nat → Int32} {P : Nat → Nat → Option Nat} {N S : Nat} {K : Nat → Nat × Nat}
variable {a0 a1 a2 a3 a4 a5 a6 a7 a8 a9 a10 a11 a12 b0 b1 b2 b3 s0 s1 s2 s3 : Value} {x y i0 i1 i2 i3 i4 : Int32} {w z w2 : Int64} {r q r0 r1 r2 : Nat}
theorem c_0 : Call (d + 1) 0 [.int i0, .int i1] μ Q = Ev d 0 0 [.int i0, .int i1, .null] [] μ Q := call_ev rfl rfl 
theorem x_0_0 : Ev d 0 0 (.int x :: L) st μ Q = Ev d 0 1 (.int x :: L) (.int x :: st) μ Q := e_iload_n (by decide +kernel : decode (bOf 0) 0 = .ok (.iload_n 0, 1)) rfl
theorem x_0_1 : Ev d 0 1 L (.int x :: st) μ Q = if x < iI 0 then Ev d 0 20 L st μ Q else Ev d 0 4 L st μ Q := e_if_lt (by decide +kernel : decode (bOf 0) 1 = .ok (.ifCond .lt 19, 3)) (by omega)
theorem x_0_4 : Ev d 0 4 (.int x :: L) st μ Q = Ev d 0 5 (.int x :: L) (.int x :: st) μ Q := e_iload_n (by decide +kernel : decode (bOf 0) 4 = .ok (.iload_n 0, 1)) rfl
theorem x_0_5 : Ev d 0 5 L st μ Q = Ev d 0 8 L (.ref 0 :: st) μ Q := e_gets (by decide +kernel : decode (bOf 0) 5 = .ok (.getstatic 9, 3)) (by decide +kernel)
theorem x_0_8 (h : kd t r = 10) : Ev d 0 8 L (.ref r :: st) (t, V, A, P) Q = Ev d 0 9 L (.int (Int32.ofNat (ln t r)) :: st) (t, V, A, P) Q := e_alen (by decide +kernel : decode (bOf 0) 8 = .ok (.arraylength, 1)) h
theorem x_0_9 : Ev d 0 9 L (.int y :: .int x :: st) μ Q = if x < y then Ev d 0 12 L st μ Q else Ev d 0 20 L st μ Q := e_icmp_ge (by decide +kernel : decode (bOf 0) 9 = .ok (.if_icmp .ge 11, 3)) (by omega)
theorem x_0_12 : Ev d 0 12 L st μ Q = Ev d 0 15 L (.ref 0 :: st) μ Q := e_gets (by decide +kernel : decode (bOf 0) 12 = .ok (.getstatic 9, 3)) (by decide +kernel)
theorem x_0_15 : Ev d 0 15 (.int x :: L) st μ Q = Ev d 0 16 (.int x :: L) (.int x :: st) μ Q := e_iload_n (by decide +kernel : decode (bOf 0) 15 = .ok (.iload_n 0, 1)) rfl
theorem x_0_16 (h : kd t r = 10) (hi : inB x (ln t r) = true) : Ev d 0 16 L (.int x :: .ref r :: st) (t, V, A, P) Q = Ev d 0 17 L (.int (A r x.toNatClampNeg) :: st) (t, V, A, P) Q := e_iald_ro (by decide +kernel : decode (bOf 0) 16 = .ok (.iaload, 1)) h hi
theorem x_0_17 : Ev d 0 17 L st μ Q = Ev d 0 21 L st μ Q := e_goto (by decide +kernel : decode (bOf 0) 17 = .ok (.goto 4, 3)) (by omega)
theorem x_0_20 : Ev d 0 20 L st μ Q = Ev d 0 21 L (.int (iI 0) :: st) μ Q := e_iconst (by decide +kernel : decode (bOf 0) 20 = .ok (.iconst 0, 1))
theorem x_0_21 (h : a1.category = 1) : Ev d 0 21 (a0 :: a1 :: a2 :: L) (.int x :: st) μ Q = Ev d 0 22 (a0 :: a1 :: .int x :: L) st μ Q := e_istore_n (by decide +kernel : decode (bOf 0) 21 = .ok (.istore_n 2, 1)) (by show stOK _ 2 = true; simp [stOK, h])
theorem x_0_22 : Ev d 0 22 (a0 :: .int x :: L) st μ Q = Ev d 0 23 (a0 :: .int x :: L) (.int x :: st) μ Q := e_iload_n (by decide +kernel : decode (bOf 0) 22 = .ok (.iload_n 1, 1)) rfl
theorem x_0_23 : Ev d 0 23 L st μ Q = Ev d 0 24 L (.int (iI 1) :: st) μ Q := e_iconst (by decide +kernel : decode (bOf 0) 23 = .ok (.iconst 1, 1))
theorem x_0_24 : Ev d 0 24 L (.int y :: .int x :: st) μ Q = if x = y then Ev d 0 27 L st μ Q else Ev d 0 40 L st μ Q := e_icmp_ne (by decide +kernel : decode (bOf 0) 24 = .ok (.if_icmp .ne 16, 3)) (by omega)
theorem x_0_27 : Ev d 0 27 (.int x :: L) st μ Q = Ev d 0 28 (.int x :: L) (.int x :: st) μ Q := e_iload_n (by decide +kernel : decode (bOf 0) 27 = .ok (.iload_n 0, 1)) rfl
theorem x_0_28 : Ev d 0 28 L st μ Q = Ev d 0 30 L (.int (iI 18) :: st) μ Q := e_bipush (by decide +kernel : decode (bOf 0) 28 = .ok (.bipush 18, 2)) (by decide +kernel)
theorem x_0_30 : Ev d 0 30 L (.int y :: .int x :: st) μ Q = if x < y then Ev d 0 40 L st μ Q else Ev d 0 33 L st μ Q := e_icmp_lt (by decide +kernel : decode (bOf 0) 30 = .ok (.if_icmp .lt 10, 3)) (by omega)
theorem x_0_33 : Ev d 0 33 L st μ Q = Ev d 0 35 L (.int (iI 63) :: st) μ Q := e_bipush (by decide +kernel : decode (bOf 0) 33 = .ok (.bipush 63, 2)) (by decide +kernel)
theorem x_0_35 : Ev d 0 35 (a0 :: a1 :: .int x :: L) st μ Q = Ev d 0 36 (a0 :: a1 :: .int x :: L) (.int x :: st) μ Q := e_iload_n (by decide +kernel : decode (bOf 0) 35 = .ok (.iload_n 2, 1)) rfl
theorem x_0_36 : Ev d 0 36 L (.int y :: .int x :: st) μ Q = Ev d 0 37 L (.int (x - y) :: st) μ Q := e_isub (by decide +kernel : decode (bOf 0) 36 = .ok (.isub, 1))
theorem x_0_37 : Ev d 0 37 L st μ Q = Ev d 0 41 L st μ Q := e_goto (by decide +kernel : decode (bOf 0) 37 = .ok (.goto 4, 3)) (by omega)
theorem x_0_40 : Ev d 0 40 (a0 :: a1 :: .int x :: L) st μ Q = Ev d 0 41 (a0 :: a1 :: .int x :: L) (.int x :: st) μ Q := e_iload_n (by decide +kernel : decode (bOf 0) 40 = .ok (.iload_n 2, 1)) rfl
theorem x_0_41 : Ev d 0 41 L [.int x] μ Q = Q (some (.int x)) μ := e_iret (by decide +kernel : decode (bOf 0) 41 = .ok (.ireturn, 1)) (by decide +kernel)
theorem c_1 : Call (d + 1) 1 [.int i0] μ Q = Ev d 1 0 [.int i0] [] μ Q := call_ev rfl rfl 
theorem x_1_0 : Ev d 1 0 (.int x :: L) st μ Q = Ev d 1 1 (.int x :: L) (.int x :: st) μ Q := e_iload_n (by decide +kernel : decode (bOf 1) 0 = .ok (.iload_n 0, 1)) rfl
theorem x_1_1 : Ev d 1 1 L (.int x :: st) μ Q = if x < iI 0 then Ev d 1 20 L st μ Q else Ev d 1 4 L st μ Q := e_if_lt (by decide +kernel : decode (bOf 1) 1 = .ok (.ifCond .lt 19, 3)) (by omega)
theorem x_1_4 : Ev d 1 4 (.int x :: L) st μ Q = Ev d 1 5 (.int x :: L) (.int x :: st) μ Q := e_iload_n (by decide +kernel : decode (bOf 1) 4 = .ok (.iload_n 0, 1)) rfl
theorem x_1_5 : Ev d 1 5 L st μ Q = Ev d 1 8 L (.ref 1 :: st) μ Q := e_gets (by decide +kernel : decode (bOf 1) 5 = .ok (.getstatic 15, 3)) (by decide +kernel)
theorem x_1_8 (h : kd t r = 10) : Ev d 1 8 L (.ref r :: st) (t, V, A, P) Q = Ev d 1 9 L (.int (Int32.ofNat (ln t r)) :: st) (t, V, A, P) Q := e_alen (by decide +kernel : decode (bOf 1) 8 = .ok (.arraylength, 1)) h
theorem x_1_9 : Ev d 1 9 L (.int y :: .int x :: st) μ Q = if x < y then Ev d 1 12 L st μ Q else Ev d 1 20 L st μ Q := e_icmp_ge (by decide +kernel : decode (bOf 1) 9 = .ok (.if_icmp .ge 11, 3)) (by omega)
theorem x_1_12 : Ev d 1 12 L st μ Q = Ev d 1 15 L (.ref 1 :: st) μ Q := e_gets (by decide +kernel : decode (bOf 1) 12 = .ok (.getstatic 15, 3)) (by decide +kernel)
theorem x_1_15 : Ev d 1 15 (.int x :: L) st μ Q = Ev d 1 16 (.int x :: L) (.int x :: st) μ Q := e_iload_n (by decide +kernel : decode (bOf 1) 15 = .ok (.iload_n 0, 1)) rfl
theorem x_1_16 (h : kd t r = 10) (hi : inB x (ln t r) = true) : Ev d 1 16 L (.int x :: .ref r :: st) (t, V, A, P) Q = Ev d 1 17 L (.int (A r x.toNatClampNeg) :: st) (t, V, A, P) Q := e_iald_ro (by decide +kernel : decode (bOf 1) 16 = .ok (.iaload, 1)) h hi
theorem x_1_17 : Ev d 1 17 L st μ Q = Ev d 1 22 L st μ Q := e_goto (by decide +kernel : decode (bOf 1) 17 = .ok (.goto 5, 3)) (by omega)
theorem x_1_20 : Ev d 1 20 L st μ Q = Ev d 1 22 L (.int (iI (-9)) :: st) μ Q := e_bipush (by decide +kernel : decode (bOf 1) 20 = .ok (.bipush (-9), 2)) (by decide +kernel)
theorem x_1_22 : Ev d 1 22 L [.int x] μ Q = Q (some (.int x)) μ := e_iret (by decide +kernel : decode (bOf 1) 22 = .ok (.ireturn, 1)) (by decide +kernel)
theorem c_2 : Call (d + 1) 2 [.int i0, .int i1] μ Q = Ev d 2 0 [.int i0, .int i1, .null] [] μ Q := call_ev rfl rfl 
theorem x_2_0 : Ev d 2 0 (.int x :: L) st μ Q = Ev d 2 1 (.int x :: L) (.int x :: st) μ Q := e_iload_n (by decide +kernel : decode (bOf 2) 0 = .ok (.iload_n 0, 1)) rfl
theorem x_2_1 : Ev d 2 1 L [b0] μ Q = Call d 1 [b0] μ (fun v μ1 => Ev d 2 4 L (v.toList ++ []) μ1 Q) := e_callS (a := [b0]) (r := []) (by decide +kernel : decode (bOf 2) 1 = .ok (.invokestatic 18, 3)) (by decide +kernel) (by decide +kernel) (by omega) rfl (by simp)
theorem x_2_4 (h : a1.category = 1) : Ev d 2 4 (a0 :: a1 :: a2 :: L) (.int x :: st) μ Q = Ev d 2 5 (a0 :: a1 :: .int x :: L) st μ Q := e_istore_n (by decide +kernel : decode (bOf 2) 4 = .ok (.istore_n 2, 1)) (by show stOK _ 2 = true; simp [stOK, h])
theorem x_2_5 : Ev d 2 5 (a0 :: a1 :: .int x :: L) st μ Q = Ev d 2 6 (a0 :: a1 :: .int x :: L) (.int x :: st) μ Q := e_iload_n (by decide +kernel : decode (bOf 2) 5 = .ok (.iload_n 2, 1)) rfl
theorem x_2_6 : Ev d 2 6 L st μ Q = Ev d 2 8 L (.int (iI (-9)) :: st) μ Q := e_bipush (by decide +kernel : decode (bOf 2) 6 = .ok (.bipush (-9), 2)) (by decide +kernel)
theorem x_2_8 : Ev d 2 8 L (.int y :: .int x :: st) μ Q = if x = y then Ev d 2 24 L st μ Q else Ev d 2 11 L st μ Q := e_icmp_eq (by decide +kernel : decode (bOf 2) 8 = .ok (.if_icmp .eq 16, 3)) (by omega)
theorem x_2_11 : Ev d 2 11 (a0 :: a1 :: .int x :: L) st μ Q = Ev d 2 12 (a0 :: a1 :: .int x :: L) (.int x :: st) μ Q := e_iload_n (by decide +kernel : decode (bOf 2) 11 = .ok (.iload_n 2, 1)) rfl
theorem x_2_12 : Ev d 2 12 (a0 :: .int x :: L) st μ Q = Ev d 2 13 (a0 :: .int x :: L) (.int x :: st) μ Q := e_iload_n (by decide +kernel : decode (bOf 2) 12 = .ok (.iload_n 1, 1)) rfl
theorem x_2_13 : Ev d 2 13 L [b1, b0] μ Q = Call d 0 [b0, b1] μ (fun v μ1 => Ev d 2 16 L (v.toList ++ []) μ1 Q) := e_callS (a := [b0, b1]) (r := []) (by decide +kernel : decode (bOf 2) 13 = .ok (.invokestatic 22, 3)) (by decide +kernel) (by decide +kernel) (by omega) rfl (by simp)
theorem x_2_16 : Ev d 2 16 (.int x :: L) st μ Q = Ev d 2 17 (.int x :: L) (.int x :: st) μ Q := e_iload_n (by decide +kernel : decode (bOf 2) 16 = .ok (.iload_n 0, 1)) rfl
theorem x_2_17 : Ev d 2 17 L (.int y :: .int x :: st) μ Q = if x = y then Ev d 2 20 L st μ Q else Ev d 2 24 L st μ Q := e_icmp_ne (by decide +kernel : decode (bOf 2) 17 = .ok (.if_icmp .ne 7, 3)) (by omega)
theorem x_2_20 : Ev d 2 20 L st μ Q = Ev d 2 21 L (.int (iI 1) :: st) μ Q := e_iconst (by decide +kernel : decode (bOf 2) 20 = .ok (.iconst 1, 1))
theorem x_2_21 : Ev d 2 21 L st μ Q = Ev d 2 25 L st μ Q := e_goto (by decide +kernel : decode (bOf 2) 21 = .ok (.goto 4, 3)) (by omega)
theorem x_2_24 : Ev d 2 24 L st μ Q = Ev d 2 25 L (.int (iI 0) :: st) μ Q := e_iconst (by decide +kernel : decode (bOf 2) 24 = .ok (.iconst 0, 1))
theorem x_2_25 (hx : isB x) : Ev d 2 25 L [.int x] μ Q = Q (some (.int x)) μ := e_zret (by decide +kernel : decode (bOf 2) 25 = .ok (.ireturn, 1)) (by decide +kernel) hx
theorem c_3 : Call (d + 1) 3 [.int i0, .int i1] μ Q = Ev d 3 0 [.int i0, .int i1, .null] [] μ Q := call_ev rfl rfl 
theorem x_3_0 : Ev d 3 0 (.int x :: L) st μ Q = Ev d 3 1 (.int x :: L) (.int x :: st) μ Q := e_iload_n (by decide +kernel : decode (bOf 3) 0 = .ok (.iload_n 0, 1)) rfl
theorem x_3_1 : Ev d 3 1 L [b0] μ Q = Call d 75 [b0] μ (fun v μ1 => Ev d 3 4 L (v.toList ++ []) μ1 Q) := e_callS (a := [b0]) (r := []) (by decide +kernel : decode (bOf 3) 1 = .ok (.invokestatic 26, 3)) (by decide +kernel) (by decide +kernel) (by omega) rfl (by simp)
theorem x_3_4 (h : a1.category = 1) : Ev d 3 4 (a0 :: a1 :: a2 :: L) (.int x :: st) μ Q = Ev d 3 5 (a0 :: a1 :: .int x :: L) st μ Q := e_istore_n (by decide +kernel : decode (bOf 3) 4 = .ok (.istore_n 2, 1)) (by show stOK _ 2 = true; simp [stOK, h])
theorem x_3_5 : Ev d 3 5 (a0 :: a1 :: .int x :: L) st μ Q = Ev d 3 6 (a0 :: a1 :: .int x :: L) (.int x :: st) μ Q := e_iload_n (by decide +kernel : decode (bOf 3) 5 = .ok (.iload_n 2, 1)) rfl
theorem x_3_6 : Ev d 3 6 L st μ Q = Ev d 3 7 L (.int (iI 3) :: st) μ Q := e_iconst (by decide +kernel : decode (bOf 3) 6 = .ok (.iconst 3, 1))
theorem x_3_7 : Ev d 3 7 L (.int y :: .int x :: st) μ Q = if x = y then Ev d 3 10 L st μ Q else Ev d 3 12 L st μ Q := e_icmp_ne (by decide +kernel : decode (bOf 3) 7 = .ok (.if_icmp .ne 5, 3)) (by omega)
theorem x_3_10 : Ev d 3 10 (a0 :: .int x :: L) st μ Q = Ev d 3 11 (a0 :: .int x :: L) (.int x :: st) μ Q := e_iload_n (by decide +kernel : decode (bOf 3) 10 = .ok (.iload_n 1, 1)) rfl
theorem x_3_11 : Ev d 3 11 L [.int x] μ Q = Q (some (.int x)) μ := e_iret (by decide +kernel : decode (bOf 3) 11 = .ok (.ireturn, 1)) (by decide +kernel)
theorem x_3_12 : Ev d 3 12 (a0 :: a1 :: .int x :: L) st μ Q = Ev d 3 13 (a0 :: a1 :: .int x :: L) (.int x :: st) μ Q := e_iload_n (by decide +kernel : decode (bOf 3) 12 = .ok (.iload_n 2, 1)) rfl
theorem x_3_13 : Ev d 3 13 L st μ Q = Ev d 3 14 L (.int (iI 3) :: st) μ Q := e_iconst (by decide +kernel : decode (bOf 3) 13 = .ok (.iconst 3, 1))
theorem x_3_14 : Ev d 3 14 L (.int y :: .int x :: st) μ Q = if y < x then Ev d 3 17 L st μ Q else Ev d 3 21 L st μ Q := e_icmp_le (by decide +kernel : decode (bOf 3) 14 = .ok (.if_icmp .le 7, 3)) (by omega)
theorem x_3_17 : Ev d 3 17 L st μ Q = Ev d 3 18 L (.int (iI 1) :: st) μ Q := e_iconst (by decide +kernel : decode (bOf 3) 17 = .ok (.iconst 1, 1))
theorem x_3_18 : Ev d 3 18 L st μ Q = Ev d 3 22 L st μ Q := e_goto (by decide +kernel : decode (bOf 3) 18 = .ok (.goto 4, 3)) (by omega)
theorem x_3_21 : Ev d 3 21 L st μ Q = Ev d 3 22 L (.int (iI (-1)) :: st) μ Q := e_iconst (by decide +kernel : decode (bOf 3) 21 = .ok (.iconst (-1), 1))
theorem x_3_22 : Ev d 3 22 L [.int x] μ Q = Q (some (.int x)) μ := e_iret (by decide +kernel : decode (bOf 3) 22 = .ok (.ireturn, 1)) (by decide +kernel)
theorem c_4 : Call (d + 1) 4 [.ref r0] μ Q = Ev d 4 0 [.ref r0, .null] [] μ Q := call_ev rfl rfl 
theorem x_4_0 : Ev d 4 0 (.ref r :: L) st μ Q = Ev d 4 1 (.ref r :: L) (.ref r :: st) μ Q := e_aload_n (by decide +kernel : decode (bOf 4) 0 = .ok (.aload_n 0, 1)) rfl
theorem x_4_1 : Ev d 4 1 L [.ref r] μ Q = Ev d 4 4 L [] μ Q := e_obj (by decide +kernel : decode (bOf 4) 1 = .ok (.invokespecial 3, 3)) (by decide +kernel) (by decide +kernel) (by simp)
theorem x_4_4 : Ev d 4 4 (.ref r :: L) st μ Q = Ev d 4 5 (.ref r :: L) (.ref r :: st) μ Q := e_aload_n (by decide +kernel : decode (bOf 4) 4 = .ok (.aload_n 0, 1)) rfl
theorem x_4_5 : Ev d 4 5 L st μ Q = Ev d 4 7 L (.int (iI 7) :: st) μ Q := e_bipush (by decide +kernel : decode (bOf 4) 5 = .ok (.bipush 7, 2)) (by decide +kernel)
theorem x_4_7 : Ev d 4 7 L (.int (iI 7) :: st) ((N, S, K), V, A, P) Q = Ev d 4 10 L (.ref N :: st) ((N + 1, S + 7, up1 K N (8, 7)), V, A, up1 P N (fun _ => none)) Q := e_newq 7 (by decide +kernel : decode (bOf 4) 7 = .ok (.anewarray 9, 3)) (by decide +kernel) (by decide +kernel) (by decide +kernel)
theorem x_4_10 (h : kd t r = 0) : Ev d 4 10 L (.ref q :: .ref r :: st) (t, V, A, P) Q = Ev d 4 13 L st (t, up1 V r (up1 (V r) 0 (.ref q)), A, P) Q := e_putf (by decide +kernel : decode (bOf 4) 10 = .ok (.putfield 11, 3)) (by decide +kernel) (by decide +kernel) rfl h
theorem x_4_13 : Ev d 4 13 (.ref r :: L) st μ Q = Ev d 4 14 (.ref r :: L) (.ref r :: st) μ Q := e_aload_n (by decide +kernel : decode (bOf 4) 13 = .ok (.aload_n 0, 1)) rfl
theorem x_4_14 : Ev d 4 14 L st μ Q = Ev d 4 16 L (.int (iI 6) :: st) μ Q := e_bipush (by decide +kernel : decode (bOf 4) 14 = .ok (.bipush 6, 2)) (by decide +kernel)
theorem x_4_16 : Ev d 4 16 L (.int (iI 6) :: st) ((N, S, K), V, A, P) Q = Ev d 4 18 L (.ref N :: st) ((N + 1, S + 6, up1 K N (6, 6)), V, up1 A N (fun _ => 0), P) Q := e_newi 6 (by decide +kernel : decode (bOf 4) 16 = .ok (.newarray .int, 2)) (by decide +kernel) (by decide +kernel)
theorem x_4_18 (h : kd t r = 0) : Ev d 4 18 L (.ref q :: .ref r :: st) (t, V, A, P) Q = Ev d 4 21 L st (t, up1 V r (up1 (V r) 1 (.ref q)), A, P) Q := e_putf (by decide +kernel : decode (bOf 4) 18 = .ok (.putfield 17, 3)) (by decide +kernel) (by decide +kernel) rfl h
theorem x_4_21 : Ev d 4 21 (.ref r :: L) st μ Q = Ev d 4 22 (.ref r :: L) (.ref r :: st) μ Q := e_aload_n (by decide +kernel : decode (bOf 4) 21 = .ok (.aload_n 0, 1)) rfl
theorem x_4_22 : Ev d 4 22 L st μ Q = Ev d 4 24 L (.int (iI 6) :: st) μ Q := e_bipush (by decide +kernel : decode (bOf 4) 22 = .ok (.bipush 6, 2)) (by decide +kernel)
theorem x_4_24 : Ev d 4 24 L (.int (iI 6) :: st) ((N, S, K), V, A, P) Q = Ev d 4 26 L (.ref N :: st) ((N + 1, S + 6, up1 K N (6, 6)), V, up1 A N (fun _ => 0), P) Q := e_newi 6 (by decide +kernel : decode (bOf 4) 24 = .ok (.newarray .int, 2)) (by decide +kernel) (by decide +kernel)
theorem x_4_26 (h : kd t r = 0) : Ev d 4 26 L (.ref q :: .ref r :: st) (t, V, A, P) Q = Ev d 4 29 L st (t, up1 V r (up1 (V r) 2 (.ref q)), A, P) Q := e_putf (by decide +kernel : decode (bOf 4) 26 = .ok (.putfield 21, 3)) (by decide +kernel) (by decide +kernel) rfl h
theorem x_4_29 : Ev d 4 29 (.ref r :: L) st μ Q = Ev d 4 30 (.ref r :: L) (.ref r :: st) μ Q := e_aload_n (by decide +kernel : decode (bOf 4) 29 = .ok (.aload_n 0, 1)) rfl
theorem x_4_30 : Ev d 4 30 L st μ Q = Ev d 4 32 L (.int (iI 6) :: st) μ Q := e_bipush (by decide +kernel : decode (bOf 4) 30 = .ok (.bipush 6, 2)) (by decide +kernel)
theorem x_4_32 : Ev d 4 32 L (.int (iI 6) :: st) ((N, S, K), V, A, P) Q = Ev d 4 34 L (.ref N :: st) ((N + 1, S + 6, up1 K N (6, 6)), V, up1 A N (fun _ => 0), P) Q := e_newi 6 (by decide +kernel : decode (bOf 4) 32 = .ok (.newarray .int, 2)) (by decide +kernel) (by decide +kernel)
theorem x_4_34 (h : kd t r = 0) : Ev d 4 34 L (.ref q :: .ref r :: st) (t, V, A, P) Q = Ev d 4 37 L st (t, up1 V r (up1 (V r) 3 (.ref q)), A, P) Q := e_putf (by decide +kernel : decode (bOf 4) 34 = .ok (.putfield 24, 3)) (by decide +kernel) (by decide +kernel) rfl h
theorem x_4_37 : Ev d 4 37 (.ref r :: L) st μ Q = Ev d 4 38 (.ref r :: L) (.ref r :: st) μ Q := e_aload_n (by decide +kernel : decode (bOf 4) 37 = .ok (.aload_n 0, 1)) rfl
theorem x_4_38 : Ev d 4 38 L st μ Q = Ev d 4 39 L (.int (iI 0) :: st) μ Q := e_iconst (by decide +kernel : decode (bOf 4) 38 = .ok (.iconst 0, 1))
theorem x_4_39 (h : kd t r = 0) : Ev d 4 39 L (.int x :: .ref r :: st) (t, V, A, P) Q = Ev d 4 42 L st (t, up1 V r (up1 (V r) 4 (.int x)), A, P) Q := e_putf (by decide +kernel : decode (bOf 4) 39 = .ok (.putfield 27, 3)) (by decide +kernel) (by decide +kernel) rfl h
theorem x_4_42 : Ev d 4 42 (.ref r :: L) st μ Q = Ev d 4 43 (.ref r :: L) (.ref r :: st) μ Q := e_aload_n (by decide +kernel : decode (bOf 4) 42 = .ok (.aload_n 0, 1)) rfl
theorem x_4_43 : Ev d 4 43 L st μ Q = Ev d 4 44 L (.int (iI 0) :: st) μ Q := e_iconst (by decide +kernel : decode (bOf 4) 43 = .ok (.iconst 0, 1))
theorem x_4_44 (h : kd t r = 0) : Ev d 4 44 L (.int x :: .ref r :: st) (t, V, A, P) Q = Ev d 4 47 L st (t, up1 V r (up1 (V r) 5 (.int x)), A, P) Q := e_putf (by decide +kernel : decode (bOf 4) 44 = .ok (.putfield 31, 3)) (by decide +kernel) (by decide +kernel) rfl h
theorem x_4_47 : Ev d 4 47 L st μ Q = Ev d 4 48 L (.int (iI 0) :: st) μ Q := e_iconst (by decide +kernel : decode (bOf 4) 47 = .ok (.iconst 0, 1))
theorem x_4_48 (h : a0.category = 1) : Ev d 4 48 (a0 :: a1 :: L) (.int x :: st) μ Q = Ev d 4 49 (a0 :: .int x :: L) st μ Q := e_istore_n (by decide +kernel : decode (bOf 4) 48 = .ok (.istore_n 1, 1)) (by show stOK _ 1 = true; simp [stOK, h])
theorem x_4_49 : Ev d 4 49 (a0 :: .int x :: L) st μ Q = Ev d 4 50 (a0 :: .int x :: L) (.int x :: st) μ Q := e_iload_n (by decide +kernel : decode (bOf 4) 49 = .ok (.iload_n 1, 1)) rfl
theorem x_4_50 : Ev d 4 50 L st μ Q = Ev d 4 52 L (.int (iI 6) :: st) μ Q := e_bipush (by decide +kernel : decode (bOf 4) 50 = .ok (.bipush 6, 2)) (by decide +kernel)
theorem x_4_52 : Ev d 4 52 L (.int y :: .int x :: st) μ Q = if y < x then Ev d 4 74 L st μ Q else Ev d 4 55 L st μ Q := e_icmp_gt (by decide +kernel : decode (bOf 4) 52 = .ok (.if_icmp .gt 22, 3)) (by omega)
theorem x_4_55 : Ev d 4 55 (.ref r :: L) st μ Q = Ev d 4 56 (.ref r :: L) (.ref r :: st) μ Q := e_aload_n (by decide +kernel : decode (bOf 4) 55 = .ok (.aload_n 0, 1)) rfl
theorem x_4_56 (h : kd t r = 0) : Ev d 4 56 L (.ref r :: st) (t, V, A, P) Q = Ev d 4 59 L (V r 0 :: st) (t, V, A, P) Q := e_getf (by decide +kernel : decode (bOf 4) 56 = .ok (.getfield 11, 3)) (by decide +kernel) (by decide +kernel) h
theorem x_4_59 : Ev d 4 59 (a0 :: .int x :: L) st μ Q = Ev d 4 60 (a0 :: .int x :: L) (.int x :: st) μ Q := e_iload_n (by decide +kernel : decode (bOf 4) 59 = .ok (.iload_n 1, 1)) rfl
theorem x_4_60 : Ev d 4 60 L st ((N, S, K), V, A, P) Q = Ev d 4 63 L (.ref N :: st) ((N + 1, S + 5, up1 K N (2, 5)), up1 V N (rw' [.int 0, .int 0, .int 0, .int 0, .int 0]), A, P) Q := e_new 5 [.int 0, .int 0, .int 0, .int 0, .int 0] (by decide +kernel : decode (bOf 4) 60 = .ok (.new 9, 3)) (by decide +kernel) (by decide +kernel) (by decide +kernel) (by decide +kernel)
theorem x_4_63 : Ev d 4 63 L (.ref r :: st) μ Q = Ev d 4 64 L (.ref r :: .ref r :: st) μ Q := e_dup_a (by decide +kernel : decode (bOf 4) 63 = .ok (.dup, 1))
theorem x_4_64 : Ev d 4 64 L [.ref r, s0, s1, s2] μ Q = Call d 20 [.ref r] μ (fun v μ1 => Ev d 4 67 L (v.toList ++ [s0, s1, s2]) μ1 Q) := e_callI (a := []) (r := [s0, s1, s2]) (by decide +kernel : decode (bOf 4) 64 = .ok (.invokespecial 34, 3)) (by decide +kernel) (by decide +kernel) (by decide +kernel) (by decide +kernel) (by omega) rfl (by simp)
theorem x_4_67 (h : kd t r = 8) (hv : kd t q = 2) (hi : inB x (ln t r) = true) : Ev d 4 67 L (.ref q :: .int x :: .ref r :: st) (t, V, A, P) Q = Ev d 4 68 L st (t, V, A, up1 P r (up1 (P r) x.toNatClampNeg (some q))) Q := e_aast8 (by decide +kernel : decode (bOf 4) 67 = .ok (.aastore, 1)) h hv hi
theorem x_4_68 (h : a0.category = 1) : Ev d 4 68 (a0 :: .int x :: L) st μ Q = Ev d 4 71 (a0 :: .int (x + (iI 1)) :: L) st μ Q := e_iinc (by decide +kernel : decode (bOf 4) 68 = .ok (.iinc 1 1, 3)) rfl (by simp [stOK, h])
theorem x_4_71 : Ev d 4 71 L st μ Q = Ev d 4 49 L st μ Q := e_goto (by decide +kernel : decode (bOf 4) 71 = .ok (.goto (-22), 3)) (by omega)
theorem x_4_74 : Ev d 4 74 L [] μ Q = Q none μ := e_ret (by decide +kernel : decode (bOf 4) 74 = .ok (.return_, 1)) (by decide +kernel)
theorem c_5 : Call (d + 1) 5 [.ref r0, .ref r1, .int i2] μ Q = Ev d 5 0 [.ref r0, .ref r1, .int i2, .null, .null] [] μ Q := call_ev rfl rfl 
theorem x_5_0 : Ev d 5 0 (a0 :: a1 :: .int x :: L) st μ Q = Ev d 5 1 (a0 :: a1 :: .int x :: L) (.int x :: st) μ Q := e_iload_n (by decide +kernel : decode (bOf 5) 0 = .ok (.iload_n 2, 1)) rfl
theorem x_5_1 : Ev d 5 1 L st μ Q = Ev d 5 2 L (.int (iI 1) :: st) μ Q := e_iconst (by decide +kernel : decode (bOf 5) 1 = .ok (.iconst 1, 1))
theorem x_5_2 : Ev d 5 2 L (.int y :: .int x :: st) μ Q = if x < y then Ev d 5 19 L st μ Q else Ev d 5 5 L st μ Q := e_icmp_lt (by decide +kernel : decode (bOf 5) 2 = .ok (.if_icmp .lt 17, 3)) (by omega)
theorem x_5_5 : Ev d 5 5 (a0 :: a1 :: .int x :: L) st μ Q = Ev d 5 6 (a0 :: a1 :: .int x :: L) (.int x :: st) μ Q := e_iload_n (by decide +kernel : decode (bOf 5) 5 = .ok (.iload_n 2, 1)) rfl
theorem x_5_6 : Ev d 5 6 L st μ Q = Ev d 5 8 L (.int (iI 6) :: st) μ Q := e_bipush (by decide +kernel : decode (bOf 5) 6 = .ok (.bipush 6, 2)) (by decide +kernel)
theorem x_5_8 : Ev d 5 8 L (.int y :: .int x :: st) μ Q = if y < x then Ev d 5 19 L st μ Q else Ev d 5 11 L st μ Q := e_icmp_gt (by decide +kernel : decode (bOf 5) 8 = .ok (.if_icmp .gt 11, 3)) (by omega)
theorem x_5_11 : Ev d 5 11 (a0 :: a1 :: .int x :: L) st μ Q = Ev d 5 12 (a0 :: a1 :: .int x :: L) (.int x :: st) μ Q := e_iload_n (by decide +kernel : decode (bOf 5) 11 = .ok (.iload_n 2, 1)) rfl
theorem x_5_12 : Ev d 5 12 (a0 :: .ref r :: L) st μ Q = Ev d 5 13 (a0 :: .ref r :: L) (.ref r :: st) μ Q := e_aload_n (by decide +kernel : decode (bOf 5) 12 = .ok (.aload_n 1, 1)) rfl
theorem x_5_13 (h : kd t r = 3) : Ev d 5 13 L (.ref r :: st) (t, V, A, P) Q = Ev d 5 16 L (V r 3 :: st) (t, V, A, P) Q := e_getf (by decide +kernel : decode (bOf 5) 13 = .ok (.getfield 35, 3)) (by decide +kernel) (by decide +kernel) h
theorem x_5_16 : Ev d 5 16 L (.int y :: .int x :: st) μ Q = if y < x then Ev d 5 19 L st μ Q else Ev d 5 20 L st μ Q := e_icmp_le (by decide +kernel : decode (bOf 5) 16 = .ok (.if_icmp .le 4, 3)) (by omega)
theorem x_5_19 : Ev d 5 19 L [] μ Q = Q none μ := e_ret (by decide +kernel : decode (bOf 5) 19 = .ok (.return_, 1)) (by decide +kernel)
theorem x_5_20 : Ev d 5 20 (a0 :: .ref r :: L) st μ Q = Ev d 5 21 (a0 :: .ref r :: L) (.ref r :: st) μ Q := e_aload_n (by decide +kernel : decode (bOf 5) 20 = .ok (.aload_n 1, 1)) rfl
theorem x_5_21 (h : kd t r = 3) : Ev d 5 21 L (.ref r :: st) (t, V, A, P) Q = Ev d 5 24 L (V r 3 :: st) (t, V, A, P) Q := e_getf (by decide +kernel : decode (bOf 5) 21 = .ok (.getfield 35, 3)) (by decide +kernel) (by decide +kernel) h
theorem x_5_24 : Ev d 5 24 (a0 :: a1 :: .int x :: L) st μ Q = Ev d 5 25 (a0 :: a1 :: .int x :: L) (.int x :: st) μ Q := e_iload_n (by decide +kernel : decode (bOf 5) 24 = .ok (.iload_n 2, 1)) rfl
theorem x_5_25 : Ev d 5 25 L (.int y :: .int x :: st) μ Q = Ev d 5 26 L (.int (x - y) :: st) μ Q := e_isub (by decide +kernel : decode (bOf 5) 25 = .ok (.isub, 1))
theorem x_5_26 (h : a2.category = 1) : Ev d 5 26 (a0 :: a1 :: a2 :: a3 :: L) (.int x :: st) μ Q = Ev d 5 27 (a0 :: a1 :: a2 :: .int x :: L) st μ Q := e_istore_n (by decide +kernel : decode (bOf 5) 26 = .ok (.istore_n 3, 1)) (by show stOK _ 3 = true; simp [stOK, h])
theorem x_5_27 : Ev d 5 27 (.ref r :: L) st μ Q = Ev d 5 28 (.ref r :: L) (.ref r :: st) μ Q := e_aload_n (by decide +kernel : decode (bOf 5) 27 = .ok (.aload_n 0, 1)) rfl
theorem x_5_28 : Ev d 5 28 (a0 :: a1 :: .int x :: L) st μ Q = Ev d 5 29 (a0 :: a1 :: .int x :: L) (.int x :: st) μ Q := e_iload_n (by decide +kernel : decode (bOf 5) 28 = .ok (.iload_n 2, 1)) rfl
theorem x_5_29 (h : kd t r = 0) : Ev d 5 29 L (.int x :: .ref r :: st) (t, V, A, P) Q = Ev d 5 32 L st (t, up1 V r (up1 (V r) 4 (.int x)), A, P) Q := e_putf (by decide +kernel : decode (bOf 5) 29 = .ok (.putfield 27, 3)) (by decide +kernel) (by decide +kernel) rfl h
theorem x_5_32 : Ev d 5 32 (.ref r :: L) st μ Q = Ev d 5 33 (.ref r :: L) (.ref r :: st) μ Q := e_aload_n (by decide +kernel : decode (bOf 5) 32 = .ok (.aload_n 0, 1)) rfl
theorem x_5_33 : Ev d 5 33 L st μ Q = Ev d 5 36 L (.int (iI 1000) :: st) μ Q := e_sipush (by decide +kernel : decode (bOf 5) 33 = .ok (.sipush 1000, 3)) (by decide +kernel)
theorem x_5_36 (h : kd t r = 0) : Ev d 5 36 L (.int x :: .ref r :: st) (t, V, A, P) Q = Ev d 5 39 L st (t, up1 V r (up1 (V r) 5 (.int x)), A, P) Q := e_putf (by decide +kernel : decode (bOf 5) 36 = .ok (.putfield 31, 3)) (by decide +kernel) (by decide +kernel) rfl h
theorem x_5_39 : Ev d 5 39 (.ref r :: L) st μ Q = Ev d 5 40 (.ref r :: L) (.ref r :: st) μ Q := e_aload_n (by decide +kernel : decode (bOf 5) 39 = .ok (.aload_n 0, 1)) rfl
theorem x_5_40 : Ev d 5 40 (a0 :: .ref r :: L) st μ Q = Ev d 5 41 (a0 :: .ref r :: L) (.ref r :: st) μ Q := e_aload_n (by decide +kernel : decode (bOf 5) 40 = .ok (.aload_n 1, 1)) rfl
theorem x_5_41 : Ev d 5 41 (a0 :: a1 :: a2 :: .int x :: L) st μ Q = Ev d 5 42 (a0 :: a1 :: a2 :: .int x :: L) (.int x :: st) μ Q := e_iload_n (by decide +kernel : decode (bOf 5) 41 = .ok (.iload_n 3, 1)) rfl
theorem x_5_42 (h : kd t r = 0) : Ev d 5 42 L [b1, b0, .ref r] (t, V, A, P) Q = Call d 6 [.ref r, b0, b1] (t, V, A, P) (fun v μ1 => Ev d 5 45 L (v.toList ++ []) μ1 Q) := e_callV (a := [b0, b1]) (r := []) (by decide +kernel : decode (bOf 5) 42 = .ok (.invokevirtual 40, 3)) (by decide +kernel) (by decide +kernel) (by decide +kernel) (by omega) rfl (by simp) (by decide +kernel) h
theorem x_5_45 : Ev d 5 45 L st μ Q = Ev d 5 46 L (.int (iI 0) :: st) μ Q := e_iconst (by decide +kernel : decode (bOf 5) 45 = .ok (.iconst 0, 1))
theorem x_5_46 (h : a3.category = 1) : Ev d 5 46 (a0 :: a1 :: a2 :: a3 :: a4 :: L) (.int x :: st) μ Q = Ev d 5 48 (a0 :: a1 :: a2 :: a3 :: .int x :: L) st μ Q := e_istore (by decide +kernel : decode (bOf 5) 46 = .ok (.istore 4, 2)) (by show stOK _ 4 = true; simp [stOK, h])
theorem x_5_48 : Ev d 5 48 (a0 :: a1 :: a2 :: a3 :: .int x :: L) st μ Q = Ev d 5 50 (a0 :: a1 :: a2 :: a3 :: .int x :: L) (.int x :: st) μ Q := e_iload (by decide +kernel : decode (bOf 5) 48 = .ok (.iload 4, 2)) rfl
theorem x_5_50 : Ev d 5 50 (a0 :: a1 :: .int x :: L) st μ Q = Ev d 5 51 (a0 :: a1 :: .int x :: L) (.int x :: st) μ Q := e_iload_n (by decide +kernel : decode (bOf 5) 50 = .ok (.iload_n 2, 1)) rfl
theorem x_5_51 : Ev d 5 51 L (.int y :: .int x :: st) μ Q = if x < y then Ev d 5 54 L st μ Q else Ev d 5 85 L st μ Q := e_icmp_ge (by decide +kernel : decode (bOf 5) 51 = .ok (.if_icmp .ge 34, 3)) (by omega)
theorem x_5_54 : Ev d 5 54 (a0 :: a1 :: a2 :: .int x :: L) st μ Q = Ev d 5 55 (a0 :: a1 :: a2 :: .int x :: L) (.int x :: st) μ Q := e_iload_n (by decide +kernel : decode (bOf 5) 54 = .ok (.iload_n 3, 1)) rfl
theorem x_5_55 : Ev d 5 55 (a0 :: a1 :: a2 :: a3 :: .int x :: L) st μ Q = Ev d 5 57 (a0 :: a1 :: a2 :: a3 :: .int x :: L) (.int x :: st) μ Q := e_iload (by decide +kernel : decode (bOf 5) 55 = .ok (.iload 4, 2)) rfl
theorem x_5_57 : Ev d 5 57 L (.int y :: .int x :: st) μ Q = Ev d 5 58 L (.int (x + y) :: st) μ Q := e_iadd (by decide +kernel : decode (bOf 5) 57 = .ok (.iadd, 1))
theorem x_5_58 : Ev d 5 58 L st μ Q = Ev d 5 60 L (.int (iI 32) :: st) μ Q := e_bipush (by decide +kernel : decode (bOf 5) 58 = .ok (.bipush 32, 2)) (by decide +kernel)
theorem x_5_60 : Ev d 5 60 L (.int y :: .int x :: st) μ Q = if x < y then Ev d 5 63 L st μ Q else Ev d 5 85 L st μ Q := e_icmp_ge (by decide +kernel : decode (bOf 5) 60 = .ok (.if_icmp .ge 25, 3)) (by omega)
theorem x_5_63 : Ev d 5 63 (.ref r :: L) st μ Q = Ev d 5 64 (.ref r :: L) (.ref r :: st) μ Q := e_aload_n (by decide +kernel : decode (bOf 5) 63 = .ok (.aload_n 0, 1)) rfl
theorem x_5_64 (h : kd t r = 0) : Ev d 5 64 L (.ref r :: st) (t, V, A, P) Q = Ev d 5 67 L (V r 1 :: st) (t, V, A, P) Q := e_getf (by decide +kernel : decode (bOf 5) 64 = .ok (.getfield 17, 3)) (by decide +kernel) (by decide +kernel) h
theorem x_5_67 : Ev d 5 67 (a0 :: a1 :: a2 :: a3 :: .int x :: L) st μ Q = Ev d 5 69 (a0 :: a1 :: a2 :: a3 :: .int x :: L) (.int x :: st) μ Q := e_iload (by decide +kernel : decode (bOf 5) 67 = .ok (.iload 4, 2)) rfl
theorem x_5_69 : Ev d 5 69 (a0 :: .ref r :: L) st μ Q = Ev d 5 70 (a0 :: .ref r :: L) (.ref r :: st) μ Q := e_aload_n (by decide +kernel : decode (bOf 5) 69 = .ok (.aload_n 1, 1)) rfl
theorem x_5_70 (h : kd t r = 3) : Ev d 5 70 L (.ref r :: st) (t, V, A, P) Q = Ev d 5 73 L (V r 0 :: st) (t, V, A, P) Q := e_getf (by decide +kernel : decode (bOf 5) 70 = .ok (.getfield 44, 3)) (by decide +kernel) (by decide +kernel) h
theorem x_5_73 : Ev d 5 73 (a0 :: a1 :: a2 :: .int x :: L) st μ Q = Ev d 5 74 (a0 :: a1 :: a2 :: .int x :: L) (.int x :: st) μ Q := e_iload_n (by decide +kernel : decode (bOf 5) 73 = .ok (.iload_n 3, 1)) rfl
theorem x_5_74 : Ev d 5 74 (a0 :: a1 :: a2 :: a3 :: .int x :: L) st μ Q = Ev d 5 76 (a0 :: a1 :: a2 :: a3 :: .int x :: L) (.int x :: st) μ Q := e_iload (by decide +kernel : decode (bOf 5) 74 = .ok (.iload 4, 2)) rfl
theorem x_5_76 : Ev d 5 76 L (.int y :: .int x :: st) μ Q = Ev d 5 77 L (.int (x + y) :: st) μ Q := e_iadd (by decide +kernel : decode (bOf 5) 76 = .ok (.iadd, 1))
theorem x_5_77 (h : kd t r = 6) (hi : inB x (ln t r) = true) : Ev d 5 77 L (.int x :: .ref r :: st) (t, V, A, P) Q = Ev d 5 78 L (.int (A r x.toNatClampNeg) :: st) (t, V, A, P) Q := e_iald (by decide +kernel : decode (bOf 5) 77 = .ok (.iaload, 1)) h hi
theorem x_5_78 (h : kd t r = 6) (hi : inB x (ln t r) = true) : Ev d 5 78 L (.int y :: .int x :: .ref r :: st) (t, V, A, P) Q = Ev d 5 79 L st (t, V, up1 A r (upd (A r) x.toNatClampNeg y), P) Q := e_iast (by decide +kernel : decode (bOf 5) 78 = .ok (.iastore, 1)) h hi
theorem x_5_79 (h : a3.category = 1) : Ev d 5 79 (a0 :: a1 :: a2 :: a3 :: .int x :: L) st μ Q = Ev d 5 82 (a0 :: a1 :: a2 :: a3 :: .int (x + (iI 1)) :: L) st μ Q := e_iinc (by decide +kernel : decode (bOf 5) 79 = .ok (.iinc 4 1, 3)) rfl (by simp [stOK, h])
theorem x_5_82 : Ev d 5 82 L st μ Q = Ev d 5 48 L st μ Q := e_goto (by decide +kernel : decode (bOf 5) 82 = .ok (.goto (-34), 3)) (by omega)
theorem x_5_85 : Ev d 5 85 (.ref r :: L) st μ Q = Ev d 5 86 (.ref r :: L) (.ref r :: st) μ Q := e_aload_n (by decide +kernel : decode (bOf 5) 85 = .ok (.aload_n 0, 1)) rfl
theorem x_5_86 : Ev d 5 86 L st μ Q = Ev d 5 87 L (.int (iI 0) :: st) μ Q := e_iconst (by decide +kernel : decode (bOf 5) 86 = .ok (.iconst 0, 1))
theorem x_5_87 : Ev d 5 87 L st μ Q = Ev d 5 88 L (.int (iI 0) :: st) μ Q := e_iconst (by decide +kernel : decode (bOf 5) 87 = .ok (.iconst 0, 1))
theorem x_5_88 : Ev d 5 88 L [b2, b1, b0] μ Q = Call d 8 [b0, b1, b2] μ (fun v μ1 => Ev d 5 91 L (v.toList ++ []) μ1 Q) := e_callS (a := [b0, b1, b2]) (r := []) (by decide +kernel : decode (bOf 5) 88 = .ok (.invokestatic 45, 3)) (by decide +kernel) (by decide +kernel) (by omega) rfl (by simp)
theorem x_5_91 : Ev d 5 91 L [] μ Q = Q none μ := e_ret (by decide +kernel : decode (bOf 5) 91 = .ok (.return_, 1)) (by decide +kernel)
theorem c_6 : Call (d + 1) 6 [.ref r0, .ref r1, .int i2] μ Q = Ev d 6 0 [.ref r0, .ref r1, .int i2, .null, .null] [] μ Q := call_ev rfl rfl 
theorem x_6_0 : Ev d 6 0 (.ref r :: L) st μ Q = Ev d 6 1 (.ref r :: L) (.ref r :: st) μ Q := e_aload_n (by decide +kernel : decode (bOf 6) 0 = .ok (.aload_n 0, 1)) rfl
theorem x_6_1 (h : kd t r = 0) : Ev d 6 1 L (.ref r :: st) (t, V, A, P) Q = Ev d 6 4 L (V r 0 :: st) (t, V, A, P) Q := e_getf (by decide +kernel : decode (bOf 6) 1 = .ok (.getfield 11, 3)) (by decide +kernel) (by decide +kernel) h
theorem x_6_4 : Ev d 6 4 L st μ Q = Ev d 6 5 L (.int (iI 0) :: st) μ Q := e_iconst (by decide +kernel : decode (bOf 6) 4 = .ok (.iconst 0, 1))
theorem x_6_5 (h : kd t r = 8) (hi : inB x (ln t r) = true) : Ev d 6 5 L (.int x :: .ref r :: st) (t, V, A, P) Q = Ev d 6 6 L (va_rf (P r x.toNatClampNeg) :: st) (t, V, A, P) Q := e_aald 8 (by omega) (by decide +kernel : decode (bOf 6) 5 = .ok (.aaload, 1)) h hi
theorem x_6_6 (h : a2.category = 1) : Ev d 6 6 (a0 :: a1 :: a2 :: a3 :: L) (.ref r :: st) μ Q = Ev d 6 7 (a0 :: a1 :: a2 :: .ref r :: L) st μ Q := e_astore_n (by decide +kernel : decode (bOf 6) 6 = .ok (.astore_n 3, 1)) (by show stOK _ 3 = true; simp [stOK, h])
theorem x_6_7 : Ev d 6 7 (a0 :: a1 :: a2 :: .ref r :: L) st μ Q = Ev d 6 8 (a0 :: a1 :: a2 :: .ref r :: L) (.ref r :: st) μ Q := e_aload_n (by decide +kernel : decode (bOf 6) 7 = .ok (.aload_n 3, 1)) rfl
theorem x_6_8 : Ev d 6 8 L (.ref r :: st) μ Q = Ev d 6 12 L st μ Q := e_ifnonnull (by decide +kernel : decode (bOf 6) 8 = .ok (.ifnonnull 4, 3)) (by omega)
theorem x_6_11 : Ev d 6 11 L [] μ Q = Q none μ := e_ret (by decide +kernel : decode (bOf 6) 11 = .ok (.return_, 1)) (by decide +kernel)
theorem x_6_12 : Ev d 6 12 (a0 :: a1 :: a2 :: .ref r :: L) st μ Q = Ev d 6 13 (a0 :: a1 :: a2 :: .ref r :: L) (.ref r :: st) μ Q := e_aload_n (by decide +kernel : decode (bOf 6) 12 = .ok (.aload_n 3, 1)) rfl
theorem x_6_13 : Ev d 6 13 L st μ Q = Ev d 6 14 L (.int (iI (-1)) :: st) μ Q := e_iconst (by decide +kernel : decode (bOf 6) 13 = .ok (.iconst (-1), 1))
theorem x_6_14 (h : kd t r = 2) : Ev d 6 14 L [b0, .ref r] (t, V, A, P) Q = Call d 21 [.ref r, b0] (t, V, A, P) (fun v μ1 => Ev d 6 17 L (v.toList ++ []) μ1 Q) := e_callV (a := [b0]) (r := []) (by decide +kernel : decode (bOf 6) 14 = .ok (.invokevirtual 49, 3)) (by decide +kernel) (by decide +kernel) (by decide +kernel) (by omega) rfl (by simp) (by decide +kernel) h
theorem x_6_17 : Ev d 6 17 L st μ Q = Ev d 6 18 L (.int (iI 0) :: st) μ Q := e_iconst (by decide +kernel : decode (bOf 6) 17 = .ok (.iconst 0, 1))
theorem x_6_18 (h : a3.category = 1) : Ev d 6 18 (a0 :: a1 :: a2 :: a3 :: a4 :: L) (.int x :: st) μ Q = Ev d 6 20 (a0 :: a1 :: a2 :: a3 :: .int x :: L) st μ Q := e_istore (by decide +kernel : decode (bOf 6) 18 = .ok (.istore 4, 2)) (by show stOK _ 4 = true; simp [stOK, h])
theorem x_6_20 : Ev d 6 20 (a0 :: a1 :: a2 :: a3 :: .int x :: L) st μ Q = Ev d 6 22 (a0 :: a1 :: a2 :: a3 :: .int x :: L) (.int x :: st) μ Q := e_iload (by decide +kernel : decode (bOf 6) 20 = .ok (.iload 4, 2)) rfl
theorem x_6_22 : Ev d 6 22 (a0 :: a1 :: .int x :: L) st μ Q = Ev d 6 23 (a0 :: a1 :: .int x :: L) (.int x :: st) μ Q := e_iload_n (by decide +kernel : decode (bOf 6) 22 = .ok (.iload_n 2, 1)) rfl
theorem x_6_23 : Ev d 6 23 L (.int y :: .int x :: st) μ Q = if x < y then Ev d 6 26 L st μ Q else Ev d 6 51 L st μ Q := e_icmp_ge (by decide +kernel : decode (bOf 6) 23 = .ok (.if_icmp .ge 28, 3)) (by omega)
theorem x_6_26 : Ev d 6 26 (a0 :: a1 :: a2 :: a3 :: .int x :: L) st μ Q = Ev d 6 28 (a0 :: a1 :: a2 :: a3 :: .int x :: L) (.int x :: st) μ Q := e_iload (by decide +kernel : decode (bOf 6) 26 = .ok (.iload 4, 2)) rfl
theorem x_6_28 : Ev d 6 28 L st μ Q = Ev d 6 30 L (.int (iI 32) :: st) μ Q := e_bipush (by decide +kernel : decode (bOf 6) 28 = .ok (.bipush 32, 2)) (by decide +kernel)
theorem x_6_30 : Ev d 6 30 L (.int y :: .int x :: st) μ Q = if x < y then Ev d 6 33 L st μ Q else Ev d 6 51 L st μ Q := e_icmp_ge (by decide +kernel : decode (bOf 6) 30 = .ok (.if_icmp .ge 21, 3)) (by omega)
theorem x_6_33 : Ev d 6 33 (a0 :: a1 :: a2 :: .ref r :: L) st μ Q = Ev d 6 34 (a0 :: a1 :: a2 :: .ref r :: L) (.ref r :: st) μ Q := e_aload_n (by decide +kernel : decode (bOf 6) 33 = .ok (.aload_n 3, 1)) rfl
theorem x_6_34 : Ev d 6 34 (a0 :: .ref r :: L) st μ Q = Ev d 6 35 (a0 :: .ref r :: L) (.ref r :: st) μ Q := e_aload_n (by decide +kernel : decode (bOf 6) 34 = .ok (.aload_n 1, 1)) rfl
theorem x_6_35 (h : kd t r = 3) : Ev d 6 35 L (.ref r :: st) (t, V, A, P) Q = Ev d 6 38 L (V r 1 :: st) (t, V, A, P) Q := e_getf (by decide +kernel : decode (bOf 6) 35 = .ok (.getfield 53, 3)) (by decide +kernel) (by decide +kernel) h
theorem x_6_38 : Ev d 6 38 (a0 :: a1 :: a2 :: a3 :: .int x :: L) st μ Q = Ev d 6 40 (a0 :: a1 :: a2 :: a3 :: .int x :: L) (.int x :: st) μ Q := e_iload (by decide +kernel : decode (bOf 6) 38 = .ok (.iload 4, 2)) rfl
theorem x_6_40 (h : kd t r = 6) (hi : inB x (ln t r) = true) : Ev d 6 40 L (.int x :: .ref r :: st) (t, V, A, P) Q = Ev d 6 41 L (.int (A r x.toNatClampNeg) :: st) (t, V, A, P) Q := e_iald (by decide +kernel : decode (bOf 6) 40 = .ok (.iaload, 1)) h hi
theorem x_6_41 (h : kd t r = 2) : Ev d 6 41 L [b0, .ref r] (t, V, A, P) Q = Call d 24 [.ref r, b0] (t, V, A, P) (fun v μ1 => Ev d 6 44 L (v.toList ++ []) μ1 Q) := e_callV (a := [b0]) (r := []) (by decide +kernel : decode (bOf 6) 41 = .ok (.invokevirtual 56, 3)) (by decide +kernel) (by decide +kernel) (by decide +kernel) (by omega) rfl (by simp) (by decide +kernel) h
theorem x_6_44 : Ev d 6 44 L (.int x :: st) μ Q = Ev d 6 45 L st μ Q := e_pop (by decide +kernel : decode (bOf 6) 44 = .ok (.pop, 1))
theorem x_6_45 (h : a3.category = 1) : Ev d 6 45 (a0 :: a1 :: a2 :: a3 :: .int x :: L) st μ Q = Ev d 6 48 (a0 :: a1 :: a2 :: a3 :: .int (x + (iI 1)) :: L) st μ Q := e_iinc (by decide +kernel : decode (bOf 6) 45 = .ok (.iinc 4 1, 3)) rfl (by simp [stOK, h])
theorem x_6_48 : Ev d 6 48 L st μ Q = Ev d 6 20 L st μ Q := e_goto (by decide +kernel : decode (bOf 6) 48 = .ok (.goto (-28), 3)) (by omega)
theorem x_6_51 : Ev d 6 51 L [] μ Q = Q none μ := e_ret (by decide +kernel : decode (bOf 6) 51 = .ok (.return_, 1)) (by decide +kernel)
theorem c_7 : Call (d + 1) 7 [.ref r0, .int i1] μ Q = Ev d 7 0 [.ref r0, .int i1] [] μ Q := call_ev rfl rfl 
theorem x_7_0 : Ev d 7 0 (a0 :: .int x :: L) st μ Q = Ev d 7 1 (a0 :: .int x :: L) (.int x :: st) μ Q := e_iload_n (by decide +kernel : decode (bOf 7) 0 = .ok (.iload_n 1, 1)) rfl
theorem x_7_1 : Ev d 7 1 L (.int x :: st) μ Q = if x < iI 0 then Ev d 7 27 L st μ Q else Ev d 7 4 L st μ Q := e_if_lt (by decide +kernel : decode (bOf 7) 1 = .ok (.ifCond .lt 26, 3)) (by omega)
theorem x_7_4 : Ev d 7 4 (a0 :: .int x :: L) st μ Q = Ev d 7 5 (a0 :: .int x :: L) (.int x :: st) μ Q := e_iload_n (by decide +kernel : decode (bOf 7) 4 = .ok (.iload_n 1, 1)) rfl
theorem x_7_5 : Ev d 7 5 (.ref r :: L) st μ Q = Ev d 7 6 (.ref r :: L) (.ref r :: st) μ Q := e_aload_n (by decide +kernel : decode (bOf 7) 5 = .ok (.aload_n 0, 1)) rfl
theorem x_7_6 (h : kd t r = 0) : Ev d 7 6 L (.ref r :: st) (t, V, A, P) Q = Ev d 7 9 L (V r 4 :: st) (t, V, A, P) Q := e_getf (by decide +kernel : decode (bOf 7) 6 = .ok (.getfield 27, 3)) (by decide +kernel) (by decide +kernel) h
theorem x_7_9 : Ev d 7 9 L (.int y :: .int x :: st) μ Q = if x < y then Ev d 7 12 L st μ Q else Ev d 7 27 L st μ Q := e_icmp_ge (by decide +kernel : decode (bOf 7) 9 = .ok (.if_icmp .ge 18, 3)) (by omega)
theorem x_7_12 : Ev d 7 12 (a0 :: .int x :: L) st μ Q = Ev d 7 13 (a0 :: .int x :: L) (.int x :: st) μ Q := e_iload_n (by decide +kernel : decode (bOf 7) 12 = .ok (.iload_n 1, 1)) rfl
theorem x_7_13 : Ev d 7 13 L st μ Q = Ev d 7 15 L (.int (iI 6) :: st) μ Q := e_bipush (by decide +kernel : decode (bOf 7) 13 = .ok (.bipush 6, 2)) (by decide +kernel)
theorem x_7_15 : Ev d 7 15 L (.int y :: .int x :: st) μ Q = if x < y then Ev d 7 18 L st μ Q else Ev d 7 27 L st μ Q := e_icmp_ge (by decide +kernel : decode (bOf 7) 15 = .ok (.if_icmp .ge 12, 3)) (by omega)
theorem x_7_18 : Ev d 7 18 (.ref r :: L) st μ Q = Ev d 7 19 (.ref r :: L) (.ref r :: st) μ Q := e_aload_n (by decide +kernel : decode (bOf 7) 18 = .ok (.aload_n 0, 1)) rfl
theorem x_7_19 (h : kd t r = 0) : Ev d 7 19 L (.ref r :: st) (t, V, A, P) Q = Ev d 7 22 L (V r 3 :: st) (t, V, A, P) Q := e_getf (by decide +kernel : decode (bOf 7) 19 = .ok (.getfield 24, 3)) (by decide +kernel) (by decide +kernel) h
theorem x_7_22 : Ev d 7 22 (a0 :: .int x :: L) st μ Q = Ev d 7 23 (a0 :: .int x :: L) (.int x :: st) μ Q := e_iload_n (by decide +kernel : decode (bOf 7) 22 = .ok (.iload_n 1, 1)) rfl
theorem x_7_23 (h : kd t r = 6) (hi : inB x (ln t r) = true) : Ev d 7 23 L (.int x :: .ref r :: st) (t, V, A, P) Q = Ev d 7 24 L (.int (A r x.toNatClampNeg) :: st) (t, V, A, P) Q := e_iald (by decide +kernel : decode (bOf 7) 23 = .ok (.iaload, 1)) h hi
theorem x_7_24 : Ev d 7 24 L st μ Q = Ev d 7 29 L st μ Q := e_goto (by decide +kernel : decode (bOf 7) 24 = .ok (.goto 5, 3)) (by omega)
theorem x_7_27 : Ev d 7 27 L st μ Q = Ev d 7 29 L (.int (iI (-9)) :: st) μ Q := e_bipush (by decide +kernel : decode (bOf 7) 27 = .ok (.bipush (-9), 2)) (by decide +kernel)
theorem x_7_29 : Ev d 7 29 L [.int x] μ Q = Q (some (.int x)) μ := e_iret (by decide +kernel : decode (bOf 7) 29 = .ok (.ireturn, 1)) (by decide +kernel)
theorem c_8 : Call (d + 1) 8 [.ref r0, .int i1, .int i2] μ Q = Ev d 8 0 [.ref r0, .int i1, .int i2, .null, .null, .null] [] μ Q := call_ev rfl rfl 
theorem x_8_0 : Ev d 8 0 (a0 :: .int x :: L) st μ Q = Ev d 8 1 (a0 :: .int x :: L) (.int x :: st) μ Q := e_iload_n (by decide +kernel : decode (bOf 8) 0 = .ok (.iload_n 1, 1)) rfl
theorem x_8_1 : Ev d 8 1 L (.int x :: st) μ Q = if x < iI 0 then Ev d 8 10 L st μ Q else Ev d 8 4 L st μ Q := e_if_lt (by decide +kernel : decode (bOf 8) 1 = .ok (.ifCond .lt 9, 3)) (by omega)
theorem x_8_4 : Ev d 8 4 (a0 :: .int x :: L) st μ Q = Ev d 8 5 (a0 :: .int x :: L) (.int x :: st) μ Q := e_iload_n (by decide +kernel : decode (bOf 8) 4 = .ok (.iload_n 1, 1)) rfl
theorem x_8_5 : Ev d 8 5 L st μ Q = Ev d 8 7 L (.int (iI 6) :: st) μ Q := e_bipush (by decide +kernel : decode (bOf 8) 5 = .ok (.bipush 6, 2)) (by decide +kernel)
theorem x_8_7 : Ev d 8 7 L (.int y :: .int x :: st) μ Q = if y < x then Ev d 8 10 L st μ Q else Ev d 8 11 L st μ Q := e_icmp_le (by decide +kernel : decode (bOf 8) 7 = .ok (.if_icmp .le 4, 3)) (by omega)
theorem x_8_10 : Ev d 8 10 L [] μ Q = Q none μ := e_ret (by decide +kernel : decode (bOf 8) 10 = .ok (.return_, 1)) (by decide +kernel)
theorem x_8_11 : Ev d 8 11 (.ref r :: L) st μ Q = Ev d 8 12 (.ref r :: L) (.ref r :: st) μ Q := e_aload_n (by decide +kernel : decode (bOf 8) 11 = .ok (.aload_n 0, 1)) rfl
theorem x_8_12 (h : kd t r = 0) : Ev d 8 12 L (.ref r :: st) (t, V, A, P) Q = Ev d 8 15 L (V r 0 :: st) (t, V, A, P) Q := e_getf (by decide +kernel : decode (bOf 8) 12 = .ok (.getfield 11, 3)) (by decide +kernel) (by decide +kernel) h
theorem x_8_15 : Ev d 8 15 (a0 :: .int x :: L) st μ Q = Ev d 8 16 (a0 :: .int x :: L) (.int x :: st) μ Q := e_iload_n (by decide +kernel : decode (bOf 8) 15 = .ok (.iload_n 1, 1)) rfl
theorem x_8_16 (h : kd t r = 8) (hi : inB x (ln t r) = true) : Ev d 8 16 L (.int x :: .ref r :: st) (t, V, A, P) Q = Ev d 8 17 L (va_rf (P r x.toNatClampNeg) :: st) (t, V, A, P) Q := e_aald 8 (by omega) (by decide +kernel : decode (bOf 8) 16 = .ok (.aaload, 1)) h hi
theorem x_8_17 (h : a2.category = 1) : Ev d 8 17 (a0 :: a1 :: a2 :: a3 :: L) (.ref r :: st) μ Q = Ev d 8 18 (a0 :: a1 :: a2 :: .ref r :: L) st μ Q := e_astore_n (by decide +kernel : decode (bOf 8) 17 = .ok (.astore_n 3, 1)) (by show stOK _ 3 = true; simp [stOK, h])
theorem x_8_18 : Ev d 8 18 (a0 :: a1 :: a2 :: .ref r :: L) st μ Q = Ev d 8 19 (a0 :: a1 :: a2 :: .ref r :: L) (.ref r :: st) μ Q := e_aload_n (by decide +kernel : decode (bOf 8) 18 = .ok (.aload_n 3, 1)) rfl
theorem x_8_19 : Ev d 8 19 L (.ref r :: st) μ Q = Ev d 8 22 L st μ Q := e_ifnull (by decide +kernel : decode (bOf 8) 19 = .ok (.ifnull 14, 3))
theorem x_8_22 : Ev d 8 22 (a0 :: a1 :: a2 :: .ref r :: L) st μ Q = Ev d 8 23 (a0 :: a1 :: a2 :: .ref r :: L) (.ref r :: st) μ Q := e_aload_n (by decide +kernel : decode (bOf 8) 22 = .ok (.aload_n 3, 1)) rfl
theorem x_8_23 (h : kd t r = 2) : Ev d 8 23 L (.ref r :: st) (t, V, A, P) Q = Ev d 8 26 L (V r 4 :: st) (t, V, A, P) Q := e_getf (by decide +kernel : decode (bOf 8) 23 = .ok (.getfield 60, 3)) (by decide +kernel) (by decide +kernel) h
theorem x_8_26 : Ev d 8 26 (.ref r :: L) st μ Q = Ev d 8 27 (.ref r :: L) (.ref r :: st) μ Q := e_aload_n (by decide +kernel : decode (bOf 8) 26 = .ok (.aload_n 0, 1)) rfl
theorem x_8_27 (h : kd t r = 0) : Ev d 8 27 L (.ref r :: st) (t, V, A, P) Q = Ev d 8 30 L (V r 5 :: st) (t, V, A, P) Q := e_getf (by decide +kernel : decode (bOf 8) 27 = .ok (.getfield 31, 3)) (by decide +kernel) (by decide +kernel) h
theorem x_8_30 : Ev d 8 30 L (.int y :: .int x :: st) μ Q = if x < y then Ev d 8 34 L st μ Q else Ev d 8 33 L st μ Q := e_icmp_lt (by decide +kernel : decode (bOf 8) 30 = .ok (.if_icmp .lt 4, 3)) (by omega)
theorem x_8_33 : Ev d 8 33 L [] μ Q = Q none μ := e_ret (by decide +kernel : decode (bOf 8) 33 = .ok (.return_, 1)) (by decide +kernel)
theorem x_8_34 : Ev d 8 34 (a0 :: .int x :: L) st μ Q = Ev d 8 35 (a0 :: .int x :: L) (.int x :: st) μ Q := e_iload_n (by decide +kernel : decode (bOf 8) 34 = .ok (.iload_n 1, 1)) rfl
theorem x_8_35 : Ev d 8 35 (.ref r :: L) st μ Q = Ev d 8 36 (.ref r :: L) (.ref r :: st) μ Q := e_aload_n (by decide +kernel : decode (bOf 8) 35 = .ok (.aload_n 0, 1)) rfl
theorem x_8_36 (h : kd t r = 0) : Ev d 8 36 L (.ref r :: st) (t, V, A, P) Q = Ev d 8 39 L (V r 4 :: st) (t, V, A, P) Q := e_getf (by decide +kernel : decode (bOf 8) 36 = .ok (.getfield 27, 3)) (by decide +kernel) (by decide +kernel) h
theorem x_8_39 : Ev d 8 39 L (.int y :: .int x :: st) μ Q = if x < y then Ev d 8 42 L st μ Q else Ev d 8 48 L st μ Q := e_icmp_ge (by decide +kernel : decode (bOf 8) 39 = .ok (.if_icmp .ge 9, 3)) (by omega)
theorem x_8_42 : Ev d 8 42 (a0 :: .int x :: L) st μ Q = Ev d 8 43 (a0 :: .int x :: L) (.int x :: st) μ Q := e_iload_n (by decide +kernel : decode (bOf 8) 42 = .ok (.iload_n 1, 1)) rfl
theorem x_8_43 : Ev d 8 43 L st μ Q = Ev d 8 45 L (.int (iI 6) :: st) μ Q := e_bipush (by decide +kernel : decode (bOf 8) 43 = .ok (.bipush 6, 2)) (by decide +kernel)
theorem x_8_45 : Ev d 8 45 L (.int y :: .int x :: st) μ Q = if x < y then Ev d 8 57 L st μ Q else Ev d 8 48 L st μ Q := e_icmp_lt (by decide +kernel : decode (bOf 8) 45 = .ok (.if_icmp .lt 12, 3)) (by omega)
theorem x_8_48 : Ev d 8 48 (.ref r :: L) st μ Q = Ev d 8 49 (.ref r :: L) (.ref r :: st) μ Q := e_aload_n (by decide +kernel : decode (bOf 8) 48 = .ok (.aload_n 0, 1)) rfl
theorem x_8_49 : Ev d 8 49 (a0 :: a1 :: a2 :: .ref r :: L) st μ Q = Ev d 8 50 (a0 :: a1 :: a2 :: .ref r :: L) (.ref r :: st) μ Q := e_aload_n (by decide +kernel : decode (bOf 8) 49 = .ok (.aload_n 3, 1)) rfl
theorem x_8_50 (h : kd t r = 2) : Ev d 8 50 L (.ref r :: st) (t, V, A, P) Q = Ev d 8 53 L (V r 4 :: st) (t, V, A, P) Q := e_getf (by decide +kernel : decode (bOf 8) 50 = .ok (.getfield 60, 3)) (by decide +kernel) (by decide +kernel) h
theorem x_8_53 (h : kd t r = 0) : Ev d 8 53 L [b0, .ref r] (t, V, A, P) Q = Call d 9 [.ref r, b0] (t, V, A, P) (fun v μ1 => Ev d 8 56 L (v.toList ++ []) μ1 Q) := e_callV (a := [b0]) (r := []) (by decide +kernel : decode (bOf 8) 53 = .ok (.invokevirtual 63, 3)) (by decide +kernel) (by decide +kernel) (by decide +kernel) (by omega) rfl (by simp) (by decide +kernel) h
theorem x_8_56 : Ev d 8 56 L [] μ Q = Q none μ := e_ret (by decide +kernel : decode (bOf 8) 56 = .ok (.return_, 1)) (by decide +kernel)
theorem x_8_57 : Ev d 8 57 (.ref r :: L) st μ Q = Ev d 8 58 (.ref r :: L) (.ref r :: st) μ Q := e_aload_n (by decide +kernel : decode (bOf 8) 57 = .ok (.aload_n 0, 1)) rfl
theorem x_8_58 (h : kd t r = 0) : Ev d 8 58 L (.ref r :: st) (t, V, A, P) Q = Ev d 8 61 L (V r 0 :: st) (t, V, A, P) Q := e_getf (by decide +kernel : decode (bOf 8) 58 = .ok (.getfield 11, 3)) (by decide +kernel) (by decide +kernel) h
theorem x_8_61 : Ev d 8 61 (a0 :: .int x :: L) st μ Q = Ev d 8 62 (a0 :: .int x :: L) (.int x :: st) μ Q := e_iload_n (by decide +kernel : decode (bOf 8) 61 = .ok (.iload_n 1, 1)) rfl
theorem x_8_62 : Ev d 8 62 L st μ Q = Ev d 8 63 L (.int (iI 1) :: st) μ Q := e_iconst (by decide +kernel : decode (bOf 8) 62 = .ok (.iconst 1, 1))
theorem x_8_63 : Ev d 8 63 L (.int y :: .int x :: st) μ Q = Ev d 8 64 L (.int (x + y) :: st) μ Q := e_iadd (by decide +kernel : decode (bOf 8) 63 = .ok (.iadd, 1))
theorem x_8_64 (h : kd t r = 8) (hi : inB x (ln t r) = true) : Ev d 8 64 L (.int x :: .ref r :: st) (t, V, A, P) Q = Ev d 8 65 L (va_rf (P r x.toNatClampNeg) :: st) (t, V, A, P) Q := e_aald 8 (by omega) (by decide +kernel : decode (bOf 8) 64 = .ok (.aaload, 1)) h hi
theorem x_8_65 (h : a3.category = 1) : Ev d 8 65 (a0 :: a1 :: a2 :: a3 :: a4 :: L) (.ref r :: st) μ Q = Ev d 8 67 (a0 :: a1 :: a2 :: a3 :: .ref r :: L) st μ Q := e_astore (by decide +kernel : decode (bOf 8) 65 = .ok (.astore 4, 2)) (by show stOK _ 4 = true; simp [stOK, h])
theorem x_8_67 : Ev d 8 67 L st μ Q = Ev d 8 68 L (.int (iI 0) :: st) μ Q := e_iconst (by decide +kernel : decode (bOf 8) 67 = .ok (.iconst 0, 1))
theorem x_8_68 (h : a4.category = 1) : Ev d 8 68 (a0 :: a1 :: a2 :: a3 :: a4 :: a5 :: L) (.int x :: st) μ Q = Ev d 8 70 (a0 :: a1 :: a2 :: a3 :: a4 :: .int x :: L) st μ Q := e_istore (by decide +kernel : decode (bOf 8) 68 = .ok (.istore 5, 2)) (by show stOK _ 5 = true; simp [stOK, h])
theorem x_8_70 : Ev d 8 70 (a0 :: a1 :: a2 :: a3 :: .ref r :: L) st μ Q = Ev d 8 72 (a0 :: a1 :: a2 :: a3 :: .ref r :: L) (.ref r :: st) μ Q := e_aload (by decide +kernel : decode (bOf 8) 70 = .ok (.aload 4, 2)) rfl
theorem x_8_72 : Ev d 8 72 L (.ref r :: st) μ Q = Ev d 8 75 L st μ Q := e_ifnull (by decide +kernel : decode (bOf 8) 72 = .ok (.ifnull 81, 3))
theorem x_8_75 : Ev d 8 75 (a0 :: a1 :: a2 :: a3 :: a4 :: .int x :: L) st μ Q = Ev d 8 77 (a0 :: a1 :: a2 :: a3 :: a4 :: .int x :: L) (.int x :: st) μ Q := e_iload (by decide +kernel : decode (bOf 8) 75 = .ok (.iload 5, 2)) rfl
theorem x_8_77 : Ev d 8 77 (.ref r :: L) st μ Q = Ev d 8 78 (.ref r :: L) (.ref r :: st) μ Q := e_aload_n (by decide +kernel : decode (bOf 8) 77 = .ok (.aload_n 0, 1)) rfl
theorem x_8_78 (h : kd t r = 0) : Ev d 8 78 L (.ref r :: st) (t, V, A, P) Q = Ev d 8 81 L (V r 4 :: st) (t, V, A, P) Q := e_getf (by decide +kernel : decode (bOf 8) 78 = .ok (.getfield 27, 3)) (by decide +kernel) (by decide +kernel) h
theorem x_8_81 : Ev d 8 81 L (.int y :: .int x :: st) μ Q = if x < y then Ev d 8 84 L st μ Q else Ev d 8 153 L st μ Q := e_icmp_ge (by decide +kernel : decode (bOf 8) 81 = .ok (.if_icmp .ge 72, 3)) (by omega)
theorem x_8_84 : Ev d 8 84 (a0 :: a1 :: a2 :: a3 :: a4 :: .int x :: L) st μ Q = Ev d 8 86 (a0 :: a1 :: a2 :: a3 :: a4 :: .int x :: L) (.int x :: st) μ Q := e_iload (by decide +kernel : decode (bOf 8) 84 = .ok (.iload 5, 2)) rfl
theorem x_8_86 : Ev d 8 86 L st μ Q = Ev d 8 88 L (.int (iI 6) :: st) μ Q := e_bipush (by decide +kernel : decode (bOf 8) 86 = .ok (.bipush 6, 2)) (by decide +kernel)
theorem x_8_88 : Ev d 8 88 L (.int y :: .int x :: st) μ Q = if x < y then Ev d 8 91 L st μ Q else Ev d 8 153 L st μ Q := e_icmp_ge (by decide +kernel : decode (bOf 8) 88 = .ok (.if_icmp .ge 65, 3)) (by omega)
theorem x_8_91 : Ev d 8 91 (a0 :: a1 :: .int x :: L) st μ Q = Ev d 8 92 (a0 :: a1 :: .int x :: L) (.int x :: st) μ Q := e_iload_n (by decide +kernel : decode (bOf 8) 91 = .ok (.iload_n 2, 1)) rfl
theorem x_8_92 : Ev d 8 92 L st μ Q = Ev d 8 93 L (.int (iI 1) :: st) μ Q := e_iconst (by decide +kernel : decode (bOf 8) 92 = .ok (.iconst 1, 1))
theorem x_8_93 : Ev d 8 93 (a0 :: a1 :: a2 :: a3 :: a4 :: .int x :: L) st μ Q = Ev d 8 95 (a0 :: a1 :: a2 :: a3 :: a4 :: .int x :: L) (.int x :: st) μ Q := e_iload (by decide +kernel : decode (bOf 8) 93 = .ok (.iload 5, 2)) rfl
theorem x_8_95 : Ev d 8 95 L (.int y :: .int x :: st) μ Q = Ev d 8 96 L (.int (x <<< (y &&& 31)) :: st) μ Q := e_ishl (by decide +kernel : decode (bOf 8) 95 = .ok (.ishl, 1))
theorem x_8_96 : Ev d 8 96 L (.int y :: .int x :: st) μ Q = Ev d 8 97 L (.int (x &&& y) :: st) μ Q := e_iand (by decide +kernel : decode (bOf 8) 96 = .ok (.iand, 1))
theorem x_8_97 : Ev d 8 97 L (.int x :: st) μ Q = if x = iI 0 then Ev d 8 100 L st μ Q else Ev d 8 147 L st μ Q := e_if_ne (by decide +kernel : decode (bOf 8) 97 = .ok (.ifCond .ne 50, 3)) (by omega)
theorem x_8_100 : Ev d 8 100 (.ref r :: L) st μ Q = Ev d 8 101 (.ref r :: L) (.ref r :: st) μ Q := e_aload_n (by decide +kernel : decode (bOf 8) 100 = .ok (.aload_n 0, 1)) rfl
theorem x_8_101 (h : kd t r = 0) : Ev d 8 101 L (.ref r :: st) (t, V, A, P) Q = Ev d 8 104 L (V r 2 :: st) (t, V, A, P) Q := e_getf (by decide +kernel : decode (bOf 8) 101 = .ok (.getfield 21, 3)) (by decide +kernel) (by decide +kernel) h
theorem x_8_104 : Ev d 8 104 (a0 :: .int x :: L) st μ Q = Ev d 8 105 (a0 :: .int x :: L) (.int x :: st) μ Q := e_iload_n (by decide +kernel : decode (bOf 8) 104 = .ok (.iload_n 1, 1)) rfl
theorem x_8_105 : Ev d 8 105 (a0 :: a1 :: a2 :: a3 :: a4 :: .int x :: L) st μ Q = Ev d 8 107 (a0 :: a1 :: a2 :: a3 :: a4 :: .int x :: L) (.int x :: st) μ Q := e_iload (by decide +kernel : decode (bOf 8) 105 = .ok (.iload 5, 2)) rfl
theorem x_8_107 (h : kd t r = 6) (hi : inB x (ln t r) = true) : Ev d 8 107 L (.int y :: .int x :: .ref r :: st) (t, V, A, P) Q = Ev d 8 108 L st (t, V, up1 A r (upd (A r) x.toNatClampNeg y), P) Q := e_iast (by decide +kernel : decode (bOf 8) 107 = .ok (.iastore, 1)) h hi
theorem x_8_108 : Ev d 8 108 (a0 :: a1 :: a2 :: a3 :: .ref r :: L) st μ Q = Ev d 8 110 (a0 :: a1 :: a2 :: a3 :: .ref r :: L) (.ref r :: st) μ Q := e_aload (by decide +kernel : decode (bOf 8) 108 = .ok (.aload 4, 2)) rfl
theorem x_8_110 : Ev d 8 110 (a0 :: a1 :: a2 :: .ref r :: L) st μ Q = Ev d 8 111 (a0 :: a1 :: a2 :: .ref r :: L) (.ref r :: st) μ Q := e_aload_n (by decide +kernel : decode (bOf 8) 110 = .ok (.aload_n 3, 1)) rfl
theorem x_8_111 (h : kd t r = 2) : Ev d 8 111 L [b0, .ref r] (t, V, A, P) Q = Call d 22 [.ref r, b0] (t, V, A, P) (fun v μ1 => Ev d 8 114 L (v.toList ++ []) μ1 Q) := e_callV (a := [b0]) (r := []) (by decide +kernel : decode (bOf 8) 111 = .ok (.invokevirtual 66, 3)) (by decide +kernel) (by decide +kernel) (by decide +kernel) (by omega) rfl (by simp) (by decide +kernel) h
theorem x_8_114 : Ev d 8 114 (a0 :: a1 :: a2 :: a3 :: .ref r :: L) st μ Q = Ev d 8 116 (a0 :: a1 :: a2 :: a3 :: .ref r :: L) (.ref r :: st) μ Q := e_aload (by decide +kernel : decode (bOf 8) 114 = .ok (.aload 4, 2)) rfl
theorem x_8_116 : Ev d 8 116 (.ref r :: L) st μ Q = Ev d 8 117 (.ref r :: L) (.ref r :: st) μ Q := e_aload_n (by decide +kernel : decode (bOf 8) 116 = .ok (.aload_n 0, 1)) rfl
theorem x_8_117 (h : kd t r = 0) : Ev d 8 117 L (.ref r :: st) (t, V, A, P) Q = Ev d 8 120 L (V r 1 :: st) (t, V, A, P) Q := e_getf (by decide +kernel : decode (bOf 8) 117 = .ok (.getfield 17, 3)) (by decide +kernel) (by decide +kernel) h
theorem x_8_120 : Ev d 8 120 (a0 :: a1 :: a2 :: a3 :: a4 :: .int x :: L) st μ Q = Ev d 8 122 (a0 :: a1 :: a2 :: a3 :: a4 :: .int x :: L) (.int x :: st) μ Q := e_iload (by decide +kernel : decode (bOf 8) 120 = .ok (.iload 5, 2)) rfl
theorem x_8_122 (h : kd t r = 6) (hi : inB x (ln t r) = true) : Ev d 8 122 L (.int x :: .ref r :: st) (t, V, A, P) Q = Ev d 8 123 L (.int (A r x.toNatClampNeg) :: st) (t, V, A, P) Q := e_iald (by decide +kernel : decode (bOf 8) 122 = .ok (.iaload, 1)) h hi
theorem x_8_123 : Ev d 8 123 (a0 :: a1 :: a2 :: .ref r :: L) st μ Q = Ev d 8 124 (a0 :: a1 :: a2 :: .ref r :: L) (.ref r :: st) μ Q := e_aload_n (by decide +kernel : decode (bOf 8) 123 = .ok (.aload_n 3, 1)) rfl
theorem x_8_124 (h : kd t r = 2) : Ev d 8 124 L (.ref r :: st) (t, V, A, P) Q = Ev d 8 127 L (V r 0 :: st) (t, V, A, P) Q := e_getf (by decide +kernel : decode (bOf 8) 124 = .ok (.getfield 70, 3)) (by decide +kernel) (by decide +kernel) h
theorem x_8_127 : Ev d 8 127 L [b1, b0, s0] μ Q = Call d 0 [b0, b1] μ (fun v μ1 => Ev d 8 130 L (v.toList ++ [s0]) μ1 Q) := e_callS (a := [b0, b1]) (r := [s0]) (by decide +kernel : decode (bOf 8) 127 = .ok (.invokestatic 73, 3)) (by decide +kernel) (by decide +kernel) (by omega) rfl (by simp)
theorem x_8_130 (h : kd t r = 2) : Ev d 8 130 L [b0, .ref r] (t, V, A, P) Q = Call d 24 [.ref r, b0] (t, V, A, P) (fun v μ1 => Ev d 8 133 L (v.toList ++ []) μ1 Q) := e_callV (a := [b0]) (r := []) (by decide +kernel : decode (bOf 8) 130 = .ok (.invokevirtual 56, 3)) (by decide +kernel) (by decide +kernel) (by decide +kernel) (by omega) rfl (by simp) (by decide +kernel) h
theorem x_8_133 : Ev d 8 133 L (.int x :: st) μ Q = Ev d 8 134 L st μ Q := e_pop (by decide +kernel : decode (bOf 8) 133 = .ok (.pop, 1))
theorem x_8_134 : Ev d 8 134 (.ref r :: L) st μ Q = Ev d 8 135 (.ref r :: L) (.ref r :: st) μ Q := e_aload_n (by decide +kernel : decode (bOf 8) 134 = .ok (.aload_n 0, 1)) rfl
theorem x_8_135 : Ev d 8 135 (a0 :: .int x :: L) st μ Q = Ev d 8 136 (a0 :: .int x :: L) (.int x :: st) μ Q := e_iload_n (by decide +kernel : decode (bOf 8) 135 = .ok (.iload_n 1, 1)) rfl
theorem x_8_136 : Ev d 8 136 L st μ Q = Ev d 8 137 L (.int (iI 1) :: st) μ Q := e_iconst (by decide +kernel : decode (bOf 8) 136 = .ok (.iconst 1, 1))
theorem x_8_137 : Ev d 8 137 L (.int y :: .int x :: st) μ Q = Ev d 8 138 L (.int (x + y) :: st) μ Q := e_iadd (by decide +kernel : decode (bOf 8) 137 = .ok (.iadd, 1))
theorem x_8_138 : Ev d 8 138 (a0 :: a1 :: .int x :: L) st μ Q = Ev d 8 139 (a0 :: a1 :: .int x :: L) (.int x :: st) μ Q := e_iload_n (by decide +kernel : decode (bOf 8) 138 = .ok (.iload_n 2, 1)) rfl
theorem x_8_139 : Ev d 8 139 L st μ Q = Ev d 8 140 L (.int (iI 1) :: st) μ Q := e_iconst (by decide +kernel : decode (bOf 8) 139 = .ok (.iconst 1, 1))
theorem x_8_140 : Ev d 8 140 (a0 :: a1 :: a2 :: a3 :: a4 :: .int x :: L) st μ Q = Ev d 8 142 (a0 :: a1 :: a2 :: a3 :: a4 :: .int x :: L) (.int x :: st) μ Q := e_iload (by decide +kernel : decode (bOf 8) 140 = .ok (.iload 5, 2)) rfl
theorem x_8_142 : Ev d 8 142 L (.int y :: .int x :: st) μ Q = Ev d 8 143 L (.int (x <<< (y &&& 31)) :: st) μ Q := e_ishl (by decide +kernel : decode (bOf 8) 142 = .ok (.ishl, 1))
theorem x_8_143 : Ev d 8 143 L (.int y :: .int x :: st) μ Q = Ev d 8 144 L (.int (x ||| y) :: st) μ Q := e_ior (by decide +kernel : decode (bOf 8) 143 = .ok (.ior, 1))
theorem x_8_144 : Ev d 8 144 L [b2, b1, b0] μ Q = Call d 8 [b0, b1, b2] μ (fun v μ1 => Ev d 8 147 L (v.toList ++ []) μ1 Q) := e_callS (a := [b0, b1, b2]) (r := []) (by decide +kernel : decode (bOf 8) 144 = .ok (.invokestatic 45, 3)) (by decide +kernel) (by decide +kernel) (by omega) rfl (by simp)
theorem x_8_147 (h : a4.category = 1) : Ev d 8 147 (a0 :: a1 :: a2 :: a3 :: a4 :: .int x :: L) st μ Q = Ev d 8 150 (a0 :: a1 :: a2 :: a3 :: a4 :: .int (x + (iI 1)) :: L) st μ Q := e_iinc (by decide +kernel : decode (bOf 8) 147 = .ok (.iinc 5 1, 3)) rfl (by simp [stOK, h])
theorem x_8_150 : Ev d 8 150 L st μ Q = Ev d 8 70 L st μ Q := e_goto (by decide +kernel : decode (bOf 8) 150 = .ok (.goto (-80), 3)) (by omega)
theorem x_8_153 : Ev d 8 153 L [] μ Q = Q none μ := e_ret (by decide +kernel : decode (bOf 8) 153 = .ok (.return_, 1)) (by decide +kernel)
theorem c_9 : Call (d + 1) 9 [.ref r0, .int i1] μ Q = Ev d 9 0 [.ref r0, .int i1, .null] [] μ Q := call_ev rfl rfl 
theorem x_9_0 : Ev d 9 0 (.ref r :: L) st μ Q = Ev d 9 1 (.ref r :: L) (.ref r :: st) μ Q := e_aload_n (by decide +kernel : decode (bOf 9) 0 = .ok (.aload_n 0, 1)) rfl
theorem x_9_1 : Ev d 9 1 (a0 :: .int x :: L) st μ Q = Ev d 9 2 (a0 :: .int x :: L) (.int x :: st) μ Q := e_iload_n (by decide +kernel : decode (bOf 9) 1 = .ok (.iload_n 1, 1)) rfl
theorem x_9_2 (h : kd t r = 0) : Ev d 9 2 L (.int x :: .ref r :: st) (t, V, A, P) Q = Ev d 9 5 L st (t, up1 V r (up1 (V r) 5 (.int x)), A, P) Q := e_putf (by decide +kernel : decode (bOf 9) 2 = .ok (.putfield 31, 3)) (by decide +kernel) (by decide +kernel) rfl h
theorem x_9_5 : Ev d 9 5 L st μ Q = Ev d 9 6 L (.int (iI 0) :: st) μ Q := e_iconst (by decide +kernel : decode (bOf 9) 5 = .ok (.iconst 0, 1))
theorem x_9_6 (h : a1.category = 1) : Ev d 9 6 (a0 :: a1 :: a2 :: L) (.int x :: st) μ Q = Ev d 9 7 (a0 :: a1 :: .int x :: L) st μ Q := e_istore_n (by decide +kernel : decode (bOf 9) 6 = .ok (.istore_n 2, 1)) (by show stOK _ 2 = true; simp [stOK, h])
theorem x_9_7 : Ev d 9 7 (a0 :: a1 :: .int x :: L) st μ Q = Ev d 9 8 (a0 :: a1 :: .int x :: L) (.int x :: st) μ Q := e_iload_n (by decide +kernel : decode (bOf 9) 7 = .ok (.iload_n 2, 1)) rfl
theorem x_9_8 : Ev d 9 8 L st μ Q = Ev d 9 10 L (.int (iI 6) :: st) μ Q := e_bipush (by decide +kernel : decode (bOf 9) 8 = .ok (.bipush 6, 2)) (by decide +kernel)
theorem x_9_10 : Ev d 9 10 L (.int y :: .int x :: st) μ Q = if x < y then Ev d 9 13 L st μ Q else Ev d 9 31 L st μ Q := e_icmp_ge (by decide +kernel : decode (bOf 9) 10 = .ok (.if_icmp .ge 21, 3)) (by omega)
theorem x_9_13 : Ev d 9 13 (.ref r :: L) st μ Q = Ev d 9 14 (.ref r :: L) (.ref r :: st) μ Q := e_aload_n (by decide +kernel : decode (bOf 9) 13 = .ok (.aload_n 0, 1)) rfl
theorem x_9_14 (h : kd t r = 0) : Ev d 9 14 L (.ref r :: st) (t, V, A, P) Q = Ev d 9 17 L (V r 3 :: st) (t, V, A, P) Q := e_getf (by decide +kernel : decode (bOf 9) 14 = .ok (.getfield 24, 3)) (by decide +kernel) (by decide +kernel) h
theorem x_9_17 : Ev d 9 17 (a0 :: a1 :: .int x :: L) st μ Q = Ev d 9 18 (a0 :: a1 :: .int x :: L) (.int x :: st) μ Q := e_iload_n (by decide +kernel : decode (bOf 9) 17 = .ok (.iload_n 2, 1)) rfl
theorem x_9_18 : Ev d 9 18 (.ref r :: L) st μ Q = Ev d 9 19 (.ref r :: L) (.ref r :: st) μ Q := e_aload_n (by decide +kernel : decode (bOf 9) 18 = .ok (.aload_n 0, 1)) rfl
theorem x_9_19 (h : kd t r = 0) : Ev d 9 19 L (.ref r :: st) (t, V, A, P) Q = Ev d 9 22 L (V r 2 :: st) (t, V, A, P) Q := e_getf (by decide +kernel : decode (bOf 9) 19 = .ok (.getfield 21, 3)) (by decide +kernel) (by decide +kernel) h
theorem x_9_22 : Ev d 9 22 (a0 :: a1 :: .int x :: L) st μ Q = Ev d 9 23 (a0 :: a1 :: .int x :: L) (.int x :: st) μ Q := e_iload_n (by decide +kernel : decode (bOf 9) 22 = .ok (.iload_n 2, 1)) rfl
theorem x_9_23 (h : kd t r = 6) (hi : inB x (ln t r) = true) : Ev d 9 23 L (.int x :: .ref r :: st) (t, V, A, P) Q = Ev d 9 24 L (.int (A r x.toNatClampNeg) :: st) (t, V, A, P) Q := e_iald (by decide +kernel : decode (bOf 9) 23 = .ok (.iaload, 1)) h hi
theorem x_9_24 (h : kd t r = 6) (hi : inB x (ln t r) = true) : Ev d 9 24 L (.int y :: .int x :: .ref r :: st) (t, V, A, P) Q = Ev d 9 25 L st (t, V, up1 A r (upd (A r) x.toNatClampNeg y), P) Q := e_iast (by decide +kernel : decode (bOf 9) 24 = .ok (.iastore, 1)) h hi
theorem x_9_25 (h : a1.category = 1) : Ev d 9 25 (a0 :: a1 :: .int x :: L) st μ Q = Ev d 9 28 (a0 :: a1 :: .int (x + (iI 1)) :: L) st μ Q := e_iinc (by decide +kernel : decode (bOf 9) 25 = .ok (.iinc 2 1, 3)) rfl (by simp [stOK, h])
theorem x_9_28 : Ev d 9 28 L st μ Q = Ev d 9 7 L st μ Q := e_goto (by decide +kernel : decode (bOf 9) 28 = .ok (.goto (-21), 3)) (by omega)
theorem x_9_31 : Ev d 9 31 L [] μ Q = Q none μ := e_ret (by decide +kernel : decode (bOf 9) 31 = .ok (.return_, 1)) (by decide +kernel)
theorem c_10 : Call (d + 1) 10 [.ref r0] μ Q = Ev d 10 0 [.ref r0] [] μ Q := call_ev rfl rfl 
theorem x_10_0 : Ev d 10 0 (.ref r :: L) st μ Q = Ev d 10 1 (.ref r :: L) (.ref r :: st) μ Q := e_aload_n (by decide +kernel : decode (bOf 10) 0 = .ok (.aload_n 0, 1)) rfl
theorem x_10_1 : Ev d 10 1 L [.ref r] μ Q = Ev d 10 4 L [] μ Q := e_obj (by decide +kernel : decode (bOf 10) 1 = .ok (.invokespecial 3, 3)) (by decide +kernel) (by decide +kernel) (by simp)
theorem x_10_4 : Ev d 10 4 (.ref r :: L) st μ Q = Ev d 10 5 (.ref r :: L) (.ref r :: st) μ Q := e_aload_n (by decide +kernel : decode (bOf 10) 4 = .ok (.aload_n 0, 1)) rfl
theorem x_10_5 : Ev d 10 5 L st μ Q = Ev d 10 7 L (.int (iI 32) :: st) μ Q := e_bipush (by decide +kernel : decode (bOf 10) 5 = .ok (.bipush 32, 2)) (by decide +kernel)
theorem x_10_7 : Ev d 10 7 L (.int (iI 32) :: st) ((N, S, K), V, A, P) Q = Ev d 10 9 L (.ref N :: st) ((N + 1, S + 32, up1 K N (6, 32)), V, up1 A N (fun _ => 0), P) Q := e_newi 32 (by decide +kernel : decode (bOf 10) 7 = .ok (.newarray .int, 2)) (by decide +kernel) (by decide +kernel)
theorem x_10_9 (h : kd t r = 1) : Ev d 10 9 L (.ref q :: .ref r :: st) (t, V, A, P) Q = Ev d 10 12 L st (t, up1 V r (up1 (V r) 0 (.ref q)), A, P) Q := e_putf (by decide +kernel : decode (bOf 10) 9 = .ok (.putfield 9, 3)) (by decide +kernel) (by decide +kernel) rfl h
theorem x_10_12 : Ev d 10 12 (.ref r :: L) st μ Q = Ev d 10 13 (.ref r :: L) (.ref r :: st) μ Q := e_aload_n (by decide +kernel : decode (bOf 10) 12 = .ok (.aload_n 0, 1)) rfl
theorem x_10_13 : Ev d 10 13 L st ((N, S, K), V, A, P) Q = Ev d 10 16 L (.ref N :: st) ((N + 1, S + 5, up1 K N (2, 5)), up1 V N (rw' [.int 0, .int 0, .int 0, .int 0, .int 0]), A, P) Q := e_new 5 [.int 0, .int 0, .int 0, .int 0, .int 0] (by decide +kernel : decode (bOf 10) 13 = .ok (.new 15, 3)) (by decide +kernel) (by decide +kernel) (by decide +kernel) (by decide +kernel)
theorem x_10_16 : Ev d 10 16 L (.ref r :: st) μ Q = Ev d 10 17 L (.ref r :: .ref r :: st) μ Q := e_dup_a (by decide +kernel : decode (bOf 10) 16 = .ok (.dup, 1))
theorem x_10_17 : Ev d 10 17 L [.ref r, s0, s1] μ Q = Call d 20 [.ref r] μ (fun v μ1 => Ev d 10 20 L (v.toList ++ [s0, s1]) μ1 Q) := e_callI (a := []) (r := [s0, s1]) (by decide +kernel : decode (bOf 10) 17 = .ok (.invokespecial 17, 3)) (by decide +kernel) (by decide +kernel) (by decide +kernel) (by decide +kernel) (by omega) rfl (by simp)
theorem x_10_20 (h : kd t r = 1) : Ev d 10 20 L (.ref q :: .ref r :: st) (t, V, A, P) Q = Ev d 10 23 L st (t, up1 V r (up1 (V r) 1 (.ref q)), A, P) Q := e_putf (by decide +kernel : decode (bOf 10) 20 = .ok (.putfield 18, 3)) (by decide +kernel) (by decide +kernel) rfl h
theorem x_10_23 : Ev d 10 23 (.ref r :: L) st μ Q = Ev d 10 24 (.ref r :: L) (.ref r :: st) μ Q := e_aload_n (by decide +kernel : decode (bOf 10) 23 = .ok (.aload_n 0, 1)) rfl
theorem x_10_24 : Ev d 10 24 L st ((N, S, K), V, A, P) Q = Ev d 10 27 L (.ref N :: st) ((N + 1, S + 5, up1 K N (2, 5)), up1 V N (rw' [.int 0, .int 0, .int 0, .int 0, .int 0]), A, P) Q := e_new 5 [.int 0, .int 0, .int 0, .int 0, .int 0] (by decide +kernel : decode (bOf 10) 24 = .ok (.new 15, 3)) (by decide +kernel) (by decide +kernel) (by decide +kernel) (by decide +kernel)
theorem x_10_27 : Ev d 10 27 L (.ref r :: st) μ Q = Ev d 10 28 L (.ref r :: .ref r :: st) μ Q := e_dup_a (by decide +kernel : decode (bOf 10) 27 = .ok (.dup, 1))
theorem x_10_28 : Ev d 10 28 L [.ref r, s0, s1] μ Q = Call d 20 [.ref r] μ (fun v μ1 => Ev d 10 31 L (v.toList ++ [s0, s1]) μ1 Q) := e_callI (a := []) (r := [s0, s1]) (by decide +kernel : decode (bOf 10) 28 = .ok (.invokespecial 17, 3)) (by decide +kernel) (by decide +kernel) (by decide +kernel) (by decide +kernel) (by omega) rfl (by simp)
theorem x_10_31 (h : kd t r = 1) : Ev d 10 31 L (.ref q :: .ref r :: st) (t, V, A, P) Q = Ev d 10 34 L st (t, up1 V r (up1 (V r) 2 (.ref q)), A, P) Q := e_putf (by decide +kernel : decode (bOf 10) 31 = .ok (.putfield 22, 3)) (by decide +kernel) (by decide +kernel) rfl h
theorem x_10_34 : Ev d 10 34 (.ref r :: L) st μ Q = Ev d 10 35 (.ref r :: L) (.ref r :: st) μ Q := e_aload_n (by decide +kernel : decode (bOf 10) 34 = .ok (.aload_n 0, 1)) rfl
theorem x_10_35 : Ev d 10 35 L st μ Q = Ev d 10 36 L (.int (iI 0) :: st) μ Q := e_iconst (by decide +kernel : decode (bOf 10) 35 = .ok (.iconst 0, 1))
theorem x_10_36 (h : kd t r = 1) : Ev d 10 36 L (.int x :: .ref r :: st) (t, V, A, P) Q = Ev d 10 39 L st (t, up1 V r (up1 (V r) 3 (.int x)), A, P) Q := e_putf (by decide +kernel : decode (bOf 10) 36 = .ok (.putfield 25, 3)) (by decide +kernel) (by decide +kernel) rfl h
theorem x_10_39 : Ev d 10 39 (.ref r :: L) st μ Q = Ev d 10 40 (.ref r :: L) (.ref r :: st) μ Q := e_aload_n (by decide +kernel : decode (bOf 10) 39 = .ok (.aload_n 0, 1)) rfl
theorem x_10_40 : Ev d 10 40 L st μ Q = Ev d 10 41 L (.int (iI (-1)) :: st) μ Q := e_iconst (by decide +kernel : decode (bOf 10) 40 = .ok (.iconst (-1), 1))
theorem x_10_41 (h : kd t r = 1) : Ev d 10 41 L (.int x :: .ref r :: st) (t, V, A, P) Q = Ev d 10 44 L st (t, up1 V r (up1 (V r) 4 (.int x)), A, P) Q := e_putf (by decide +kernel : decode (bOf 10) 41 = .ok (.putfield 29, 3)) (by decide +kernel) (by decide +kernel) rfl h
theorem x_10_44 : Ev d 10 44 (.ref r :: L) st μ Q = Ev d 10 45 (.ref r :: L) (.ref r :: st) μ Q := e_aload_n (by decide +kernel : decode (bOf 10) 44 = .ok (.aload_n 0, 1)) rfl
theorem x_10_45 : Ev d 10 45 L st μ Q = Ev d 10 46 L (.int (iI 0) :: st) μ Q := e_iconst (by decide +kernel : decode (bOf 10) 45 = .ok (.iconst 0, 1))
theorem x_10_46 (h : kd t r = 1) : Ev d 10 46 L (.int x :: .ref r :: st) (t, V, A, P) Q = Ev d 10 49 L st (t, up1 V r (up1 (V r) 5 (.int x)), A, P) Q := e_putf (by decide +kernel : decode (bOf 10) 46 = .ok (.putfield 32, 3)) (by decide +kernel) (by decide +kernel) rfl h
theorem x_10_49 : Ev d 10 49 (.ref r :: L) st μ Q = Ev d 10 50 (.ref r :: L) (.ref r :: st) μ Q := e_aload_n (by decide +kernel : decode (bOf 10) 49 = .ok (.aload_n 0, 1)) rfl
theorem x_10_50 : Ev d 10 50 L st μ Q = Ev d 10 52 L (.int (iI (-9)) :: st) μ Q := e_bipush (by decide +kernel : decode (bOf 10) 50 = .ok (.bipush (-9), 2)) (by decide +kernel)
theorem x_10_52 (h : kd t r = 1) : Ev d 10 52 L (.int x :: .ref r :: st) (t, V, A, P) Q = Ev d 10 55 L st (t, up1 V r (up1 (V r) 6 (.int x)), A, P) Q := e_putf (by decide +kernel : decode (bOf 10) 52 = .ok (.putfield 35, 3)) (by decide +kernel) (by decide +kernel) rfl h
theorem x_10_55 : Ev d 10 55 (.ref r :: L) st μ Q = Ev d 10 56 (.ref r :: L) (.ref r :: st) μ Q := e_aload_n (by decide +kernel : decode (bOf 10) 55 = .ok (.aload_n 0, 1)) rfl
theorem x_10_56 : Ev d 10 56 L st μ Q = Ev d 10 57 L (.int (iI 0) :: st) μ Q := e_iconst (by decide +kernel : decode (bOf 10) 56 = .ok (.iconst 0, 1))
theorem x_10_57 (h : kd t r = 1) : Ev d 10 57 L (.int x :: .ref r :: st) (t, V, A, P) Q = Ev d 10 60 L st (t, up1 V r (up1 (V r) 7 (.int x)), A, P) Q := e_putf (by decide +kernel : decode (bOf 10) 57 = .ok (.putfield 38, 3)) (by decide +kernel) (by decide +kernel) rfl h
theorem x_10_60 : Ev d 10 60 (.ref r :: L) st μ Q = Ev d 10 61 (.ref r :: L) (.ref r :: st) μ Q := e_aload_n (by decide +kernel : decode (bOf 10) 60 = .ok (.aload_n 0, 1)) rfl
theorem x_10_61 : Ev d 10 61 L st μ Q = Ev d 10 62 L (.int (iI 0) :: st) μ Q := e_iconst (by decide +kernel : decode (bOf 10) 61 = .ok (.iconst 0, 1))
theorem x_10_62 (h : kd t r = 1) : Ev d 10 62 L (.int x :: .ref r :: st) (t, V, A, P) Q = Ev d 10 65 L st (t, up1 V r (up1 (V r) 8 (.int x)), A, P) Q := e_putf (by decide +kernel : decode (bOf 10) 62 = .ok (.putfield 41, 3)) (by decide +kernel) (by decide +kernel) rfl h
theorem x_10_65 : Ev d 10 65 (.ref r :: L) st μ Q = Ev d 10 66 (.ref r :: L) (.ref r :: st) μ Q := e_aload_n (by decide +kernel : decode (bOf 10) 65 = .ok (.aload_n 0, 1)) rfl
theorem x_10_66 : Ev d 10 66 L st μ Q = Ev d 10 68 L (.int (iI (-9)) :: st) μ Q := e_bipush (by decide +kernel : decode (bOf 10) 66 = .ok (.bipush (-9), 2)) (by decide +kernel)
theorem x_10_68 (h : kd t r = 1) : Ev d 10 68 L (.int x :: .ref r :: st) (t, V, A, P) Q = Ev d 10 71 L st (t, up1 V r (up1 (V r) 9 (.int x)), A, P) Q := e_putf (by decide +kernel : decode (bOf 10) 68 = .ok (.putfield 44, 3)) (by decide +kernel) (by decide +kernel) rfl h
theorem x_10_71 : Ev d 10 71 L [] μ Q = Q none μ := e_ret (by decide +kernel : decode (bOf 10) 71 = .ok (.return_, 1)) (by decide +kernel)
theorem c_11 : Call (d + 1) 11 [.ref r0, .ref r1, .int i2, .int i3] μ Q = Ev d 11 0 [.ref r0, .ref r1, .int i2, .int i3, .null, .null, .null] [] μ Q := call_ev rfl rfl 
theorem x_11_0 : Ev d 11 0 (.ref r :: L) st μ Q = Ev d 11 1 (.ref r :: L) (.ref r :: st) μ Q := e_aload_n (by decide +kernel : decode (bOf 11) 0 = .ok (.aload_n 0, 1)) rfl
theorem x_11_1 : Ev d 11 1 (a0 :: a1 :: .int x :: L) st μ Q = Ev d 11 2 (a0 :: a1 :: .int x :: L) (.int x :: st) μ Q := e_iload_n (by decide +kernel : decode (bOf 11) 1 = .ok (.iload_n 2, 1)) rfl
theorem x_11_2 (h : kd t r = 1) : Ev d 11 2 L (.int x :: .ref r :: st) (t, V, A, P) Q = Ev d 11 5 L st (t, up1 V r (up1 (V r) 3 (.int x)), A, P) Q := e_putf (by decide +kernel : decode (bOf 11) 2 = .ok (.putfield 25, 3)) (by decide +kernel) (by decide +kernel) rfl h
theorem x_11_5 : Ev d 11 5 (.ref r :: L) st μ Q = Ev d 11 6 (.ref r :: L) (.ref r :: st) μ Q := e_aload_n (by decide +kernel : decode (bOf 11) 5 = .ok (.aload_n 0, 1)) rfl
theorem x_11_6 : Ev d 11 6 (a0 :: a1 :: a2 :: .int x :: L) st μ Q = Ev d 11 7 (a0 :: a1 :: a2 :: .int x :: L) (.int x :: st) μ Q := e_iload_n (by decide +kernel : decode (bOf 11) 6 = .ok (.iload_n 3, 1)) rfl
theorem x_11_7 (h : kd t r = 1) : Ev d 11 7 L (.int x :: .ref r :: st) (t, V, A, P) Q = Ev d 11 10 L st (t, up1 V r (up1 (V r) 4 (.int x)), A, P) Q := e_putf (by decide +kernel : decode (bOf 11) 7 = .ok (.putfield 29, 3)) (by decide +kernel) (by decide +kernel) rfl h
theorem x_11_10 : Ev d 11 10 (.ref r :: L) st μ Q = Ev d 11 11 (.ref r :: L) (.ref r :: st) μ Q := e_aload_n (by decide +kernel : decode (bOf 11) 10 = .ok (.aload_n 0, 1)) rfl
theorem x_11_11 : Ev d 11 11 L st μ Q = Ev d 11 12 L (.int (iI 0) :: st) μ Q := e_iconst (by decide +kernel : decode (bOf 11) 11 = .ok (.iconst 0, 1))
theorem x_11_12 (h : kd t r = 1) : Ev d 11 12 L (.int x :: .ref r :: st) (t, V, A, P) Q = Ev d 11 15 L st (t, up1 V r (up1 (V r) 5 (.int x)), A, P) Q := e_putf (by decide +kernel : decode (bOf 11) 12 = .ok (.putfield 32, 3)) (by decide +kernel) (by decide +kernel) rfl h
theorem x_11_15 : Ev d 11 15 (a0 :: a1 :: .int x :: L) st μ Q = Ev d 11 16 (a0 :: a1 :: .int x :: L) (.int x :: st) μ Q := e_iload_n (by decide +kernel : decode (bOf 11) 15 = .ok (.iload_n 2, 1)) rfl
theorem x_11_16 (h : a3.category = 1) : Ev d 11 16 (a0 :: a1 :: a2 :: a3 :: a4 :: L) (.int x :: st) μ Q = Ev d 11 18 (a0 :: a1 :: a2 :: a3 :: .int x :: L) st μ Q := e_istore (by decide +kernel : decode (bOf 11) 16 = .ok (.istore 4, 2)) (by show stOK _ 4 = true; simp [stOK, h])
theorem x_11_18 : Ev d 11 18 (a0 :: a1 :: a2 :: a3 :: .int x :: L) st μ Q = Ev d 11 20 (a0 :: a1 :: a2 :: a3 :: .int x :: L) (.int x :: st) μ Q := e_iload (by decide +kernel : decode (bOf 11) 18 = .ok (.iload 4, 2)) rfl
theorem x_11_20 : Ev d 11 20 L st μ Q = Ev d 11 22 L (.int (iI 6) :: st) μ Q := e_bipush (by decide +kernel : decode (bOf 11) 20 = .ok (.bipush 6, 2)) (by decide +kernel)
theorem x_11_22 : Ev d 11 22 L (.int y :: .int x :: st) μ Q = Ev d 11 23 L (.int (x + y) :: st) μ Q := e_iadd (by decide +kernel : decode (bOf 11) 22 = .ok (.iadd, 1))
theorem x_11_23 : Ev d 11 23 (a0 :: .ref r :: L) st μ Q = Ev d 11 24 (a0 :: .ref r :: L) (.ref r :: st) μ Q := e_aload_n (by decide +kernel : decode (bOf 11) 23 = .ok (.aload_n 1, 1)) rfl
theorem x_11_24 (h : kd t r = 3) : Ev d 11 24 L [.ref r, s0] (t, V, A, P) Q = Call d 32 [.ref r] (t, V, A, P) (fun v μ1 => Ev d 11 27 L (v.toList ++ [s0]) μ1 Q) := e_callV (a := []) (r := [s0]) (by decide +kernel : decode (bOf 11) 24 = .ok (.invokevirtual 47, 3)) (by decide +kernel) (by decide +kernel) (by decide +kernel) (by omega) rfl (by simp) (by decide +kernel) h
theorem x_11_27 : Ev d 11 27 L (.int y :: .int x :: st) μ Q = if y < x then Ev d 11 101 L st μ Q else Ev d 11 30 L st μ Q := e_icmp_gt (by decide +kernel : decode (bOf 11) 27 = .ok (.if_icmp .gt 74, 3)) (by omega)
theorem x_11_30 : Ev d 11 30 (.ref r :: L) st μ Q = Ev d 11 31 (.ref r :: L) (.ref r :: st) μ Q := e_aload_n (by decide +kernel : decode (bOf 11) 30 = .ok (.aload_n 0, 1)) rfl
theorem x_11_31 (h : kd t r = 1) : Ev d 11 31 L (.ref r :: st) (t, V, A, P) Q = Ev d 11 34 L (V r 5 :: st) (t, V, A, P) Q := e_getf (by decide +kernel : decode (bOf 11) 31 = .ok (.getfield 32, 3)) (by decide +kernel) (by decide +kernel) h
theorem x_11_34 : Ev d 11 34 L st μ Q = Ev d 11 36 L (.int (iI 32) :: st) μ Q := e_bipush (by decide +kernel : decode (bOf 11) 34 = .ok (.bipush 32, 2)) (by decide +kernel)
theorem x_11_36 : Ev d 11 36 L (.int y :: .int x :: st) μ Q = if x < y then Ev d 11 39 L st μ Q else Ev d 11 101 L st μ Q := e_icmp_ge (by decide +kernel : decode (bOf 11) 36 = .ok (.if_icmp .ge 65, 3)) (by omega)
theorem x_11_39 : Ev d 11 39 L st μ Q = Ev d 11 40 L (.int (iI 0) :: st) μ Q := e_iconst (by decide +kernel : decode (bOf 11) 39 = .ok (.iconst 0, 1))
theorem x_11_40 (h : a4.category = 1) : Ev d 11 40 (a0 :: a1 :: a2 :: a3 :: a4 :: a5 :: L) (.int x :: st) μ Q = Ev d 11 42 (a0 :: a1 :: a2 :: a3 :: a4 :: .int x :: L) st μ Q := e_istore (by decide +kernel : decode (bOf 11) 40 = .ok (.istore 5, 2)) (by show stOK _ 5 = true; simp [stOK, h])
theorem x_11_42 : Ev d 11 42 L st μ Q = Ev d 11 43 L (.int (iI 0) :: st) μ Q := e_iconst (by decide +kernel : decode (bOf 11) 42 = .ok (.iconst 0, 1))
theorem x_11_43 (h : a5.category = 1) : Ev d 11 43 (a0 :: a1 :: a2 :: a3 :: a4 :: a5 :: a6 :: L) (.int x :: st) μ Q = Ev d 11 45 (a0 :: a1 :: a2 :: a3 :: a4 :: a5 :: .int x :: L) st μ Q := e_istore (by decide +kernel : decode (bOf 11) 43 = .ok (.istore 6, 2)) (by show stOK _ 6 = true; simp [stOK, h])
theorem x_11_45 : Ev d 11 45 (a0 :: a1 :: a2 :: a3 :: a4 :: a5 :: .int x :: L) st μ Q = Ev d 11 47 (a0 :: a1 :: a2 :: a3 :: a4 :: a5 :: .int x :: L) (.int x :: st) μ Q := e_iload (by decide +kernel : decode (bOf 11) 45 = .ok (.iload 6, 2)) rfl
theorem x_11_47 : Ev d 11 47 L st μ Q = Ev d 11 49 L (.int (iI 6) :: st) μ Q := e_bipush (by decide +kernel : decode (bOf 11) 47 = .ok (.bipush 6, 2)) (by decide +kernel)
theorem x_11_49 : Ev d 11 49 L (.int y :: .int x :: st) μ Q = if x < y then Ev d 11 52 L st μ Q else Ev d 11 74 L st μ Q := e_icmp_ge (by decide +kernel : decode (bOf 11) 49 = .ok (.if_icmp .ge 25, 3)) (by omega)
theorem x_11_52 : Ev d 11 52 L st μ Q = Ev d 11 53 L (.int (iI 2) :: st) μ Q := e_iconst (by decide +kernel : decode (bOf 11) 52 = .ok (.iconst 2, 1))
theorem x_11_53 : Ev d 11 53 (a0 :: a1 :: a2 :: a3 :: a4 :: .int x :: L) st μ Q = Ev d 11 55 (a0 :: a1 :: a2 :: a3 :: a4 :: .int x :: L) (.int x :: st) μ Q := e_iload (by decide +kernel : decode (bOf 11) 53 = .ok (.iload 5, 2)) rfl
theorem x_11_55 : Ev d 11 55 L (.int y :: .int x :: st) μ Q = Ev d 11 56 L (.int (x * y) :: st) μ Q := e_imul (by decide +kernel : decode (bOf 11) 55 = .ok (.imul, 1))
theorem x_11_56 : Ev d 11 56 (a0 :: .ref r :: L) st μ Q = Ev d 11 57 (a0 :: .ref r :: L) (.ref r :: st) μ Q := e_aload_n (by decide +kernel : decode (bOf 11) 56 = .ok (.aload_n 1, 1)) rfl
theorem x_11_57 : Ev d 11 57 (a0 :: a1 :: a2 :: a3 :: .int x :: L) st μ Q = Ev d 11 59 (a0 :: a1 :: a2 :: a3 :: .int x :: L) (.int x :: st) μ Q := e_iload (by decide +kernel : decode (bOf 11) 57 = .ok (.iload 4, 2)) rfl
theorem x_11_59 : Ev d 11 59 (a0 :: a1 :: a2 :: a3 :: a4 :: a5 :: .int x :: L) st μ Q = Ev d 11 61 (a0 :: a1 :: a2 :: a3 :: a4 :: a5 :: .int x :: L) (.int x :: st) μ Q := e_iload (by decide +kernel : decode (bOf 11) 59 = .ok (.iload 6, 2)) rfl
theorem x_11_61 : Ev d 11 61 L (.int y :: .int x :: st) μ Q = Ev d 11 62 L (.int (x + y) :: st) μ Q := e_iadd (by decide +kernel : decode (bOf 11) 61 = .ok (.iadd, 1))
theorem x_11_62 (h : kd t r = 3) : Ev d 11 62 L [b0, .ref r, s0] (t, V, A, P) Q = Call d 34 [.ref r, b0] (t, V, A, P) (fun v μ1 => Ev d 11 65 L (v.toList ++ [s0]) μ1 Q) := e_callV (a := [b0]) (r := [s0]) (by decide +kernel : decode (bOf 11) 62 = .ok (.invokevirtual 53, 3)) (by decide +kernel) (by decide +kernel) (by decide +kernel) (by omega) rfl (by simp) (by decide +kernel) h
theorem x_11_65 : Ev d 11 65 L (.int y :: .int x :: st) μ Q = Ev d 11 66 L (.int (x + y) :: st) μ Q := e_iadd (by decide +kernel : decode (bOf 11) 65 = .ok (.iadd, 1))
theorem x_11_66 (h : a4.category = 1) : Ev d 11 66 (a0 :: a1 :: a2 :: a3 :: a4 :: a5 :: L) (.int x :: st) μ Q = Ev d 11 68 (a0 :: a1 :: a2 :: a3 :: a4 :: .int x :: L) st μ Q := e_istore (by decide +kernel : decode (bOf 11) 66 = .ok (.istore 5, 2)) (by show stOK _ 5 = true; simp [stOK, h])
theorem x_11_68 (h : a5.category = 1) : Ev d 11 68 (a0 :: a1 :: a2 :: a3 :: a4 :: a5 :: .int x :: L) st μ Q = Ev d 11 71 (a0 :: a1 :: a2 :: a3 :: a4 :: a5 :: .int (x + (iI 1)) :: L) st μ Q := e_iinc (by decide +kernel : decode (bOf 11) 68 = .ok (.iinc 6 1, 3)) rfl (by simp [stOK, h])
theorem x_11_71 : Ev d 11 71 L st μ Q = Ev d 11 45 L st μ Q := e_goto (by decide +kernel : decode (bOf 11) 71 = .ok (.goto (-26), 3)) (by omega)
theorem x_11_74 : Ev d 11 74 (.ref r :: L) st μ Q = Ev d 11 75 (.ref r :: L) (.ref r :: st) μ Q := e_aload_n (by decide +kernel : decode (bOf 11) 74 = .ok (.aload_n 0, 1)) rfl
theorem x_11_75 (h : kd t r = 1) : Ev d 11 75 L (.ref r :: st) (t, V, A, P) Q = Ev d 11 78 L (V r 0 :: st) (t, V, A, P) Q := e_getf (by decide +kernel : decode (bOf 11) 75 = .ok (.getfield 9, 3)) (by decide +kernel) (by decide +kernel) h
theorem x_11_78 : Ev d 11 78 (.ref r :: L) st μ Q = Ev d 11 79 (.ref r :: L) (.ref r :: st) μ Q := e_aload_n (by decide +kernel : decode (bOf 11) 78 = .ok (.aload_n 0, 1)) rfl
theorem x_11_79 (h : kd t r = 1) : Ev d 11 79 L (.ref r :: st) (t, V, A, P) Q = Ev d 11 82 L (V r 5 :: st) (t, V, A, P) Q := e_getf (by decide +kernel : decode (bOf 11) 79 = .ok (.getfield 32, 3)) (by decide +kernel) (by decide +kernel) h
theorem x_11_82 : Ev d 11 82 (a0 :: a1 :: a2 :: a3 :: a4 :: .int x :: L) st μ Q = Ev d 11 84 (a0 :: a1 :: a2 :: a3 :: a4 :: .int x :: L) (.int x :: st) μ Q := e_iload (by decide +kernel : decode (bOf 11) 82 = .ok (.iload 5, 2)) rfl
theorem x_11_84 (h : kd t r = 6) (hi : inB x (ln t r) = true) : Ev d 11 84 L (.int y :: .int x :: .ref r :: st) (t, V, A, P) Q = Ev d 11 85 L st (t, V, up1 A r (upd (A r) x.toNatClampNeg y), P) Q := e_iast (by decide +kernel : decode (bOf 11) 84 = .ok (.iastore, 1)) h hi
theorem x_11_85 : Ev d 11 85 (.ref r :: L) st μ Q = Ev d 11 86 (.ref r :: L) (.ref r :: st) μ Q := e_aload_n (by decide +kernel : decode (bOf 11) 85 = .ok (.aload_n 0, 1)) rfl
theorem x_11_86 : Ev d 11 86 L (.ref r :: st) μ Q = Ev d 11 87 L (.ref r :: .ref r :: st) μ Q := e_dup_a (by decide +kernel : decode (bOf 11) 86 = .ok (.dup, 1))
theorem x_11_87 (h : kd t r = 1) : Ev d 11 87 L (.ref r :: st) (t, V, A, P) Q = Ev d 11 90 L (V r 5 :: st) (t, V, A, P) Q := e_getf (by decide +kernel : decode (bOf 11) 87 = .ok (.getfield 32, 3)) (by decide +kernel) (by decide +kernel) h
theorem x_11_90 : Ev d 11 90 L st μ Q = Ev d 11 91 L (.int (iI 1) :: st) μ Q := e_iconst (by decide +kernel : decode (bOf 11) 90 = .ok (.iconst 1, 1))
theorem x_11_91 : Ev d 11 91 L (.int y :: .int x :: st) μ Q = Ev d 11 92 L (.int (x + y) :: st) μ Q := e_iadd (by decide +kernel : decode (bOf 11) 91 = .ok (.iadd, 1))
theorem x_11_92 (h : kd t r = 1) : Ev d 11 92 L (.int x :: .ref r :: st) (t, V, A, P) Q = Ev d 11 95 L st (t, up1 V r (up1 (V r) 5 (.int x)), A, P) Q := e_putf (by decide +kernel : decode (bOf 11) 92 = .ok (.putfield 32, 3)) (by decide +kernel) (by decide +kernel) rfl h
theorem x_11_95 (h : a3.category = 1) : Ev d 11 95 (a0 :: a1 :: a2 :: a3 :: .int x :: L) st μ Q = Ev d 11 98 (a0 :: a1 :: a2 :: a3 :: .int (x + (iI 6)) :: L) st μ Q := e_iinc (by decide +kernel : decode (bOf 11) 95 = .ok (.iinc 4 6, 3)) rfl (by simp [stOK, h])
theorem x_11_98 : Ev d 11 98 L st μ Q = Ev d 11 18 L st μ Q := e_goto (by decide +kernel : decode (bOf 11) 98 = .ok (.goto (-80), 3)) (by omega)
theorem x_11_101 : Ev d 11 101 L [] μ Q = Q none μ := e_ret (by decide +kernel : decode (bOf 11) 101 = .ok (.return_, 1)) (by decide +kernel)
theorem c_12 : Call (d + 1) 12 [.ref r0, .int i1] μ Q = Ev d 12 0 [.ref r0, .int i1] [] μ Q := call_ev rfl rfl 
theorem x_12_0 : Ev d 12 0 (a0 :: .int x :: L) st μ Q = Ev d 12 1 (a0 :: .int x :: L) (.int x :: st) μ Q := e_iload_n (by decide +kernel : decode (bOf 12) 0 = .ok (.iload_n 1, 1)) rfl
theorem x_12_1 : Ev d 12 1 L (.int x :: st) μ Q = if x < iI 0 then Ev d 12 27 L st μ Q else Ev d 12 4 L st μ Q := e_if_lt (by decide +kernel : decode (bOf 12) 1 = .ok (.ifCond .lt 26, 3)) (by omega)
theorem x_12_4 : Ev d 12 4 (a0 :: .int x :: L) st μ Q = Ev d 12 5 (a0 :: .int x :: L) (.int x :: st) μ Q := e_iload_n (by decide +kernel : decode (bOf 12) 4 = .ok (.iload_n 1, 1)) rfl
theorem x_12_5 : Ev d 12 5 (.ref r :: L) st μ Q = Ev d 12 6 (.ref r :: L) (.ref r :: st) μ Q := e_aload_n (by decide +kernel : decode (bOf 12) 5 = .ok (.aload_n 0, 1)) rfl
theorem x_12_6 (h : kd t r = 1) : Ev d 12 6 L (.ref r :: st) (t, V, A, P) Q = Ev d 12 9 L (V r 5 :: st) (t, V, A, P) Q := e_getf (by decide +kernel : decode (bOf 12) 6 = .ok (.getfield 32, 3)) (by decide +kernel) (by decide +kernel) h
theorem x_12_9 : Ev d 12 9 L (.int y :: .int x :: st) μ Q = if x < y then Ev d 12 12 L st μ Q else Ev d 12 27 L st μ Q := e_icmp_ge (by decide +kernel : decode (bOf 12) 9 = .ok (.if_icmp .ge 18, 3)) (by omega)
theorem x_12_12 : Ev d 12 12 (a0 :: .int x :: L) st μ Q = Ev d 12 13 (a0 :: .int x :: L) (.int x :: st) μ Q := e_iload_n (by decide +kernel : decode (bOf 12) 12 = .ok (.iload_n 1, 1)) rfl
theorem x_12_13 : Ev d 12 13 L st μ Q = Ev d 12 15 L (.int (iI 32) :: st) μ Q := e_bipush (by decide +kernel : decode (bOf 12) 13 = .ok (.bipush 32, 2)) (by decide +kernel)
theorem x_12_15 : Ev d 12 15 L (.int y :: .int x :: st) μ Q = if x < y then Ev d 12 18 L st μ Q else Ev d 12 27 L st μ Q := e_icmp_ge (by decide +kernel : decode (bOf 12) 15 = .ok (.if_icmp .ge 12, 3)) (by omega)
theorem x_12_18 : Ev d 12 18 (.ref r :: L) st μ Q = Ev d 12 19 (.ref r :: L) (.ref r :: st) μ Q := e_aload_n (by decide +kernel : decode (bOf 12) 18 = .ok (.aload_n 0, 1)) rfl
theorem x_12_19 (h : kd t r = 1) : Ev d 12 19 L (.ref r :: st) (t, V, A, P) Q = Ev d 12 22 L (V r 0 :: st) (t, V, A, P) Q := e_getf (by decide +kernel : decode (bOf 12) 19 = .ok (.getfield 9, 3)) (by decide +kernel) (by decide +kernel) h
theorem x_12_22 : Ev d 12 22 (a0 :: .int x :: L) st μ Q = Ev d 12 23 (a0 :: .int x :: L) (.int x :: st) μ Q := e_iload_n (by decide +kernel : decode (bOf 12) 22 = .ok (.iload_n 1, 1)) rfl
theorem x_12_23 (h : kd t r = 6) (hi : inB x (ln t r) = true) : Ev d 12 23 L (.int x :: .ref r :: st) (t, V, A, P) Q = Ev d 12 24 L (.int (A r x.toNatClampNeg) :: st) (t, V, A, P) Q := e_iald (by decide +kernel : decode (bOf 12) 23 = .ok (.iaload, 1)) h hi
theorem x_12_24 : Ev d 12 24 L st μ Q = Ev d 12 28 L st μ Q := e_goto (by decide +kernel : decode (bOf 12) 24 = .ok (.goto 4, 3)) (by omega)
theorem x_12_27 : Ev d 12 27 L st μ Q = Ev d 12 28 L (.int (iI 0) :: st) μ Q := e_iconst (by decide +kernel : decode (bOf 12) 27 = .ok (.iconst 0, 1))
theorem x_12_28 : Ev d 12 28 L [.int x] μ Q = Q (some (.int x)) μ := e_iret (by decide +kernel : decode (bOf 12) 28 = .ok (.ireturn, 1)) (by decide +kernel)
end Xa
