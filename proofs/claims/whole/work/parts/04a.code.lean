section Xa
variable {d : Nat} {L st : List Value} {μ : mM} {Q : Option Value → mM → Prop} {t : mL} {V : Nat → Nat → Value} {A : Nat → Nat → Int32} {P : Nat → Nat → Option Nat} {N S : Nat} {K : Nat → Nat × Nat}
variable {a0 a1 a2 a3 a4 a5 a6 a7 a8 a9 a10 a11 a12 b0 b1 b2 b3 s0 s1 s2 s3 : Value} {x y i0 i1 i2 i3 i4 : Int32} {w z : Int64} {r q r0 r1 r2 : Nat}
theorem c_0 : Call (d + 1) 0 [.int i0] μ Q = Ev d 0 0 [.int i0] [] μ Q := call_ev rfl rfl
theorem x_0_0 : Ev d 0 0 (.int x :: L) st μ Q = Ev d 0 1 (.int x :: L) (.int x :: st) μ Q := e_iload_n (by decide +kernel : decode (bOf 0) 0 = .ok (.iload_n 0, 1)) rfl
theorem x_0_1 : Ev d 0 1 L (.int x :: st) μ Q = if x < iI 0 then Ev d 0 14 L st μ Q else Ev d 0 4 L st μ Q := e_if_lt (by decide +kernel : decode (bOf 0) 1 = .ok (.ifCond .lt 13, 3)) (by omega)
theorem x_0_4 : Ev d 0 4 (.int x :: L) st μ Q = Ev d 0 5 (.int x :: L) (.int x :: st) μ Q := e_iload_n (by decide +kernel : decode (bOf 0) 4 = .ok (.iload_n 0, 1)) rfl
theorem x_0_5 : Ev d 0 5 L st μ Q = Ev d 0 7 L (.int (iI 34) :: st) μ Q := e_bipush (by decide +kernel : decode (bOf 0) 5 = .ok (.bipush 34, 2)) (by decide +kernel)
theorem x_0_7 : Ev d 0 7 L (.int y :: .int x :: st) μ Q = if x < y then Ev d 0 10 L st μ Q else Ev d 0 14 L st μ Q := e_icmp_ge (by decide +kernel : decode (bOf 0) 7 = .ok (.if_icmp .ge 7, 3)) (by omega)
theorem x_0_10 : Ev d 0 10 L st μ Q = Ev d 0 11 L (.int (iI 1) :: st) μ Q := e_iconst (by decide +kernel : decode (bOf 0) 10 = .ok (.iconst 1, 1))
theorem x_0_11 : Ev d 0 11 L st μ Q = Ev d 0 15 L st μ Q := e_goto (by decide +kernel : decode (bOf 0) 11 = .ok (.goto 4, 3)) (by omega)
theorem x_0_14 : Ev d 0 14 L st μ Q = Ev d 0 15 L (.int (iI 0) :: st) μ Q := e_iconst (by decide +kernel : decode (bOf 0) 14 = .ok (.iconst 0, 1))
theorem x_0_15 (hx : isB x) : Ev d 0 15 L [.int x] μ Q = Q (some (.int x)) μ := e_zret (by decide +kernel : decode (bOf 0) 15 = .ok (.ireturn, 1)) (by decide +kernel) hx
theorem c_1 : Call (d + 1) 1 [.int i0, .int i1] μ Q = Ev d 1 0 [.int i0, .int i1, .null] [] μ Q := call_ev rfl rfl
theorem x_1_0 : Ev d 1 0 (.int x :: L) st μ Q = Ev d 1 1 (.int x :: L) (.int x :: st) μ Q := e_iload_n (by decide +kernel : decode (bOf 1) 0 = .ok (.iload_n 0, 1)) rfl
theorem x_1_1 : Ev d 1 1 L (.int x :: st) μ Q = if x < iI 0 then Ev d 1 20 L st μ Q else Ev d 1 4 L st μ Q := e_if_lt (by decide +kernel : decode (bOf 1) 1 = .ok (.ifCond .lt 19, 3)) (by omega)
theorem x_1_4 : Ev d 1 4 (.int x :: L) st μ Q = Ev d 1 5 (.int x :: L) (.int x :: st) μ Q := e_iload_n (by decide +kernel : decode (bOf 1) 4 = .ok (.iload_n 0, 1)) rfl
theorem x_1_5 : Ev d 1 5 L st μ Q = Ev d 1 8 L (.ref 0 :: st) μ Q := e_gets (by decide +kernel : decode (bOf 1) 5 = .ok (.getstatic 9, 3)) (by decide +kernel)
theorem x_1_8 (h : kd t r = 10) : Ev d 1 8 L (.ref r :: st) (t, V, A, P) Q = Ev d 1 9 L (.int (Int32.ofNat (ln t r)) :: st) (t, V, A, P) Q := e_alen (by decide +kernel : decode (bOf 1) 8 = .ok (.arraylength, 1)) h
theorem x_1_9 : Ev d 1 9 L (.int y :: .int x :: st) μ Q = if x < y then Ev d 1 12 L st μ Q else Ev d 1 20 L st μ Q := e_icmp_ge (by decide +kernel : decode (bOf 1) 9 = .ok (.if_icmp .ge 11, 3)) (by omega)
theorem x_1_12 : Ev d 1 12 L st μ Q = Ev d 1 15 L (.ref 0 :: st) μ Q := e_gets (by decide +kernel : decode (bOf 1) 12 = .ok (.getstatic 9, 3)) (by decide +kernel)
theorem x_1_15 : Ev d 1 15 (.int x :: L) st μ Q = Ev d 1 16 (.int x :: L) (.int x :: st) μ Q := e_iload_n (by decide +kernel : decode (bOf 1) 15 = .ok (.iload_n 0, 1)) rfl
theorem x_1_16 (h : kd t r = 10) (hi : inB x (ln t r) = true) : Ev d 1 16 L (.int x :: .ref r :: st) (t, V, A, P) Q = Ev d 1 17 L (.int (A r x.toNatClampNeg) :: st) (t, V, A, P) Q := e_iald_ro (by decide +kernel : decode (bOf 1) 16 = .ok (.iaload, 1)) h hi
theorem x_1_17 : Ev d 1 17 L st μ Q = Ev d 1 21 L st μ Q := e_goto (by decide +kernel : decode (bOf 1) 17 = .ok (.goto 4, 3)) (by omega)
theorem x_1_20 : Ev d 1 20 L st μ Q = Ev d 1 21 L (.int (iI 0) :: st) μ Q := e_iconst (by decide +kernel : decode (bOf 1) 20 = .ok (.iconst 0, 1))
theorem x_1_21 (h : a1.category = 1) : Ev d 1 21 (a0 :: a1 :: a2 :: L) (.int x :: st) μ Q = Ev d 1 22 (a0 :: a1 :: .int x :: L) st μ Q := e_istore_n (by decide +kernel : decode (bOf 1) 21 = .ok (.istore_n 2, 1)) (by show stOK _ 2 = true; simp [stOK, h])
theorem x_1_22 : Ev d 1 22 (a0 :: .int x :: L) st μ Q = Ev d 1 23 (a0 :: .int x :: L) (.int x :: st) μ Q := e_iload_n (by decide +kernel : decode (bOf 1) 22 = .ok (.iload_n 1, 1)) rfl
theorem x_1_23 : Ev d 1 23 L st μ Q = Ev d 1 24 L (.int (iI 1) :: st) μ Q := e_iconst (by decide +kernel : decode (bOf 1) 23 = .ok (.iconst 1, 1))
theorem x_1_24 : Ev d 1 24 L (.int y :: .int x :: st) μ Q = if x = y then Ev d 1 27 L st μ Q else Ev d 1 40 L st μ Q := e_icmp_ne (by decide +kernel : decode (bOf 1) 24 = .ok (.if_icmp .ne 16, 3)) (by omega)
theorem x_1_27 : Ev d 1 27 (.int x :: L) st μ Q = Ev d 1 28 (.int x :: L) (.int x :: st) μ Q := e_iload_n (by decide +kernel : decode (bOf 1) 27 = .ok (.iload_n 0, 1)) rfl
theorem x_1_28 : Ev d 1 28 L st μ Q = Ev d 1 30 L (.int (iI 18) :: st) μ Q := e_bipush (by decide +kernel : decode (bOf 1) 28 = .ok (.bipush 18, 2)) (by decide +kernel)
theorem x_1_30 : Ev d 1 30 L (.int y :: .int x :: st) μ Q = if x < y then Ev d 1 40 L st μ Q else Ev d 1 33 L st μ Q := e_icmp_lt (by decide +kernel : decode (bOf 1) 30 = .ok (.if_icmp .lt 10, 3)) (by omega)
theorem x_1_33 : Ev d 1 33 L st μ Q = Ev d 1 35 L (.int (iI 63) :: st) μ Q := e_bipush (by decide +kernel : decode (bOf 1) 33 = .ok (.bipush 63, 2)) (by decide +kernel)
theorem x_1_35 : Ev d 1 35 (a0 :: a1 :: .int x :: L) st μ Q = Ev d 1 36 (a0 :: a1 :: .int x :: L) (.int x :: st) μ Q := e_iload_n (by decide +kernel : decode (bOf 1) 35 = .ok (.iload_n 2, 1)) rfl
theorem x_1_36 : Ev d 1 36 L (.int y :: .int x :: st) μ Q = Ev d 1 37 L (.int (x - y) :: st) μ Q := e_isub (by decide +kernel : decode (bOf 1) 36 = .ok (.isub, 1))
theorem x_1_37 : Ev d 1 37 L st μ Q = Ev d 1 41 L st μ Q := e_goto (by decide +kernel : decode (bOf 1) 37 = .ok (.goto 4, 3)) (by omega)
theorem x_1_40 : Ev d 1 40 (a0 :: a1 :: .int x :: L) st μ Q = Ev d 1 41 (a0 :: a1 :: .int x :: L) (.int x :: st) μ Q := e_iload_n (by decide +kernel : decode (bOf 1) 40 = .ok (.iload_n 2, 1)) rfl
theorem x_1_41 : Ev d 1 41 L [.int x] μ Q = Q (some (.int x)) μ := e_iret (by decide +kernel : decode (bOf 1) 41 = .ok (.ireturn, 1)) (by decide +kernel)
theorem c_2 : Call (d + 1) 2 [.int i0] μ Q = Ev d 2 0 [.int i0] [] μ Q := call_ev rfl rfl
theorem x_2_0 : Ev d 2 0 (.int x :: L) st μ Q = Ev d 2 1 (.int x :: L) (.int x :: st) μ Q := e_iload_n (by decide +kernel : decode (bOf 2) 0 = .ok (.iload_n 0, 1)) rfl
theorem x_2_1 : Ev d 2 1 L (.int x :: st) μ Q = if x < iI 0 then Ev d 2 20 L st μ Q else Ev d 2 4 L st μ Q := e_if_lt (by decide +kernel : decode (bOf 2) 1 = .ok (.ifCond .lt 19, 3)) (by omega)
theorem x_2_4 : Ev d 2 4 (.int x :: L) st μ Q = Ev d 2 5 (.int x :: L) (.int x :: st) μ Q := e_iload_n (by decide +kernel : decode (bOf 2) 4 = .ok (.iload_n 0, 1)) rfl
theorem x_2_5 : Ev d 2 5 L st μ Q = Ev d 2 8 L (.ref 1 :: st) μ Q := e_gets (by decide +kernel : decode (bOf 2) 5 = .ok (.getstatic 15, 3)) (by decide +kernel)
theorem x_2_8 (h : kd t r = 10) : Ev d 2 8 L (.ref r :: st) (t, V, A, P) Q = Ev d 2 9 L (.int (Int32.ofNat (ln t r)) :: st) (t, V, A, P) Q := e_alen (by decide +kernel : decode (bOf 2) 8 = .ok (.arraylength, 1)) h
theorem x_2_9 : Ev d 2 9 L (.int y :: .int x :: st) μ Q = if x < y then Ev d 2 12 L st μ Q else Ev d 2 20 L st μ Q := e_icmp_ge (by decide +kernel : decode (bOf 2) 9 = .ok (.if_icmp .ge 11, 3)) (by omega)
theorem x_2_12 : Ev d 2 12 L st μ Q = Ev d 2 15 L (.ref 1 :: st) μ Q := e_gets (by decide +kernel : decode (bOf 2) 12 = .ok (.getstatic 15, 3)) (by decide +kernel)
theorem x_2_15 : Ev d 2 15 (.int x :: L) st μ Q = Ev d 2 16 (.int x :: L) (.int x :: st) μ Q := e_iload_n (by decide +kernel : decode (bOf 2) 15 = .ok (.iload_n 0, 1)) rfl
theorem x_2_16 (h : kd t r = 10) (hi : inB x (ln t r) = true) : Ev d 2 16 L (.int x :: .ref r :: st) (t, V, A, P) Q = Ev d 2 17 L (.int (A r x.toNatClampNeg) :: st) (t, V, A, P) Q := e_iald_ro (by decide +kernel : decode (bOf 2) 16 = .ok (.iaload, 1)) h hi
theorem x_2_17 : Ev d 2 17 L st μ Q = Ev d 2 22 L st μ Q := e_goto (by decide +kernel : decode (bOf 2) 17 = .ok (.goto 5, 3)) (by omega)
theorem x_2_20 : Ev d 2 20 L st μ Q = Ev d 2 22 L (.int (iI (-9)) :: st) μ Q := e_bipush (by decide +kernel : decode (bOf 2) 20 = .ok (.bipush (-9), 2)) (by decide +kernel)
theorem x_2_22 : Ev d 2 22 L [.int x] μ Q = Q (some (.int x)) μ := e_iret (by decide +kernel : decode (bOf 2) 22 = .ok (.ireturn, 1)) (by decide +kernel)
theorem c_3 : Call (d + 1) 3 [.int i0, .int i1] μ Q = Ev d 3 0 [.int i0, .int i1, .null] [] μ Q := call_ev rfl rfl
theorem x_3_0 : Ev d 3 0 (.int x :: L) st μ Q = Ev d 3 1 (.int x :: L) (.int x :: st) μ Q := e_iload_n (by decide +kernel : decode (bOf 3) 0 = .ok (.iload_n 0, 1)) rfl
theorem x_3_1 : Ev d 3 1 L [b0] μ Q = Call d 2 [b0] μ (fun v μ1 => Ev d 3 4 L (v.toList ++ []) μ1 Q) := e_callS (a := [b0]) (r := []) (by decide +kernel : decode (bOf 3) 1 = .ok (.invokestatic 18, 3)) (by decide +kernel) (by decide +kernel) (by omega) rfl (by simp)
theorem x_3_4 (h : a1.category = 1) : Ev d 3 4 (a0 :: a1 :: a2 :: L) (.int x :: st) μ Q = Ev d 3 5 (a0 :: a1 :: .int x :: L) st μ Q := e_istore_n (by decide +kernel : decode (bOf 3) 4 = .ok (.istore_n 2, 1)) (by show stOK _ 2 = true; simp [stOK, h])
theorem x_3_5 : Ev d 3 5 (a0 :: a1 :: .int x :: L) st μ Q = Ev d 3 6 (a0 :: a1 :: .int x :: L) (.int x :: st) μ Q := e_iload_n (by decide +kernel : decode (bOf 3) 5 = .ok (.iload_n 2, 1)) rfl
theorem x_3_6 : Ev d 3 6 L st μ Q = Ev d 3 8 L (.int (iI (-9)) :: st) μ Q := e_bipush (by decide +kernel : decode (bOf 3) 6 = .ok (.bipush (-9), 2)) (by decide +kernel)
theorem x_3_8 : Ev d 3 8 L (.int y :: .int x :: st) μ Q = if x = y then Ev d 3 24 L st μ Q else Ev d 3 11 L st μ Q := e_icmp_eq (by decide +kernel : decode (bOf 3) 8 = .ok (.if_icmp .eq 16, 3)) (by omega)
theorem x_3_11 : Ev d 3 11 (a0 :: a1 :: .int x :: L) st μ Q = Ev d 3 12 (a0 :: a1 :: .int x :: L) (.int x :: st) μ Q := e_iload_n (by decide +kernel : decode (bOf 3) 11 = .ok (.iload_n 2, 1)) rfl
theorem x_3_12 : Ev d 3 12 (a0 :: .int x :: L) st μ Q = Ev d 3 13 (a0 :: .int x :: L) (.int x :: st) μ Q := e_iload_n (by decide +kernel : decode (bOf 3) 12 = .ok (.iload_n 1, 1)) rfl
theorem x_3_13 : Ev d 3 13 L [b1, b0] μ Q = Call d 1 [b0, b1] μ (fun v μ1 => Ev d 3 16 L (v.toList ++ []) μ1 Q) := e_callS (a := [b0, b1]) (r := []) (by decide +kernel : decode (bOf 3) 13 = .ok (.invokestatic 22, 3)) (by decide +kernel) (by decide +kernel) (by omega) rfl (by simp)
theorem x_3_16 : Ev d 3 16 (.int x :: L) st μ Q = Ev d 3 17 (.int x :: L) (.int x :: st) μ Q := e_iload_n (by decide +kernel : decode (bOf 3) 16 = .ok (.iload_n 0, 1)) rfl
theorem x_3_17 : Ev d 3 17 L (.int y :: .int x :: st) μ Q = if x = y then Ev d 3 20 L st μ Q else Ev d 3 24 L st μ Q := e_icmp_ne (by decide +kernel : decode (bOf 3) 17 = .ok (.if_icmp .ne 7, 3)) (by omega)
theorem x_3_20 : Ev d 3 20 L st μ Q = Ev d 3 21 L (.int (iI 1) :: st) μ Q := e_iconst (by decide +kernel : decode (bOf 3) 20 = .ok (.iconst 1, 1))
theorem x_3_21 : Ev d 3 21 L st μ Q = Ev d 3 25 L st μ Q := e_goto (by decide +kernel : decode (bOf 3) 21 = .ok (.goto 4, 3)) (by omega)
theorem x_3_24 : Ev d 3 24 L st μ Q = Ev d 3 25 L (.int (iI 0) :: st) μ Q := e_iconst (by decide +kernel : decode (bOf 3) 24 = .ok (.iconst 0, 1))
theorem x_3_25 (hx : isB x) : Ev d 3 25 L [.int x] μ Q = Q (some (.int x)) μ := e_zret (by decide +kernel : decode (bOf 3) 25 = .ok (.ireturn, 1)) (by decide +kernel) hx
theorem c_4 : Call (d + 1) 4 [.int i0, .int i1] μ Q = Ev d 4 0 [.int i0, .int i1, .null] [] μ Q := call_ev rfl rfl
theorem x_4_0 : Ev d 4 0 (.int x :: L) st μ Q = Ev d 4 1 (.int x :: L) (.int x :: st) μ Q := e_iload_n (by decide +kernel : decode (bOf 4) 0 = .ok (.iload_n 0, 1)) rfl
theorem x_4_1 : Ev d 4 1 L [b0] μ Q = Call d 129 [b0] μ (fun v μ1 => Ev d 4 4 L (v.toList ++ []) μ1 Q) := e_callS (a := [b0]) (r := []) (by decide +kernel : decode (bOf 4) 1 = .ok (.invokestatic 26, 3)) (by decide +kernel) (by decide +kernel) (by omega) rfl (by simp)
theorem x_4_4 (h : a1.category = 1) : Ev d 4 4 (a0 :: a1 :: a2 :: L) (.int x :: st) μ Q = Ev d 4 5 (a0 :: a1 :: .int x :: L) st μ Q := e_istore_n (by decide +kernel : decode (bOf 4) 4 = .ok (.istore_n 2, 1)) (by show stOK _ 2 = true; simp [stOK, h])
theorem x_4_5 : Ev d 4 5 (a0 :: a1 :: .int x :: L) st μ Q = Ev d 4 6 (a0 :: a1 :: .int x :: L) (.int x :: st) μ Q := e_iload_n (by decide +kernel : decode (bOf 4) 5 = .ok (.iload_n 2, 1)) rfl
theorem x_4_6 : Ev d 4 6 L st μ Q = Ev d 4 7 L (.int (iI 3) :: st) μ Q := e_iconst (by decide +kernel : decode (bOf 4) 6 = .ok (.iconst 3, 1))
theorem x_4_7 : Ev d 4 7 L (.int y :: .int x :: st) μ Q = if x = y then Ev d 4 10 L st μ Q else Ev d 4 12 L st μ Q := e_icmp_ne (by decide +kernel : decode (bOf 4) 7 = .ok (.if_icmp .ne 5, 3)) (by omega)
theorem x_4_10 : Ev d 4 10 (a0 :: .int x :: L) st μ Q = Ev d 4 11 (a0 :: .int x :: L) (.int x :: st) μ Q := e_iload_n (by decide +kernel : decode (bOf 4) 10 = .ok (.iload_n 1, 1)) rfl
theorem x_4_11 : Ev d 4 11 L [.int x] μ Q = Q (some (.int x)) μ := e_iret (by decide +kernel : decode (bOf 4) 11 = .ok (.ireturn, 1)) (by decide +kernel)
theorem x_4_12 : Ev d 4 12 (a0 :: a1 :: .int x :: L) st μ Q = Ev d 4 13 (a0 :: a1 :: .int x :: L) (.int x :: st) μ Q := e_iload_n (by decide +kernel : decode (bOf 4) 12 = .ok (.iload_n 2, 1)) rfl
theorem x_4_13 : Ev d 4 13 L st μ Q = Ev d 4 14 L (.int (iI 3) :: st) μ Q := e_iconst (by decide +kernel : decode (bOf 4) 13 = .ok (.iconst 3, 1))
theorem x_4_14 : Ev d 4 14 L (.int y :: .int x :: st) μ Q = if y < x then Ev d 4 17 L st μ Q else Ev d 4 21 L st μ Q := e_icmp_le (by decide +kernel : decode (bOf 4) 14 = .ok (.if_icmp .le 7, 3)) (by omega)
theorem x_4_17 : Ev d 4 17 L st μ Q = Ev d 4 18 L (.int (iI 1) :: st) μ Q := e_iconst (by decide +kernel : decode (bOf 4) 17 = .ok (.iconst 1, 1))
theorem x_4_18 : Ev d 4 18 L st μ Q = Ev d 4 22 L st μ Q := e_goto (by decide +kernel : decode (bOf 4) 18 = .ok (.goto 4, 3)) (by omega)
theorem x_4_21 : Ev d 4 21 L st μ Q = Ev d 4 22 L (.int (iI (-1)) :: st) μ Q := e_iconst (by decide +kernel : decode (bOf 4) 21 = .ok (.iconst (-1), 1))
theorem x_4_22 : Ev d 4 22 L [.int x] μ Q = Q (some (.int x)) μ := e_iret (by decide +kernel : decode (bOf 4) 22 = .ok (.ireturn, 1)) (by decide +kernel)
theorem c_5 : Call (d + 1) 5 [.ref r0] μ Q = Ev d 5 0 [.ref r0, .null] [] μ Q := call_ev rfl rfl
theorem x_5_0 : Ev d 5 0 (.ref r :: L) st μ Q = Ev d 5 1 (.ref r :: L) (.ref r :: st) μ Q := e_aload_n (by decide +kernel : decode (bOf 5) 0 = .ok (.aload_n 0, 1)) rfl
theorem x_5_1 : Ev d 5 1 L [.ref r] μ Q = Ev d 5 4 L [] μ Q := e_obj (by decide +kernel : decode (bOf 5) 1 = .ok (.invokespecial 3, 3)) (by decide +kernel) (by decide +kernel) (by simp)
theorem x_5_4 : Ev d 5 4 (.ref r :: L) st μ Q = Ev d 5 5 (.ref r :: L) (.ref r :: st) μ Q := e_aload_n (by decide +kernel : decode (bOf 5) 4 = .ok (.aload_n 0, 1)) rfl
theorem x_5_5 : Ev d 5 5 L st μ Q = Ev d 5 7 L (.int (iI 7) :: st) μ Q := e_bipush (by decide +kernel : decode (bOf 5) 5 = .ok (.bipush 7, 2)) (by decide +kernel)
theorem x_5_7 : Ev d 5 7 L (.int (iI 7) :: st) ((N, S, K), V, A, P) Q = Ev d 5 10 L (.ref N :: st) ((N + 1, S + 7, up1 K N (8, 7)), V, A, up1 P N (fun _ => none)) Q := e_newq 7 (by decide +kernel : decode (bOf 5) 7 = .ok (.anewarray 9, 3)) (by decide +kernel) (by decide +kernel) (by decide +kernel)
theorem x_5_10 (h : kd t r = 0) : Ev d 5 10 L (.ref q :: .ref r :: st) (t, V, A, P) Q = Ev d 5 13 L st (t, up1 V r (up1 (V r) 0 (.ref q)), A, P) Q := e_putf (by decide +kernel : decode (bOf 5) 10 = .ok (.putfield 11, 3)) (by decide +kernel) (by decide +kernel) rfl h
theorem x_5_13 : Ev d 5 13 (.ref r :: L) st μ Q = Ev d 5 14 (.ref r :: L) (.ref r :: st) μ Q := e_aload_n (by decide +kernel : decode (bOf 5) 13 = .ok (.aload_n 0, 1)) rfl
theorem x_5_14 : Ev d 5 14 L st μ Q = Ev d 5 16 L (.int (iI 6) :: st) μ Q := e_bipush (by decide +kernel : decode (bOf 5) 14 = .ok (.bipush 6, 2)) (by decide +kernel)
theorem x_5_16 : Ev d 5 16 L (.int (iI 6) :: st) ((N, S, K), V, A, P) Q = Ev d 5 18 L (.ref N :: st) ((N + 1, S + 6, up1 K N (6, 6)), V, up1 A N (fun _ => 0), P) Q := e_newi 6 (by decide +kernel : decode (bOf 5) 16 = .ok (.newarray .int, 2)) (by decide +kernel) (by decide +kernel)
theorem x_5_18 (h : kd t r = 0) : Ev d 5 18 L (.ref q :: .ref r :: st) (t, V, A, P) Q = Ev d 5 21 L st (t, up1 V r (up1 (V r) 1 (.ref q)), A, P) Q := e_putf (by decide +kernel : decode (bOf 5) 18 = .ok (.putfield 17, 3)) (by decide +kernel) (by decide +kernel) rfl h
theorem x_5_21 : Ev d 5 21 (.ref r :: L) st μ Q = Ev d 5 22 (.ref r :: L) (.ref r :: st) μ Q := e_aload_n (by decide +kernel : decode (bOf 5) 21 = .ok (.aload_n 0, 1)) rfl
theorem x_5_22 : Ev d 5 22 L st μ Q = Ev d 5 24 L (.int (iI 6) :: st) μ Q := e_bipush (by decide +kernel : decode (bOf 5) 22 = .ok (.bipush 6, 2)) (by decide +kernel)
theorem x_5_24 : Ev d 5 24 L (.int (iI 6) :: st) ((N, S, K), V, A, P) Q = Ev d 5 26 L (.ref N :: st) ((N + 1, S + 6, up1 K N (6, 6)), V, up1 A N (fun _ => 0), P) Q := e_newi 6 (by decide +kernel : decode (bOf 5) 24 = .ok (.newarray .int, 2)) (by decide +kernel) (by decide +kernel)
theorem x_5_26 (h : kd t r = 0) : Ev d 5 26 L (.ref q :: .ref r :: st) (t, V, A, P) Q = Ev d 5 29 L st (t, up1 V r (up1 (V r) 2 (.ref q)), A, P) Q := e_putf (by decide +kernel : decode (bOf 5) 26 = .ok (.putfield 21, 3)) (by decide +kernel) (by decide +kernel) rfl h
theorem x_5_29 : Ev d 5 29 (.ref r :: L) st μ Q = Ev d 5 30 (.ref r :: L) (.ref r :: st) μ Q := e_aload_n (by decide +kernel : decode (bOf 5) 29 = .ok (.aload_n 0, 1)) rfl
theorem x_5_30 : Ev d 5 30 L st μ Q = Ev d 5 32 L (.int (iI 6) :: st) μ Q := e_bipush (by decide +kernel : decode (bOf 5) 30 = .ok (.bipush 6, 2)) (by decide +kernel)
theorem x_5_32 : Ev d 5 32 L (.int (iI 6) :: st) ((N, S, K), V, A, P) Q = Ev d 5 34 L (.ref N :: st) ((N + 1, S + 6, up1 K N (6, 6)), V, up1 A N (fun _ => 0), P) Q := e_newi 6 (by decide +kernel : decode (bOf 5) 32 = .ok (.newarray .int, 2)) (by decide +kernel) (by decide +kernel)
theorem x_5_34 (h : kd t r = 0) : Ev d 5 34 L (.ref q :: .ref r :: st) (t, V, A, P) Q = Ev d 5 37 L st (t, up1 V r (up1 (V r) 3 (.ref q)), A, P) Q := e_putf (by decide +kernel : decode (bOf 5) 34 = .ok (.putfield 24, 3)) (by decide +kernel) (by decide +kernel) rfl h
theorem x_5_37 : Ev d 5 37 (.ref r :: L) st μ Q = Ev d 5 38 (.ref r :: L) (.ref r :: st) μ Q := e_aload_n (by decide +kernel : decode (bOf 5) 37 = .ok (.aload_n 0, 1)) rfl
theorem x_5_38 : Ev d 5 38 L st μ Q = Ev d 5 39 L (.int (iI 0) :: st) μ Q := e_iconst (by decide +kernel : decode (bOf 5) 38 = .ok (.iconst 0, 1))
theorem x_5_39 (h : kd t r = 0) : Ev d 5 39 L (.int x :: .ref r :: st) (t, V, A, P) Q = Ev d 5 42 L st (t, up1 V r (up1 (V r) 4 (.int x)), A, P) Q := e_putf (by decide +kernel : decode (bOf 5) 39 = .ok (.putfield 27, 3)) (by decide +kernel) (by decide +kernel) rfl h
theorem x_5_42 : Ev d 5 42 (.ref r :: L) st μ Q = Ev d 5 43 (.ref r :: L) (.ref r :: st) μ Q := e_aload_n (by decide +kernel : decode (bOf 5) 42 = .ok (.aload_n 0, 1)) rfl
theorem x_5_43 : Ev d 5 43 L st μ Q = Ev d 5 44 L (.int (iI 0) :: st) μ Q := e_iconst (by decide +kernel : decode (bOf 5) 43 = .ok (.iconst 0, 1))
theorem x_5_44 (h : kd t r = 0) : Ev d 5 44 L (.int x :: .ref r :: st) (t, V, A, P) Q = Ev d 5 47 L st (t, up1 V r (up1 (V r) 5 (.int x)), A, P) Q := e_putf (by decide +kernel : decode (bOf 5) 44 = .ok (.putfield 31, 3)) (by decide +kernel) (by decide +kernel) rfl h
theorem x_5_47 : Ev d 5 47 L st μ Q = Ev d 5 48 L (.int (iI 0) :: st) μ Q := e_iconst (by decide +kernel : decode (bOf 5) 47 = .ok (.iconst 0, 1))
theorem x_5_48 (h : a0.category = 1) : Ev d 5 48 (a0 :: a1 :: L) (.int x :: st) μ Q = Ev d 5 49 (a0 :: .int x :: L) st μ Q := e_istore_n (by decide +kernel : decode (bOf 5) 48 = .ok (.istore_n 1, 1)) (by show stOK _ 1 = true; simp [stOK, h])
theorem x_5_49 : Ev d 5 49 (a0 :: .int x :: L) st μ Q = Ev d 5 50 (a0 :: .int x :: L) (.int x :: st) μ Q := e_iload_n (by decide +kernel : decode (bOf 5) 49 = .ok (.iload_n 1, 1)) rfl
theorem x_5_50 : Ev d 5 50 L st μ Q = Ev d 5 52 L (.int (iI 6) :: st) μ Q := e_bipush (by decide +kernel : decode (bOf 5) 50 = .ok (.bipush 6, 2)) (by decide +kernel)
theorem x_5_52 : Ev d 5 52 L (.int y :: .int x :: st) μ Q = if y < x then Ev d 5 74 L st μ Q else Ev d 5 55 L st μ Q := e_icmp_gt (by decide +kernel : decode (bOf 5) 52 = .ok (.if_icmp .gt 22, 3)) (by omega)
theorem x_5_55 : Ev d 5 55 (.ref r :: L) st μ Q = Ev d 5 56 (.ref r :: L) (.ref r :: st) μ Q := e_aload_n (by decide +kernel : decode (bOf 5) 55 = .ok (.aload_n 0, 1)) rfl
theorem x_5_56 (h : kd t r = 0) : Ev d 5 56 L (.ref r :: st) (t, V, A, P) Q = Ev d 5 59 L (V r 0 :: st) (t, V, A, P) Q := e_getf (by decide +kernel : decode (bOf 5) 56 = .ok (.getfield 11, 3)) (by decide +kernel) (by decide +kernel) h
theorem x_5_59 : Ev d 5 59 (a0 :: .int x :: L) st μ Q = Ev d 5 60 (a0 :: .int x :: L) (.int x :: st) μ Q := e_iload_n (by decide +kernel : decode (bOf 5) 59 = .ok (.iload_n 1, 1)) rfl
theorem x_5_60 : Ev d 5 60 L st ((N, S, K), V, A, P) Q = Ev d 5 63 L (.ref N :: st) ((N + 1, S + 5, up1 K N (2, 5)), up1 V N (rw' [.int 0, .int 0, .int 0, .int 0, .int 0]), A, P) Q := e_new 5 [.int 0, .int 0, .int 0, .int 0, .int 0] (by decide +kernel : decode (bOf 5) 60 = .ok (.new 9, 3)) (by decide +kernel) (by decide +kernel) (by decide +kernel) (by decide +kernel)
theorem x_5_63 : Ev d 5 63 L (.ref r :: st) μ Q = Ev d 5 64 L (.ref r :: .ref r :: st) μ Q := e_dup_a (by decide +kernel : decode (bOf 5) 63 = .ok (.dup, 1))
theorem x_5_64 : Ev d 5 64 L [.ref r, s0, s1, s2] μ Q = Call d 21 [.ref r] μ (fun v μ1 => Ev d 5 67 L (v.toList ++ [s0, s1, s2]) μ1 Q) := e_callI (a := []) (r := [s0, s1, s2]) (by decide +kernel : decode (bOf 5) 64 = .ok (.invokespecial 34, 3)) (by decide +kernel) (by decide +kernel) (by decide +kernel) (by decide +kernel) (by omega) rfl (by simp)
theorem x_5_67 (h : kd t r = 8) (hv : kd t q = 2) (hi : inB x (ln t r) = true) : Ev d 5 67 L (.ref q :: .int x :: .ref r :: st) (t, V, A, P) Q = Ev d 5 68 L st (t, V, A, up1 P r (up1 (P r) x.toNatClampNeg (some q))) Q := e_aast8 (by decide +kernel : decode (bOf 5) 67 = .ok (.aastore, 1)) h hv hi
theorem x_5_68 (h : a0.category = 1) : Ev d 5 68 (a0 :: .int x :: L) st μ Q = Ev d 5 71 (a0 :: .int (x + (iI 1)) :: L) st μ Q := e_iinc (by decide +kernel : decode (bOf 5) 68 = .ok (.iinc 1 1, 3)) rfl (by simp [stOK, h])
theorem x_5_71 : Ev d 5 71 L st μ Q = Ev d 5 49 L st μ Q := e_goto (by decide +kernel : decode (bOf 5) 71 = .ok (.goto (-22), 3)) (by omega)
theorem x_5_74 : Ev d 5 74 L [] μ Q = Q none μ := e_ret (by decide +kernel : decode (bOf 5) 74 = .ok (.return_, 1)) (by decide +kernel)
theorem c_6 : Call (d + 1) 6 [.ref r0, .ref r1, .int i2] μ Q = Ev d 6 0 [.ref r0, .ref r1, .int i2, .null, .null] [] μ Q := call_ev rfl rfl
theorem x_6_0 : Ev d 6 0 (a0 :: a1 :: .int x :: L) st μ Q = Ev d 6 1 (a0 :: a1 :: .int x :: L) (.int x :: st) μ Q := e_iload_n (by decide +kernel : decode (bOf 6) 0 = .ok (.iload_n 2, 1)) rfl
theorem x_6_1 : Ev d 6 1 L st μ Q = Ev d 6 2 L (.int (iI 1) :: st) μ Q := e_iconst (by decide +kernel : decode (bOf 6) 1 = .ok (.iconst 1, 1))
theorem x_6_2 : Ev d 6 2 L (.int y :: .int x :: st) μ Q = if x < y then Ev d 6 19 L st μ Q else Ev d 6 5 L st μ Q := e_icmp_lt (by decide +kernel : decode (bOf 6) 2 = .ok (.if_icmp .lt 17, 3)) (by omega)
theorem x_6_5 : Ev d 6 5 (a0 :: a1 :: .int x :: L) st μ Q = Ev d 6 6 (a0 :: a1 :: .int x :: L) (.int x :: st) μ Q := e_iload_n (by decide +kernel : decode (bOf 6) 5 = .ok (.iload_n 2, 1)) rfl
theorem x_6_6 : Ev d 6 6 L st μ Q = Ev d 6 8 L (.int (iI 6) :: st) μ Q := e_bipush (by decide +kernel : decode (bOf 6) 6 = .ok (.bipush 6, 2)) (by decide +kernel)
theorem x_6_8 : Ev d 6 8 L (.int y :: .int x :: st) μ Q = if y < x then Ev d 6 19 L st μ Q else Ev d 6 11 L st μ Q := e_icmp_gt (by decide +kernel : decode (bOf 6) 8 = .ok (.if_icmp .gt 11, 3)) (by omega)
theorem x_6_11 : Ev d 6 11 (a0 :: a1 :: .int x :: L) st μ Q = Ev d 6 12 (a0 :: a1 :: .int x :: L) (.int x :: st) μ Q := e_iload_n (by decide +kernel : decode (bOf 6) 11 = .ok (.iload_n 2, 1)) rfl
theorem x_6_12 : Ev d 6 12 (a0 :: .ref r :: L) st μ Q = Ev d 6 13 (a0 :: .ref r :: L) (.ref r :: st) μ Q := e_aload_n (by decide +kernel : decode (bOf 6) 12 = .ok (.aload_n 1, 1)) rfl
theorem x_6_13 (h : kd t r = 3) : Ev d 6 13 L (.ref r :: st) (t, V, A, P) Q = Ev d 6 16 L (V r 3 :: st) (t, V, A, P) Q := e_getf (by decide +kernel : decode (bOf 6) 13 = .ok (.getfield 35, 3)) (by decide +kernel) (by decide +kernel) h
theorem x_6_16 : Ev d 6 16 L (.int y :: .int x :: st) μ Q = if y < x then Ev d 6 19 L st μ Q else Ev d 6 20 L st μ Q := e_icmp_le (by decide +kernel : decode (bOf 6) 16 = .ok (.if_icmp .le 4, 3)) (by omega)
theorem x_6_19 : Ev d 6 19 L [] μ Q = Q none μ := e_ret (by decide +kernel : decode (bOf 6) 19 = .ok (.return_, 1)) (by decide +kernel)
theorem x_6_20 : Ev d 6 20 (a0 :: .ref r :: L) st μ Q = Ev d 6 21 (a0 :: .ref r :: L) (.ref r :: st) μ Q := e_aload_n (by decide +kernel : decode (bOf 6) 20 = .ok (.aload_n 1, 1)) rfl
theorem x_6_21 (h : kd t r = 3) : Ev d 6 21 L (.ref r :: st) (t, V, A, P) Q = Ev d 6 24 L (V r 3 :: st) (t, V, A, P) Q := e_getf (by decide +kernel : decode (bOf 6) 21 = .ok (.getfield 35, 3)) (by decide +kernel) (by decide +kernel) h
theorem x_6_24 : Ev d 6 24 (a0 :: a1 :: .int x :: L) st μ Q = Ev d 6 25 (a0 :: a1 :: .int x :: L) (.int x :: st) μ Q := e_iload_n (by decide +kernel : decode (bOf 6) 24 = .ok (.iload_n 2, 1)) rfl
theorem x_6_25 : Ev d 6 25 L (.int y :: .int x :: st) μ Q = Ev d 6 26 L (.int (x - y) :: st) μ Q := e_isub (by decide +kernel : decode (bOf 6) 25 = .ok (.isub, 1))
theorem x_6_26 (h : a2.category = 1) : Ev d 6 26 (a0 :: a1 :: a2 :: a3 :: L) (.int x :: st) μ Q = Ev d 6 27 (a0 :: a1 :: a2 :: .int x :: L) st μ Q := e_istore_n (by decide +kernel : decode (bOf 6) 26 = .ok (.istore_n 3, 1)) (by show stOK _ 3 = true; simp [stOK, h])
theorem x_6_27 : Ev d 6 27 (.ref r :: L) st μ Q = Ev d 6 28 (.ref r :: L) (.ref r :: st) μ Q := e_aload_n (by decide +kernel : decode (bOf 6) 27 = .ok (.aload_n 0, 1)) rfl
theorem x_6_28 : Ev d 6 28 (a0 :: a1 :: .int x :: L) st μ Q = Ev d 6 29 (a0 :: a1 :: .int x :: L) (.int x :: st) μ Q := e_iload_n (by decide +kernel : decode (bOf 6) 28 = .ok (.iload_n 2, 1)) rfl
theorem x_6_29 (h : kd t r = 0) : Ev d 6 29 L (.int x :: .ref r :: st) (t, V, A, P) Q = Ev d 6 32 L st (t, up1 V r (up1 (V r) 4 (.int x)), A, P) Q := e_putf (by decide +kernel : decode (bOf 6) 29 = .ok (.putfield 27, 3)) (by decide +kernel) (by decide +kernel) rfl h
theorem x_6_32 : Ev d 6 32 (.ref r :: L) st μ Q = Ev d 6 33 (.ref r :: L) (.ref r :: st) μ Q := e_aload_n (by decide +kernel : decode (bOf 6) 32 = .ok (.aload_n 0, 1)) rfl
theorem x_6_33 : Ev d 6 33 L st μ Q = Ev d 6 36 L (.int (iI 1000) :: st) μ Q := e_sipush (by decide +kernel : decode (bOf 6) 33 = .ok (.sipush 1000, 3)) (by decide +kernel)
theorem x_6_36 (h : kd t r = 0) : Ev d 6 36 L (.int x :: .ref r :: st) (t, V, A, P) Q = Ev d 6 39 L st (t, up1 V r (up1 (V r) 5 (.int x)), A, P) Q := e_putf (by decide +kernel : decode (bOf 6) 36 = .ok (.putfield 31, 3)) (by decide +kernel) (by decide +kernel) rfl h
theorem x_6_39 : Ev d 6 39 (.ref r :: L) st μ Q = Ev d 6 40 (.ref r :: L) (.ref r :: st) μ Q := e_aload_n (by decide +kernel : decode (bOf 6) 39 = .ok (.aload_n 0, 1)) rfl
theorem x_6_40 : Ev d 6 40 (a0 :: .ref r :: L) st μ Q = Ev d 6 41 (a0 :: .ref r :: L) (.ref r :: st) μ Q := e_aload_n (by decide +kernel : decode (bOf 6) 40 = .ok (.aload_n 1, 1)) rfl
theorem x_6_41 : Ev d 6 41 (a0 :: a1 :: a2 :: .int x :: L) st μ Q = Ev d 6 42 (a0 :: a1 :: a2 :: .int x :: L) (.int x :: st) μ Q := e_iload_n (by decide +kernel : decode (bOf 6) 41 = .ok (.iload_n 3, 1)) rfl
theorem x_6_42 (h : kd t r = 0) : Ev d 6 42 L [b1, b0, .ref r] (t, V, A, P) Q = Call d 7 [.ref r, b0, b1] (t, V, A, P) (fun v μ1 => Ev d 6 45 L (v.toList ++ []) μ1 Q) := e_callV (a := [b0, b1]) (r := []) (by decide +kernel : decode (bOf 6) 42 = .ok (.invokevirtual 40, 3)) (by decide +kernel) (by decide +kernel) (by decide +kernel) (by omega) rfl (by simp) (by decide +kernel) h
theorem x_6_45 : Ev d 6 45 L st μ Q = Ev d 6 46 L (.int (iI 0) :: st) μ Q := e_iconst (by decide +kernel : decode (bOf 6) 45 = .ok (.iconst 0, 1))
theorem x_6_46 (h : a3.category = 1) : Ev d 6 46 (a0 :: a1 :: a2 :: a3 :: a4 :: L) (.int x :: st) μ Q = Ev d 6 48 (a0 :: a1 :: a2 :: a3 :: .int x :: L) st μ Q := e_istore (by decide +kernel : decode (bOf 6) 46 = .ok (.istore 4, 2)) (by show stOK _ 4 = true; simp [stOK, h])
theorem x_6_48 : Ev d 6 48 (a0 :: a1 :: a2 :: a3 :: .int x :: L) st μ Q = Ev d 6 50 (a0 :: a1 :: a2 :: a3 :: .int x :: L) (.int x :: st) μ Q := e_iload (by decide +kernel : decode (bOf 6) 48 = .ok (.iload 4, 2)) rfl
theorem x_6_50 : Ev d 6 50 (a0 :: a1 :: .int x :: L) st μ Q = Ev d 6 51 (a0 :: a1 :: .int x :: L) (.int x :: st) μ Q := e_iload_n (by decide +kernel : decode (bOf 6) 50 = .ok (.iload_n 2, 1)) rfl
theorem x_6_51 : Ev d 6 51 L (.int y :: .int x :: st) μ Q = if x < y then Ev d 6 54 L st μ Q else Ev d 6 85 L st μ Q := e_icmp_ge (by decide +kernel : decode (bOf 6) 51 = .ok (.if_icmp .ge 34, 3)) (by omega)
theorem x_6_54 : Ev d 6 54 (a0 :: a1 :: a2 :: .int x :: L) st μ Q = Ev d 6 55 (a0 :: a1 :: a2 :: .int x :: L) (.int x :: st) μ Q := e_iload_n (by decide +kernel : decode (bOf 6) 54 = .ok (.iload_n 3, 1)) rfl
theorem x_6_55 : Ev d 6 55 (a0 :: a1 :: a2 :: a3 :: .int x :: L) st μ Q = Ev d 6 57 (a0 :: a1 :: a2 :: a3 :: .int x :: L) (.int x :: st) μ Q := e_iload (by decide +kernel : decode (bOf 6) 55 = .ok (.iload 4, 2)) rfl
theorem x_6_57 : Ev d 6 57 L (.int y :: .int x :: st) μ Q = Ev d 6 58 L (.int (x + y) :: st) μ Q := e_iadd (by decide +kernel : decode (bOf 6) 57 = .ok (.iadd, 1))
theorem x_6_58 : Ev d 6 58 L st μ Q = Ev d 6 60 L (.int (iI 32) :: st) μ Q := e_bipush (by decide +kernel : decode (bOf 6) 58 = .ok (.bipush 32, 2)) (by decide +kernel)
theorem x_6_60 : Ev d 6 60 L (.int y :: .int x :: st) μ Q = if x < y then Ev d 6 63 L st μ Q else Ev d 6 85 L st μ Q := e_icmp_ge (by decide +kernel : decode (bOf 6) 60 = .ok (.if_icmp .ge 25, 3)) (by omega)
theorem x_6_63 : Ev d 6 63 (.ref r :: L) st μ Q = Ev d 6 64 (.ref r :: L) (.ref r :: st) μ Q := e_aload_n (by decide +kernel : decode (bOf 6) 63 = .ok (.aload_n 0, 1)) rfl
theorem x_6_64 (h : kd t r = 0) : Ev d 6 64 L (.ref r :: st) (t, V, A, P) Q = Ev d 6 67 L (V r 1 :: st) (t, V, A, P) Q := e_getf (by decide +kernel : decode (bOf 6) 64 = .ok (.getfield 17, 3)) (by decide +kernel) (by decide +kernel) h
theorem x_6_67 : Ev d 6 67 (a0 :: a1 :: a2 :: a3 :: .int x :: L) st μ Q = Ev d 6 69 (a0 :: a1 :: a2 :: a3 :: .int x :: L) (.int x :: st) μ Q := e_iload (by decide +kernel : decode (bOf 6) 67 = .ok (.iload 4, 2)) rfl
theorem x_6_69 : Ev d 6 69 (a0 :: .ref r :: L) st μ Q = Ev d 6 70 (a0 :: .ref r :: L) (.ref r :: st) μ Q := e_aload_n (by decide +kernel : decode (bOf 6) 69 = .ok (.aload_n 1, 1)) rfl
theorem x_6_70 (h : kd t r = 3) : Ev d 6 70 L (.ref r :: st) (t, V, A, P) Q = Ev d 6 73 L (V r 0 :: st) (t, V, A, P) Q := e_getf (by decide +kernel : decode (bOf 6) 70 = .ok (.getfield 44, 3)) (by decide +kernel) (by decide +kernel) h
theorem x_6_73 : Ev d 6 73 (a0 :: a1 :: a2 :: .int x :: L) st μ Q = Ev d 6 74 (a0 :: a1 :: a2 :: .int x :: L) (.int x :: st) μ Q := e_iload_n (by decide +kernel : decode (bOf 6) 73 = .ok (.iload_n 3, 1)) rfl
theorem x_6_74 : Ev d 6 74 (a0 :: a1 :: a2 :: a3 :: .int x :: L) st μ Q = Ev d 6 76 (a0 :: a1 :: a2 :: a3 :: .int x :: L) (.int x :: st) μ Q := e_iload (by decide +kernel : decode (bOf 6) 74 = .ok (.iload 4, 2)) rfl
theorem x_6_76 : Ev d 6 76 L (.int y :: .int x :: st) μ Q = Ev d 6 77 L (.int (x + y) :: st) μ Q := e_iadd (by decide +kernel : decode (bOf 6) 76 = .ok (.iadd, 1))
theorem x_6_77 (h : kd t r = 6) (hi : inB x (ln t r) = true) : Ev d 6 77 L (.int x :: .ref r :: st) (t, V, A, P) Q = Ev d 6 78 L (.int (A r x.toNatClampNeg) :: st) (t, V, A, P) Q := e_iald (by decide +kernel : decode (bOf 6) 77 = .ok (.iaload, 1)) h hi
theorem x_6_78 (h : kd t r = 6) (hi : inB x (ln t r) = true) : Ev d 6 78 L (.int y :: .int x :: .ref r :: st) (t, V, A, P) Q = Ev d 6 79 L st (t, V, up1 A r (upd (A r) x.toNatClampNeg y), P) Q := e_iast (by decide +kernel : decode (bOf 6) 78 = .ok (.iastore, 1)) h hi
theorem x_6_79 (h : a3.category = 1) : Ev d 6 79 (a0 :: a1 :: a2 :: a3 :: .int x :: L) st μ Q = Ev d 6 82 (a0 :: a1 :: a2 :: a3 :: .int (x + (iI 1)) :: L) st μ Q := e_iinc (by decide +kernel : decode (bOf 6) 79 = .ok (.iinc 4 1, 3)) rfl (by simp [stOK, h])
theorem x_6_82 : Ev d 6 82 L st μ Q = Ev d 6 48 L st μ Q := e_goto (by decide +kernel : decode (bOf 6) 82 = .ok (.goto (-34), 3)) (by omega)
theorem x_6_85 : Ev d 6 85 (.ref r :: L) st μ Q = Ev d 6 86 (.ref r :: L) (.ref r :: st) μ Q := e_aload_n (by decide +kernel : decode (bOf 6) 85 = .ok (.aload_n 0, 1)) rfl
theorem x_6_86 : Ev d 6 86 L st μ Q = Ev d 6 87 L (.int (iI 0) :: st) μ Q := e_iconst (by decide +kernel : decode (bOf 6) 86 = .ok (.iconst 0, 1))
theorem x_6_87 : Ev d 6 87 L st μ Q = Ev d 6 88 L (.int (iI 0) :: st) μ Q := e_iconst (by decide +kernel : decode (bOf 6) 87 = .ok (.iconst 0, 1))
theorem x_6_88 : Ev d 6 88 L [b2, b1, b0] μ Q = Call d 9 [b0, b1, b2] μ (fun v μ1 => Ev d 6 91 L (v.toList ++ []) μ1 Q) := e_callS (a := [b0, b1, b2]) (r := []) (by decide +kernel : decode (bOf 6) 88 = .ok (.invokestatic 45, 3)) (by decide +kernel) (by decide +kernel) (by omega) rfl (by simp)
theorem x_6_91 : Ev d 6 91 L [] μ Q = Q none μ := e_ret (by decide +kernel : decode (bOf 6) 91 = .ok (.return_, 1)) (by decide +kernel)
theorem c_7 : Call (d + 1) 7 [.ref r0, .ref r1, .int i2] μ Q = Ev d 7 0 [.ref r0, .ref r1, .int i2, .null, .null] [] μ Q := call_ev rfl rfl
theorem x_7_0 : Ev d 7 0 (.ref r :: L) st μ Q = Ev d 7 1 (.ref r :: L) (.ref r :: st) μ Q := e_aload_n (by decide +kernel : decode (bOf 7) 0 = .ok (.aload_n 0, 1)) rfl
theorem x_7_1 (h : kd t r = 0) : Ev d 7 1 L (.ref r :: st) (t, V, A, P) Q = Ev d 7 4 L (V r 0 :: st) (t, V, A, P) Q := e_getf (by decide +kernel : decode (bOf 7) 1 = .ok (.getfield 11, 3)) (by decide +kernel) (by decide +kernel) h
theorem x_7_4 : Ev d 7 4 L st μ Q = Ev d 7 5 L (.int (iI 0) :: st) μ Q := e_iconst (by decide +kernel : decode (bOf 7) 4 = .ok (.iconst 0, 1))
theorem x_7_5 (h : kd t r = 8) (hi : inB x (ln t r) = true) : Ev d 7 5 L (.int x :: .ref r :: st) (t, V, A, P) Q = Ev d 7 6 L (va_rf (P r x.toNatClampNeg) :: st) (t, V, A, P) Q := e_aald 8 (by omega) (by decide +kernel : decode (bOf 7) 5 = .ok (.aaload, 1)) h hi
theorem x_7_6 (h : a2.category = 1) : Ev d 7 6 (a0 :: a1 :: a2 :: a3 :: L) (.ref r :: st) μ Q = Ev d 7 7 (a0 :: a1 :: a2 :: .ref r :: L) st μ Q := e_astore_n (by decide +kernel : decode (bOf 7) 6 = .ok (.astore_n 3, 1)) (by show stOK _ 3 = true; simp [stOK, h])
theorem x_7_7 : Ev d 7 7 (a0 :: a1 :: a2 :: .ref r :: L) st μ Q = Ev d 7 8 (a0 :: a1 :: a2 :: .ref r :: L) (.ref r :: st) μ Q := e_aload_n (by decide +kernel : decode (bOf 7) 7 = .ok (.aload_n 3, 1)) rfl
theorem x_7_8 : Ev d 7 8 L (.ref r :: st) μ Q = Ev d 7 12 L st μ Q := e_ifnonnull (by decide +kernel : decode (bOf 7) 8 = .ok (.ifnonnull 4, 3)) (by omega)
theorem x_7_11 : Ev d 7 11 L [] μ Q = Q none μ := e_ret (by decide +kernel : decode (bOf 7) 11 = .ok (.return_, 1)) (by decide +kernel)
theorem x_7_12 : Ev d 7 12 (a0 :: a1 :: a2 :: .ref r :: L) st μ Q = Ev d 7 13 (a0 :: a1 :: a2 :: .ref r :: L) (.ref r :: st) μ Q := e_aload_n (by decide +kernel : decode (bOf 7) 12 = .ok (.aload_n 3, 1)) rfl
theorem x_7_13 : Ev d 7 13 L st μ Q = Ev d 7 14 L (.int (iI (-1)) :: st) μ Q := e_iconst (by decide +kernel : decode (bOf 7) 13 = .ok (.iconst (-1), 1))
theorem x_7_14 (h : kd t r = 2) : Ev d 7 14 L [b0, .ref r] (t, V, A, P) Q = Call d 22 [.ref r, b0] (t, V, A, P) (fun v μ1 => Ev d 7 17 L (v.toList ++ []) μ1 Q) := e_callV (a := [b0]) (r := []) (by decide +kernel : decode (bOf 7) 14 = .ok (.invokevirtual 49, 3)) (by decide +kernel) (by decide +kernel) (by decide +kernel) (by omega) rfl (by simp) (by decide +kernel) h
theorem x_7_17 : Ev d 7 17 L st μ Q = Ev d 7 18 L (.int (iI 0) :: st) μ Q := e_iconst (by decide +kernel : decode (bOf 7) 17 = .ok (.iconst 0, 1))
theorem x_7_18 (h : a3.category = 1) : Ev d 7 18 (a0 :: a1 :: a2 :: a3 :: a4 :: L) (.int x :: st) μ Q = Ev d 7 20 (a0 :: a1 :: a2 :: a3 :: .int x :: L) st μ Q := e_istore (by decide +kernel : decode (bOf 7) 18 = .ok (.istore 4, 2)) (by show stOK _ 4 = true; simp [stOK, h])
theorem x_7_20 : Ev d 7 20 (a0 :: a1 :: a2 :: a3 :: .int x :: L) st μ Q = Ev d 7 22 (a0 :: a1 :: a2 :: a3 :: .int x :: L) (.int x :: st) μ Q := e_iload (by decide +kernel : decode (bOf 7) 20 = .ok (.iload 4, 2)) rfl
theorem x_7_22 : Ev d 7 22 (a0 :: a1 :: .int x :: L) st μ Q = Ev d 7 23 (a0 :: a1 :: .int x :: L) (.int x :: st) μ Q := e_iload_n (by decide +kernel : decode (bOf 7) 22 = .ok (.iload_n 2, 1)) rfl
theorem x_7_23 : Ev d 7 23 L (.int y :: .int x :: st) μ Q = if x < y then Ev d 7 26 L st μ Q else Ev d 7 51 L st μ Q := e_icmp_ge (by decide +kernel : decode (bOf 7) 23 = .ok (.if_icmp .ge 28, 3)) (by omega)
theorem x_7_26 : Ev d 7 26 (a0 :: a1 :: a2 :: a3 :: .int x :: L) st μ Q = Ev d 7 28 (a0 :: a1 :: a2 :: a3 :: .int x :: L) (.int x :: st) μ Q := e_iload (by decide +kernel : decode (bOf 7) 26 = .ok (.iload 4, 2)) rfl
theorem x_7_28 : Ev d 7 28 L st μ Q = Ev d 7 30 L (.int (iI 32) :: st) μ Q := e_bipush (by decide +kernel : decode (bOf 7) 28 = .ok (.bipush 32, 2)) (by decide +kernel)
theorem x_7_30 : Ev d 7 30 L (.int y :: .int x :: st) μ Q = if x < y then Ev d 7 33 L st μ Q else Ev d 7 51 L st μ Q := e_icmp_ge (by decide +kernel : decode (bOf 7) 30 = .ok (.if_icmp .ge 21, 3)) (by omega)
theorem x_7_33 : Ev d 7 33 (a0 :: a1 :: a2 :: .ref r :: L) st μ Q = Ev d 7 34 (a0 :: a1 :: a2 :: .ref r :: L) (.ref r :: st) μ Q := e_aload_n (by decide +kernel : decode (bOf 7) 33 = .ok (.aload_n 3, 1)) rfl
theorem x_7_34 : Ev d 7 34 (a0 :: .ref r :: L) st μ Q = Ev d 7 35 (a0 :: .ref r :: L) (.ref r :: st) μ Q := e_aload_n (by decide +kernel : decode (bOf 7) 34 = .ok (.aload_n 1, 1)) rfl
theorem x_7_35 (h : kd t r = 3) : Ev d 7 35 L (.ref r :: st) (t, V, A, P) Q = Ev d 7 38 L (V r 1 :: st) (t, V, A, P) Q := e_getf (by decide +kernel : decode (bOf 7) 35 = .ok (.getfield 53, 3)) (by decide +kernel) (by decide +kernel) h
theorem x_7_38 : Ev d 7 38 (a0 :: a1 :: a2 :: a3 :: .int x :: L) st μ Q = Ev d 7 40 (a0 :: a1 :: a2 :: a3 :: .int x :: L) (.int x :: st) μ Q := e_iload (by decide +kernel : decode (bOf 7) 38 = .ok (.iload 4, 2)) rfl
theorem x_7_40 (h : kd t r = 6) (hi : inB x (ln t r) = true) : Ev d 7 40 L (.int x :: .ref r :: st) (t, V, A, P) Q = Ev d 7 41 L (.int (A r x.toNatClampNeg) :: st) (t, V, A, P) Q := e_iald (by decide +kernel : decode (bOf 7) 40 = .ok (.iaload, 1)) h hi
theorem x_7_41 (h : kd t r = 2) : Ev d 7 41 L [b0, .ref r] (t, V, A, P) Q = Call d 25 [.ref r, b0] (t, V, A, P) (fun v μ1 => Ev d 7 44 L (v.toList ++ []) μ1 Q) := e_callV (a := [b0]) (r := []) (by decide +kernel : decode (bOf 7) 41 = .ok (.invokevirtual 56, 3)) (by decide +kernel) (by decide +kernel) (by decide +kernel) (by omega) rfl (by simp) (by decide +kernel) h
theorem x_7_44 : Ev d 7 44 L (.int x :: st) μ Q = Ev d 7 45 L st μ Q := e_pop (by decide +kernel : decode (bOf 7) 44 = .ok (.pop, 1))
theorem x_7_45 (h : a3.category = 1) : Ev d 7 45 (a0 :: a1 :: a2 :: a3 :: .int x :: L) st μ Q = Ev d 7 48 (a0 :: a1 :: a2 :: a3 :: .int (x + (iI 1)) :: L) st μ Q := e_iinc (by decide +kernel : decode (bOf 7) 45 = .ok (.iinc 4 1, 3)) rfl (by simp [stOK, h])
theorem x_7_48 : Ev d 7 48 L st μ Q = Ev d 7 20 L st μ Q := e_goto (by decide +kernel : decode (bOf 7) 48 = .ok (.goto (-28), 3)) (by omega)
theorem x_7_51 : Ev d 7 51 L [] μ Q = Q none μ := e_ret (by decide +kernel : decode (bOf 7) 51 = .ok (.return_, 1)) (by decide +kernel)
theorem c_8 : Call (d + 1) 8 [.ref r0, .int i1] μ Q = Ev d 8 0 [.ref r0, .int i1] [] μ Q := call_ev rfl rfl
theorem x_8_0 : Ev d 8 0 (a0 :: .int x :: L) st μ Q = Ev d 8 1 (a0 :: .int x :: L) (.int x :: st) μ Q := e_iload_n (by decide +kernel : decode (bOf 8) 0 = .ok (.iload_n 1, 1)) rfl
theorem x_8_1 : Ev d 8 1 L (.int x :: st) μ Q = if x < iI 0 then Ev d 8 27 L st μ Q else Ev d 8 4 L st μ Q := e_if_lt (by decide +kernel : decode (bOf 8) 1 = .ok (.ifCond .lt 26, 3)) (by omega)
theorem x_8_4 : Ev d 8 4 (a0 :: .int x :: L) st μ Q = Ev d 8 5 (a0 :: .int x :: L) (.int x :: st) μ Q := e_iload_n (by decide +kernel : decode (bOf 8) 4 = .ok (.iload_n 1, 1)) rfl
theorem x_8_5 : Ev d 8 5 (.ref r :: L) st μ Q = Ev d 8 6 (.ref r :: L) (.ref r :: st) μ Q := e_aload_n (by decide +kernel : decode (bOf 8) 5 = .ok (.aload_n 0, 1)) rfl
theorem x_8_6 (h : kd t r = 0) : Ev d 8 6 L (.ref r :: st) (t, V, A, P) Q = Ev d 8 9 L (V r 4 :: st) (t, V, A, P) Q := e_getf (by decide +kernel : decode (bOf 8) 6 = .ok (.getfield 27, 3)) (by decide +kernel) (by decide +kernel) h
theorem x_8_9 : Ev d 8 9 L (.int y :: .int x :: st) μ Q = if x < y then Ev d 8 12 L st μ Q else Ev d 8 27 L st μ Q := e_icmp_ge (by decide +kernel : decode (bOf 8) 9 = .ok (.if_icmp .ge 18, 3)) (by omega)
theorem x_8_12 : Ev d 8 12 (a0 :: .int x :: L) st μ Q = Ev d 8 13 (a0 :: .int x :: L) (.int x :: st) μ Q := e_iload_n (by decide +kernel : decode (bOf 8) 12 = .ok (.iload_n 1, 1)) rfl
theorem x_8_13 : Ev d 8 13 L st μ Q = Ev d 8 15 L (.int (iI 6) :: st) μ Q := e_bipush (by decide +kernel : decode (bOf 8) 13 = .ok (.bipush 6, 2)) (by decide +kernel)
theorem x_8_15 : Ev d 8 15 L (.int y :: .int x :: st) μ Q = if x < y then Ev d 8 18 L st μ Q else Ev d 8 27 L st μ Q := e_icmp_ge (by decide +kernel : decode (bOf 8) 15 = .ok (.if_icmp .ge 12, 3)) (by omega)
theorem x_8_18 : Ev d 8 18 (.ref r :: L) st μ Q = Ev d 8 19 (.ref r :: L) (.ref r :: st) μ Q := e_aload_n (by decide +kernel : decode (bOf 8) 18 = .ok (.aload_n 0, 1)) rfl
theorem x_8_19 (h : kd t r = 0) : Ev d 8 19 L (.ref r :: st) (t, V, A, P) Q = Ev d 8 22 L (V r 3 :: st) (t, V, A, P) Q := e_getf (by decide +kernel : decode (bOf 8) 19 = .ok (.getfield 24, 3)) (by decide +kernel) (by decide +kernel) h
theorem x_8_22 : Ev d 8 22 (a0 :: .int x :: L) st μ Q = Ev d 8 23 (a0 :: .int x :: L) (.int x :: st) μ Q := e_iload_n (by decide +kernel : decode (bOf 8) 22 = .ok (.iload_n 1, 1)) rfl
theorem x_8_23 (h : kd t r = 6) (hi : inB x (ln t r) = true) : Ev d 8 23 L (.int x :: .ref r :: st) (t, V, A, P) Q = Ev d 8 24 L (.int (A r x.toNatClampNeg) :: st) (t, V, A, P) Q := e_iald (by decide +kernel : decode (bOf 8) 23 = .ok (.iaload, 1)) h hi
theorem x_8_24 : Ev d 8 24 L st μ Q = Ev d 8 29 L st μ Q := e_goto (by decide +kernel : decode (bOf 8) 24 = .ok (.goto 5, 3)) (by omega)
theorem x_8_27 : Ev d 8 27 L st μ Q = Ev d 8 29 L (.int (iI (-9)) :: st) μ Q := e_bipush (by decide +kernel : decode (bOf 8) 27 = .ok (.bipush (-9), 2)) (by decide +kernel)
theorem x_8_29 : Ev d 8 29 L [.int x] μ Q = Q (some (.int x)) μ := e_iret (by decide +kernel : decode (bOf 8) 29 = .ok (.ireturn, 1)) (by decide +kernel)
theorem c_9 : Call (d + 1) 9 [.ref r0, .int i1, .int i2] μ Q = Ev d 9 0 [.ref r0, .int i1, .int i2, .null, .null, .null] [] μ Q := call_ev rfl rfl
theorem x_9_0 : Ev d 9 0 (a0 :: .int x :: L) st μ Q = Ev d 9 1 (a0 :: .int x :: L) (.int x :: st) μ Q := e_iload_n (by decide +kernel : decode (bOf 9) 0 = .ok (.iload_n 1, 1)) rfl
theorem x_9_1 : Ev d 9 1 L (.int x :: st) μ Q = if x < iI 0 then Ev d 9 10 L st μ Q else Ev d 9 4 L st μ Q := e_if_lt (by decide +kernel : decode (bOf 9) 1 = .ok (.ifCond .lt 9, 3)) (by omega)
theorem x_9_4 : Ev d 9 4 (a0 :: .int x :: L) st μ Q = Ev d 9 5 (a0 :: .int x :: L) (.int x :: st) μ Q := e_iload_n (by decide +kernel : decode (bOf 9) 4 = .ok (.iload_n 1, 1)) rfl
theorem x_9_5 : Ev d 9 5 L st μ Q = Ev d 9 7 L (.int (iI 6) :: st) μ Q := e_bipush (by decide +kernel : decode (bOf 9) 5 = .ok (.bipush 6, 2)) (by decide +kernel)
theorem x_9_7 : Ev d 9 7 L (.int y :: .int x :: st) μ Q = if y < x then Ev d 9 10 L st μ Q else Ev d 9 11 L st μ Q := e_icmp_le (by decide +kernel : decode (bOf 9) 7 = .ok (.if_icmp .le 4, 3)) (by omega)
theorem x_9_10 : Ev d 9 10 L [] μ Q = Q none μ := e_ret (by decide +kernel : decode (bOf 9) 10 = .ok (.return_, 1)) (by decide +kernel)
theorem x_9_11 : Ev d 9 11 (.ref r :: L) st μ Q = Ev d 9 12 (.ref r :: L) (.ref r :: st) μ Q := e_aload_n (by decide +kernel : decode (bOf 9) 11 = .ok (.aload_n 0, 1)) rfl
theorem x_9_12 (h : kd t r = 0) : Ev d 9 12 L (.ref r :: st) (t, V, A, P) Q = Ev d 9 15 L (V r 0 :: st) (t, V, A, P) Q := e_getf (by decide +kernel : decode (bOf 9) 12 = .ok (.getfield 11, 3)) (by decide +kernel) (by decide +kernel) h
theorem x_9_15 : Ev d 9 15 (a0 :: .int x :: L) st μ Q = Ev d 9 16 (a0 :: .int x :: L) (.int x :: st) μ Q := e_iload_n (by decide +kernel : decode (bOf 9) 15 = .ok (.iload_n 1, 1)) rfl
theorem x_9_16 (h : kd t r = 8) (hi : inB x (ln t r) = true) : Ev d 9 16 L (.int x :: .ref r :: st) (t, V, A, P) Q = Ev d 9 17 L (va_rf (P r x.toNatClampNeg) :: st) (t, V, A, P) Q := e_aald 8 (by omega) (by decide +kernel : decode (bOf 9) 16 = .ok (.aaload, 1)) h hi
theorem x_9_17 (h : a2.category = 1) : Ev d 9 17 (a0 :: a1 :: a2 :: a3 :: L) (.ref r :: st) μ Q = Ev d 9 18 (a0 :: a1 :: a2 :: .ref r :: L) st μ Q := e_astore_n (by decide +kernel : decode (bOf 9) 17 = .ok (.astore_n 3, 1)) (by show stOK _ 3 = true; simp [stOK, h])
theorem x_9_18 : Ev d 9 18 (a0 :: a1 :: a2 :: .ref r :: L) st μ Q = Ev d 9 19 (a0 :: a1 :: a2 :: .ref r :: L) (.ref r :: st) μ Q := e_aload_n (by decide +kernel : decode (bOf 9) 18 = .ok (.aload_n 3, 1)) rfl
theorem x_9_19 : Ev d 9 19 L (.ref r :: st) μ Q = Ev d 9 22 L st μ Q := e_ifnull (by decide +kernel : decode (bOf 9) 19 = .ok (.ifnull 14, 3))
theorem x_9_22 : Ev d 9 22 (a0 :: a1 :: a2 :: .ref r :: L) st μ Q = Ev d 9 23 (a0 :: a1 :: a2 :: .ref r :: L) (.ref r :: st) μ Q := e_aload_n (by decide +kernel : decode (bOf 9) 22 = .ok (.aload_n 3, 1)) rfl
theorem x_9_23 (h : kd t r = 2) : Ev d 9 23 L (.ref r :: st) (t, V, A, P) Q = Ev d 9 26 L (V r 4 :: st) (t, V, A, P) Q := e_getf (by decide +kernel : decode (bOf 9) 23 = .ok (.getfield 60, 3)) (by decide +kernel) (by decide +kernel) h
theorem x_9_26 : Ev d 9 26 (.ref r :: L) st μ Q = Ev d 9 27 (.ref r :: L) (.ref r :: st) μ Q := e_aload_n (by decide +kernel : decode (bOf 9) 26 = .ok (.aload_n 0, 1)) rfl
theorem x_9_27 (h : kd t r = 0) : Ev d 9 27 L (.ref r :: st) (t, V, A, P) Q = Ev d 9 30 L (V r 5 :: st) (t, V, A, P) Q := e_getf (by decide +kernel : decode (bOf 9) 27 = .ok (.getfield 31, 3)) (by decide +kernel) (by decide +kernel) h
theorem x_9_30 : Ev d 9 30 L (.int y :: .int x :: st) μ Q = if x < y then Ev d 9 34 L st μ Q else Ev d 9 33 L st μ Q := e_icmp_lt (by decide +kernel : decode (bOf 9) 30 = .ok (.if_icmp .lt 4, 3)) (by omega)
theorem x_9_33 : Ev d 9 33 L [] μ Q = Q none μ := e_ret (by decide +kernel : decode (bOf 9) 33 = .ok (.return_, 1)) (by decide +kernel)
theorem x_9_34 : Ev d 9 34 (a0 :: .int x :: L) st μ Q = Ev d 9 35 (a0 :: .int x :: L) (.int x :: st) μ Q := e_iload_n (by decide +kernel : decode (bOf 9) 34 = .ok (.iload_n 1, 1)) rfl
theorem x_9_35 : Ev d 9 35 (.ref r :: L) st μ Q = Ev d 9 36 (.ref r :: L) (.ref r :: st) μ Q := e_aload_n (by decide +kernel : decode (bOf 9) 35 = .ok (.aload_n 0, 1)) rfl
theorem x_9_36 (h : kd t r = 0) : Ev d 9 36 L (.ref r :: st) (t, V, A, P) Q = Ev d 9 39 L (V r 4 :: st) (t, V, A, P) Q := e_getf (by decide +kernel : decode (bOf 9) 36 = .ok (.getfield 27, 3)) (by decide +kernel) (by decide +kernel) h
theorem x_9_39 : Ev d 9 39 L (.int y :: .int x :: st) μ Q = if x < y then Ev d 9 42 L st μ Q else Ev d 9 48 L st μ Q := e_icmp_ge (by decide +kernel : decode (bOf 9) 39 = .ok (.if_icmp .ge 9, 3)) (by omega)
theorem x_9_42 : Ev d 9 42 (a0 :: .int x :: L) st μ Q = Ev d 9 43 (a0 :: .int x :: L) (.int x :: st) μ Q := e_iload_n (by decide +kernel : decode (bOf 9) 42 = .ok (.iload_n 1, 1)) rfl
theorem x_9_43 : Ev d 9 43 L st μ Q = Ev d 9 45 L (.int (iI 6) :: st) μ Q := e_bipush (by decide +kernel : decode (bOf 9) 43 = .ok (.bipush 6, 2)) (by decide +kernel)
theorem x_9_45 : Ev d 9 45 L (.int y :: .int x :: st) μ Q = if x < y then Ev d 9 57 L st μ Q else Ev d 9 48 L st μ Q := e_icmp_lt (by decide +kernel : decode (bOf 9) 45 = .ok (.if_icmp .lt 12, 3)) (by omega)
theorem x_9_48 : Ev d 9 48 (.ref r :: L) st μ Q = Ev d 9 49 (.ref r :: L) (.ref r :: st) μ Q := e_aload_n (by decide +kernel : decode (bOf 9) 48 = .ok (.aload_n 0, 1)) rfl
theorem x_9_49 : Ev d 9 49 (a0 :: a1 :: a2 :: .ref r :: L) st μ Q = Ev d 9 50 (a0 :: a1 :: a2 :: .ref r :: L) (.ref r :: st) μ Q := e_aload_n (by decide +kernel : decode (bOf 9) 49 = .ok (.aload_n 3, 1)) rfl
theorem x_9_50 (h : kd t r = 2) : Ev d 9 50 L (.ref r :: st) (t, V, A, P) Q = Ev d 9 53 L (V r 4 :: st) (t, V, A, P) Q := e_getf (by decide +kernel : decode (bOf 9) 50 = .ok (.getfield 60, 3)) (by decide +kernel) (by decide +kernel) h
theorem x_9_53 (h : kd t r = 0) : Ev d 9 53 L [b0, .ref r] (t, V, A, P) Q = Call d 10 [.ref r, b0] (t, V, A, P) (fun v μ1 => Ev d 9 56 L (v.toList ++ []) μ1 Q) := e_callV (a := [b0]) (r := []) (by decide +kernel : decode (bOf 9) 53 = .ok (.invokevirtual 63, 3)) (by decide +kernel) (by decide +kernel) (by decide +kernel) (by omega) rfl (by simp) (by decide +kernel) h
theorem x_9_56 : Ev d 9 56 L [] μ Q = Q none μ := e_ret (by decide +kernel : decode (bOf 9) 56 = .ok (.return_, 1)) (by decide +kernel)
theorem x_9_57 : Ev d 9 57 (.ref r :: L) st μ Q = Ev d 9 58 (.ref r :: L) (.ref r :: st) μ Q := e_aload_n (by decide +kernel : decode (bOf 9) 57 = .ok (.aload_n 0, 1)) rfl
theorem x_9_58 (h : kd t r = 0) : Ev d 9 58 L (.ref r :: st) (t, V, A, P) Q = Ev d 9 61 L (V r 0 :: st) (t, V, A, P) Q := e_getf (by decide +kernel : decode (bOf 9) 58 = .ok (.getfield 11, 3)) (by decide +kernel) (by decide +kernel) h
theorem x_9_61 : Ev d 9 61 (a0 :: .int x :: L) st μ Q = Ev d 9 62 (a0 :: .int x :: L) (.int x :: st) μ Q := e_iload_n (by decide +kernel : decode (bOf 9) 61 = .ok (.iload_n 1, 1)) rfl
theorem x_9_62 : Ev d 9 62 L st μ Q = Ev d 9 63 L (.int (iI 1) :: st) μ Q := e_iconst (by decide +kernel : decode (bOf 9) 62 = .ok (.iconst 1, 1))
theorem x_9_63 : Ev d 9 63 L (.int y :: .int x :: st) μ Q = Ev d 9 64 L (.int (x + y) :: st) μ Q := e_iadd (by decide +kernel : decode (bOf 9) 63 = .ok (.iadd, 1))
theorem x_9_64 (h : kd t r = 8) (hi : inB x (ln t r) = true) : Ev d 9 64 L (.int x :: .ref r :: st) (t, V, A, P) Q = Ev d 9 65 L (va_rf (P r x.toNatClampNeg) :: st) (t, V, A, P) Q := e_aald 8 (by omega) (by decide +kernel : decode (bOf 9) 64 = .ok (.aaload, 1)) h hi
theorem x_9_65 (h : a3.category = 1) : Ev d 9 65 (a0 :: a1 :: a2 :: a3 :: a4 :: L) (.ref r :: st) μ Q = Ev d 9 67 (a0 :: a1 :: a2 :: a3 :: .ref r :: L) st μ Q := e_astore (by decide +kernel : decode (bOf 9) 65 = .ok (.astore 4, 2)) (by show stOK _ 4 = true; simp [stOK, h])
theorem x_9_67 : Ev d 9 67 L st μ Q = Ev d 9 68 L (.int (iI 0) :: st) μ Q := e_iconst (by decide +kernel : decode (bOf 9) 67 = .ok (.iconst 0, 1))
theorem x_9_68 (h : a4.category = 1) : Ev d 9 68 (a0 :: a1 :: a2 :: a3 :: a4 :: a5 :: L) (.int x :: st) μ Q = Ev d 9 70 (a0 :: a1 :: a2 :: a3 :: a4 :: .int x :: L) st μ Q := e_istore (by decide +kernel : decode (bOf 9) 68 = .ok (.istore 5, 2)) (by show stOK _ 5 = true; simp [stOK, h])
theorem x_9_70 : Ev d 9 70 (a0 :: a1 :: a2 :: a3 :: .ref r :: L) st μ Q = Ev d 9 72 (a0 :: a1 :: a2 :: a3 :: .ref r :: L) (.ref r :: st) μ Q := e_aload (by decide +kernel : decode (bOf 9) 70 = .ok (.aload 4, 2)) rfl
theorem x_9_72 : Ev d 9 72 L (.ref r :: st) μ Q = Ev d 9 75 L st μ Q := e_ifnull (by decide +kernel : decode (bOf 9) 72 = .ok (.ifnull 81, 3))
theorem x_9_75 : Ev d 9 75 (a0 :: a1 :: a2 :: a3 :: a4 :: .int x :: L) st μ Q = Ev d 9 77 (a0 :: a1 :: a2 :: a3 :: a4 :: .int x :: L) (.int x :: st) μ Q := e_iload (by decide +kernel : decode (bOf 9) 75 = .ok (.iload 5, 2)) rfl
theorem x_9_77 : Ev d 9 77 (.ref r :: L) st μ Q = Ev d 9 78 (.ref r :: L) (.ref r :: st) μ Q := e_aload_n (by decide +kernel : decode (bOf 9) 77 = .ok (.aload_n 0, 1)) rfl
theorem x_9_78 (h : kd t r = 0) : Ev d 9 78 L (.ref r :: st) (t, V, A, P) Q = Ev d 9 81 L (V r 4 :: st) (t, V, A, P) Q := e_getf (by decide +kernel : decode (bOf 9) 78 = .ok (.getfield 27, 3)) (by decide +kernel) (by decide +kernel) h
theorem x_9_81 : Ev d 9 81 L (.int y :: .int x :: st) μ Q = if x < y then Ev d 9 84 L st μ Q else Ev d 9 153 L st μ Q := e_icmp_ge (by decide +kernel : decode (bOf 9) 81 = .ok (.if_icmp .ge 72, 3)) (by omega)
theorem x_9_84 : Ev d 9 84 (a0 :: a1 :: a2 :: a3 :: a4 :: .int x :: L) st μ Q = Ev d 9 86 (a0 :: a1 :: a2 :: a3 :: a4 :: .int x :: L) (.int x :: st) μ Q := e_iload (by decide +kernel : decode (bOf 9) 84 = .ok (.iload 5, 2)) rfl
theorem x_9_86 : Ev d 9 86 L st μ Q = Ev d 9 88 L (.int (iI 6) :: st) μ Q := e_bipush (by decide +kernel : decode (bOf 9) 86 = .ok (.bipush 6, 2)) (by decide +kernel)
theorem x_9_88 : Ev d 9 88 L (.int y :: .int x :: st) μ Q = if x < y then Ev d 9 91 L st μ Q else Ev d 9 153 L st μ Q := e_icmp_ge (by decide +kernel : decode (bOf 9) 88 = .ok (.if_icmp .ge 65, 3)) (by omega)
theorem x_9_91 : Ev d 9 91 (a0 :: a1 :: .int x :: L) st μ Q = Ev d 9 92 (a0 :: a1 :: .int x :: L) (.int x :: st) μ Q := e_iload_n (by decide +kernel : decode (bOf 9) 91 = .ok (.iload_n 2, 1)) rfl
theorem x_9_92 : Ev d 9 92 L st μ Q = Ev d 9 93 L (.int (iI 1) :: st) μ Q := e_iconst (by decide +kernel : decode (bOf 9) 92 = .ok (.iconst 1, 1))
theorem x_9_93 : Ev d 9 93 (a0 :: a1 :: a2 :: a3 :: a4 :: .int x :: L) st μ Q = Ev d 9 95 (a0 :: a1 :: a2 :: a3 :: a4 :: .int x :: L) (.int x :: st) μ Q := e_iload (by decide +kernel : decode (bOf 9) 93 = .ok (.iload 5, 2)) rfl
theorem x_9_95 : Ev d 9 95 L (.int y :: .int x :: st) μ Q = Ev d 9 96 L (.int (x <<< (y &&& 31)) :: st) μ Q := e_ishl (by decide +kernel : decode (bOf 9) 95 = .ok (.ishl, 1))
theorem x_9_96 : Ev d 9 96 L (.int y :: .int x :: st) μ Q = Ev d 9 97 L (.int (x &&& y) :: st) μ Q := e_iand (by decide +kernel : decode (bOf 9) 96 = .ok (.iand, 1))
theorem x_9_97 : Ev d 9 97 L (.int x :: st) μ Q = if x = iI 0 then Ev d 9 100 L st μ Q else Ev d 9 147 L st μ Q := e_if_ne (by decide +kernel : decode (bOf 9) 97 = .ok (.ifCond .ne 50, 3)) (by omega)
theorem x_9_100 : Ev d 9 100 (.ref r :: L) st μ Q = Ev d 9 101 (.ref r :: L) (.ref r :: st) μ Q := e_aload_n (by decide +kernel : decode (bOf 9) 100 = .ok (.aload_n 0, 1)) rfl
theorem x_9_101 (h : kd t r = 0) : Ev d 9 101 L (.ref r :: st) (t, V, A, P) Q = Ev d 9 104 L (V r 2 :: st) (t, V, A, P) Q := e_getf (by decide +kernel : decode (bOf 9) 101 = .ok (.getfield 21, 3)) (by decide +kernel) (by decide +kernel) h
theorem x_9_104 : Ev d 9 104 (a0 :: .int x :: L) st μ Q = Ev d 9 105 (a0 :: .int x :: L) (.int x :: st) μ Q := e_iload_n (by decide +kernel : decode (bOf 9) 104 = .ok (.iload_n 1, 1)) rfl
theorem x_9_105 : Ev d 9 105 (a0 :: a1 :: a2 :: a3 :: a4 :: .int x :: L) st μ Q = Ev d 9 107 (a0 :: a1 :: a2 :: a3 :: a4 :: .int x :: L) (.int x :: st) μ Q := e_iload (by decide +kernel : decode (bOf 9) 105 = .ok (.iload 5, 2)) rfl
theorem x_9_107 (h : kd t r = 6) (hi : inB x (ln t r) = true) : Ev d 9 107 L (.int y :: .int x :: .ref r :: st) (t, V, A, P) Q = Ev d 9 108 L st (t, V, up1 A r (upd (A r) x.toNatClampNeg y), P) Q := e_iast (by decide +kernel : decode (bOf 9) 107 = .ok (.iastore, 1)) h hi
theorem x_9_108 : Ev d 9 108 (a0 :: a1 :: a2 :: a3 :: .ref r :: L) st μ Q = Ev d 9 110 (a0 :: a1 :: a2 :: a3 :: .ref r :: L) (.ref r :: st) μ Q := e_aload (by decide +kernel : decode (bOf 9) 108 = .ok (.aload 4, 2)) rfl
theorem x_9_110 : Ev d 9 110 (a0 :: a1 :: a2 :: .ref r :: L) st μ Q = Ev d 9 111 (a0 :: a1 :: a2 :: .ref r :: L) (.ref r :: st) μ Q := e_aload_n (by decide +kernel : decode (bOf 9) 110 = .ok (.aload_n 3, 1)) rfl
theorem x_9_111 (h : kd t r = 2) : Ev d 9 111 L [b0, .ref r] (t, V, A, P) Q = Call d 23 [.ref r, b0] (t, V, A, P) (fun v μ1 => Ev d 9 114 L (v.toList ++ []) μ1 Q) := e_callV (a := [b0]) (r := []) (by decide +kernel : decode (bOf 9) 111 = .ok (.invokevirtual 66, 3)) (by decide +kernel) (by decide +kernel) (by decide +kernel) (by omega) rfl (by simp) (by decide +kernel) h
theorem x_9_114 : Ev d 9 114 (a0 :: a1 :: a2 :: a3 :: .ref r :: L) st μ Q = Ev d 9 116 (a0 :: a1 :: a2 :: a3 :: .ref r :: L) (.ref r :: st) μ Q := e_aload (by decide +kernel : decode (bOf 9) 114 = .ok (.aload 4, 2)) rfl
theorem x_9_116 : Ev d 9 116 (.ref r :: L) st μ Q = Ev d 9 117 (.ref r :: L) (.ref r :: st) μ Q := e_aload_n (by decide +kernel : decode (bOf 9) 116 = .ok (.aload_n 0, 1)) rfl
theorem x_9_117 (h : kd t r = 0) : Ev d 9 117 L (.ref r :: st) (t, V, A, P) Q = Ev d 9 120 L (V r 1 :: st) (t, V, A, P) Q := e_getf (by decide +kernel : decode (bOf 9) 117 = .ok (.getfield 17, 3)) (by decide +kernel) (by decide +kernel) h
theorem x_9_120 : Ev d 9 120 (a0 :: a1 :: a2 :: a3 :: a4 :: .int x :: L) st μ Q = Ev d 9 122 (a0 :: a1 :: a2 :: a3 :: a4 :: .int x :: L) (.int x :: st) μ Q := e_iload (by decide +kernel : decode (bOf 9) 120 = .ok (.iload 5, 2)) rfl
theorem x_9_122 (h : kd t r = 6) (hi : inB x (ln t r) = true) : Ev d 9 122 L (.int x :: .ref r :: st) (t, V, A, P) Q = Ev d 9 123 L (.int (A r x.toNatClampNeg) :: st) (t, V, A, P) Q := e_iald (by decide +kernel : decode (bOf 9) 122 = .ok (.iaload, 1)) h hi
theorem x_9_123 : Ev d 9 123 (a0 :: a1 :: a2 :: .ref r :: L) st μ Q = Ev d 9 124 (a0 :: a1 :: a2 :: .ref r :: L) (.ref r :: st) μ Q := e_aload_n (by decide +kernel : decode (bOf 9) 123 = .ok (.aload_n 3, 1)) rfl
theorem x_9_124 (h : kd t r = 2) : Ev d 9 124 L (.ref r :: st) (t, V, A, P) Q = Ev d 9 127 L (V r 0 :: st) (t, V, A, P) Q := e_getf (by decide +kernel : decode (bOf 9) 124 = .ok (.getfield 70, 3)) (by decide +kernel) (by decide +kernel) h
theorem x_9_127 : Ev d 9 127 L [b1, b0, s0] μ Q = Call d 1 [b0, b1] μ (fun v μ1 => Ev d 9 130 L (v.toList ++ [s0]) μ1 Q) := e_callS (a := [b0, b1]) (r := [s0]) (by decide +kernel : decode (bOf 9) 127 = .ok (.invokestatic 73, 3)) (by decide +kernel) (by decide +kernel) (by omega) rfl (by simp)
theorem x_9_130 (h : kd t r = 2) : Ev d 9 130 L [b0, .ref r] (t, V, A, P) Q = Call d 25 [.ref r, b0] (t, V, A, P) (fun v μ1 => Ev d 9 133 L (v.toList ++ []) μ1 Q) := e_callV (a := [b0]) (r := []) (by decide +kernel : decode (bOf 9) 130 = .ok (.invokevirtual 56, 3)) (by decide +kernel) (by decide +kernel) (by decide +kernel) (by omega) rfl (by simp) (by decide +kernel) h
theorem x_9_133 : Ev d 9 133 L (.int x :: st) μ Q = Ev d 9 134 L st μ Q := e_pop (by decide +kernel : decode (bOf 9) 133 = .ok (.pop, 1))
theorem x_9_134 : Ev d 9 134 (.ref r :: L) st μ Q = Ev d 9 135 (.ref r :: L) (.ref r :: st) μ Q := e_aload_n (by decide +kernel : decode (bOf 9) 134 = .ok (.aload_n 0, 1)) rfl
theorem x_9_135 : Ev d 9 135 (a0 :: .int x :: L) st μ Q = Ev d 9 136 (a0 :: .int x :: L) (.int x :: st) μ Q := e_iload_n (by decide +kernel : decode (bOf 9) 135 = .ok (.iload_n 1, 1)) rfl
theorem x_9_136 : Ev d 9 136 L st μ Q = Ev d 9 137 L (.int (iI 1) :: st) μ Q := e_iconst (by decide +kernel : decode (bOf 9) 136 = .ok (.iconst 1, 1))
theorem x_9_137 : Ev d 9 137 L (.int y :: .int x :: st) μ Q = Ev d 9 138 L (.int (x + y) :: st) μ Q := e_iadd (by decide +kernel : decode (bOf 9) 137 = .ok (.iadd, 1))
theorem x_9_138 : Ev d 9 138 (a0 :: a1 :: .int x :: L) st μ Q = Ev d 9 139 (a0 :: a1 :: .int x :: L) (.int x :: st) μ Q := e_iload_n (by decide +kernel : decode (bOf 9) 138 = .ok (.iload_n 2, 1)) rfl
theorem x_9_139 : Ev d 9 139 L st μ Q = Ev d 9 140 L (.int (iI 1) :: st) μ Q := e_iconst (by decide +kernel : decode (bOf 9) 139 = .ok (.iconst 1, 1))
theorem x_9_140 : Ev d 9 140 (a0 :: a1 :: a2 :: a3 :: a4 :: .int x :: L) st μ Q = Ev d 9 142 (a0 :: a1 :: a2 :: a3 :: a4 :: .int x :: L) (.int x :: st) μ Q := e_iload (by decide +kernel : decode (bOf 9) 140 = .ok (.iload 5, 2)) rfl
theorem x_9_142 : Ev d 9 142 L (.int y :: .int x :: st) μ Q = Ev d 9 143 L (.int (x <<< (y &&& 31)) :: st) μ Q := e_ishl (by decide +kernel : decode (bOf 9) 142 = .ok (.ishl, 1))
theorem x_9_143 : Ev d 9 143 L (.int y :: .int x :: st) μ Q = Ev d 9 144 L (.int (x ||| y) :: st) μ Q := e_ior (by decide +kernel : decode (bOf 9) 143 = .ok (.ior, 1))
theorem x_9_144 : Ev d 9 144 L [b2, b1, b0] μ Q = Call d 9 [b0, b1, b2] μ (fun v μ1 => Ev d 9 147 L (v.toList ++ []) μ1 Q) := e_callS (a := [b0, b1, b2]) (r := []) (by decide +kernel : decode (bOf 9) 144 = .ok (.invokestatic 45, 3)) (by decide +kernel) (by decide +kernel) (by omega) rfl (by simp)
theorem x_9_147 (h : a4.category = 1) : Ev d 9 147 (a0 :: a1 :: a2 :: a3 :: a4 :: .int x :: L) st μ Q = Ev d 9 150 (a0 :: a1 :: a2 :: a3 :: a4 :: .int (x + (iI 1)) :: L) st μ Q := e_iinc (by decide +kernel : decode (bOf 9) 147 = .ok (.iinc 5 1, 3)) rfl (by simp [stOK, h])
theorem x_9_150 : Ev d 9 150 L st μ Q = Ev d 9 70 L st μ Q := e_goto (by decide +kernel : decode (bOf 9) 150 = .ok (.goto (-80), 3)) (by omega)
theorem x_9_153 : Ev d 9 153 L [] μ Q = Q none μ := e_ret (by decide +kernel : decode (bOf 9) 153 = .ok (.return_, 1)) (by decide +kernel)
theorem c_10 : Call (d + 1) 10 [.ref r0, .int i1] μ Q = Ev d 10 0 [.ref r0, .int i1, .null] [] μ Q := call_ev rfl rfl
theorem x_10_0 : Ev d 10 0 (.ref r :: L) st μ Q = Ev d 10 1 (.ref r :: L) (.ref r :: st) μ Q := e_aload_n (by decide +kernel : decode (bOf 10) 0 = .ok (.aload_n 0, 1)) rfl
theorem x_10_1 : Ev d 10 1 (a0 :: .int x :: L) st μ Q = Ev d 10 2 (a0 :: .int x :: L) (.int x :: st) μ Q := e_iload_n (by decide +kernel : decode (bOf 10) 1 = .ok (.iload_n 1, 1)) rfl
theorem x_10_2 (h : kd t r = 0) : Ev d 10 2 L (.int x :: .ref r :: st) (t, V, A, P) Q = Ev d 10 5 L st (t, up1 V r (up1 (V r) 5 (.int x)), A, P) Q := e_putf (by decide +kernel : decode (bOf 10) 2 = .ok (.putfield 31, 3)) (by decide +kernel) (by decide +kernel) rfl h
theorem x_10_5 : Ev d 10 5 L st μ Q = Ev d 10 6 L (.int (iI 0) :: st) μ Q := e_iconst (by decide +kernel : decode (bOf 10) 5 = .ok (.iconst 0, 1))
theorem x_10_6 (h : a1.category = 1) : Ev d 10 6 (a0 :: a1 :: a2 :: L) (.int x :: st) μ Q = Ev d 10 7 (a0 :: a1 :: .int x :: L) st μ Q := e_istore_n (by decide +kernel : decode (bOf 10) 6 = .ok (.istore_n 2, 1)) (by show stOK _ 2 = true; simp [stOK, h])
theorem x_10_7 : Ev d 10 7 (a0 :: a1 :: .int x :: L) st μ Q = Ev d 10 8 (a0 :: a1 :: .int x :: L) (.int x :: st) μ Q := e_iload_n (by decide +kernel : decode (bOf 10) 7 = .ok (.iload_n 2, 1)) rfl
theorem x_10_8 : Ev d 10 8 L st μ Q = Ev d 10 10 L (.int (iI 6) :: st) μ Q := e_bipush (by decide +kernel : decode (bOf 10) 8 = .ok (.bipush 6, 2)) (by decide +kernel)
theorem x_10_10 : Ev d 10 10 L (.int y :: .int x :: st) μ Q = if x < y then Ev d 10 13 L st μ Q else Ev d 10 31 L st μ Q := e_icmp_ge (by decide +kernel : decode (bOf 10) 10 = .ok (.if_icmp .ge 21, 3)) (by omega)
theorem x_10_13 : Ev d 10 13 (.ref r :: L) st μ Q = Ev d 10 14 (.ref r :: L) (.ref r :: st) μ Q := e_aload_n (by decide +kernel : decode (bOf 10) 13 = .ok (.aload_n 0, 1)) rfl
theorem x_10_14 (h : kd t r = 0) : Ev d 10 14 L (.ref r :: st) (t, V, A, P) Q = Ev d 10 17 L (V r 3 :: st) (t, V, A, P) Q := e_getf (by decide +kernel : decode (bOf 10) 14 = .ok (.getfield 24, 3)) (by decide +kernel) (by decide +kernel) h
theorem x_10_17 : Ev d 10 17 (a0 :: a1 :: .int x :: L) st μ Q = Ev d 10 18 (a0 :: a1 :: .int x :: L) (.int x :: st) μ Q := e_iload_n (by decide +kernel : decode (bOf 10) 17 = .ok (.iload_n 2, 1)) rfl
theorem x_10_18 : Ev d 10 18 (.ref r :: L) st μ Q = Ev d 10 19 (.ref r :: L) (.ref r :: st) μ Q := e_aload_n (by decide +kernel : decode (bOf 10) 18 = .ok (.aload_n 0, 1)) rfl
theorem x_10_19 (h : kd t r = 0) : Ev d 10 19 L (.ref r :: st) (t, V, A, P) Q = Ev d 10 22 L (V r 2 :: st) (t, V, A, P) Q := e_getf (by decide +kernel : decode (bOf 10) 19 = .ok (.getfield 21, 3)) (by decide +kernel) (by decide +kernel) h
theorem x_10_22 : Ev d 10 22 (a0 :: a1 :: .int x :: L) st μ Q = Ev d 10 23 (a0 :: a1 :: .int x :: L) (.int x :: st) μ Q := e_iload_n (by decide +kernel : decode (bOf 10) 22 = .ok (.iload_n 2, 1)) rfl
theorem x_10_23 (h : kd t r = 6) (hi : inB x (ln t r) = true) : Ev d 10 23 L (.int x :: .ref r :: st) (t, V, A, P) Q = Ev d 10 24 L (.int (A r x.toNatClampNeg) :: st) (t, V, A, P) Q := e_iald (by decide +kernel : decode (bOf 10) 23 = .ok (.iaload, 1)) h hi
theorem x_10_24 (h : kd t r = 6) (hi : inB x (ln t r) = true) : Ev d 10 24 L (.int y :: .int x :: .ref r :: st) (t, V, A, P) Q = Ev d 10 25 L st (t, V, up1 A r (upd (A r) x.toNatClampNeg y), P) Q := e_iast (by decide +kernel : decode (bOf 10) 24 = .ok (.iastore, 1)) h hi
theorem x_10_25 (h : a1.category = 1) : Ev d 10 25 (a0 :: a1 :: .int x :: L) st μ Q = Ev d 10 28 (a0 :: a1 :: .int (x + (iI 1)) :: L) st μ Q := e_iinc (by decide +kernel : decode (bOf 10) 25 = .ok (.iinc 2 1, 3)) rfl (by simp [stOK, h])
theorem x_10_28 : Ev d 10 28 L st μ Q = Ev d 10 7 L st μ Q := e_goto (by decide +kernel : decode (bOf 10) 28 = .ok (.goto (-21), 3)) (by omega)
theorem x_10_31 : Ev d 10 31 L [] μ Q = Q none μ := e_ret (by decide +kernel : decode (bOf 10) 31 = .ok (.return_, 1)) (by decide +kernel)
theorem c_11 : Call (d + 1) 11 [.ref r0] μ Q = Ev d 11 0 [.ref r0] [] μ Q := call_ev rfl rfl
theorem x_11_0 : Ev d 11 0 (.ref r :: L) st μ Q = Ev d 11 1 (.ref r :: L) (.ref r :: st) μ Q := e_aload_n (by decide +kernel : decode (bOf 11) 0 = .ok (.aload_n 0, 1)) rfl
theorem x_11_1 : Ev d 11 1 L [.ref r] μ Q = Ev d 11 4 L [] μ Q := e_obj (by decide +kernel : decode (bOf 11) 1 = .ok (.invokespecial 3, 3)) (by decide +kernel) (by decide +kernel) (by simp)
theorem x_11_4 : Ev d 11 4 (.ref r :: L) st μ Q = Ev d 11 5 (.ref r :: L) (.ref r :: st) μ Q := e_aload_n (by decide +kernel : decode (bOf 11) 4 = .ok (.aload_n 0, 1)) rfl
theorem x_11_5 : Ev d 11 5 L st μ Q = Ev d 11 7 L (.int (iI 32) :: st) μ Q := e_bipush (by decide +kernel : decode (bOf 11) 5 = .ok (.bipush 32, 2)) (by decide +kernel)
theorem x_11_7 : Ev d 11 7 L (.int (iI 32) :: st) ((N, S, K), V, A, P) Q = Ev d 11 9 L (.ref N :: st) ((N + 1, S + 32, up1 K N (6, 32)), V, up1 A N (fun _ => 0), P) Q := e_newi 32 (by decide +kernel : decode (bOf 11) 7 = .ok (.newarray .int, 2)) (by decide +kernel) (by decide +kernel)
theorem x_11_9 (h : kd t r = 1) : Ev d 11 9 L (.ref q :: .ref r :: st) (t, V, A, P) Q = Ev d 11 12 L st (t, up1 V r (up1 (V r) 0 (.ref q)), A, P) Q := e_putf (by decide +kernel : decode (bOf 11) 9 = .ok (.putfield 9, 3)) (by decide +kernel) (by decide +kernel) rfl h
theorem x_11_12 : Ev d 11 12 (.ref r :: L) st μ Q = Ev d 11 13 (.ref r :: L) (.ref r :: st) μ Q := e_aload_n (by decide +kernel : decode (bOf 11) 12 = .ok (.aload_n 0, 1)) rfl
theorem x_11_13 : Ev d 11 13 L st ((N, S, K), V, A, P) Q = Ev d 11 16 L (.ref N :: st) ((N + 1, S + 5, up1 K N (2, 5)), up1 V N (rw' [.int 0, .int 0, .int 0, .int 0, .int 0]), A, P) Q := e_new 5 [.int 0, .int 0, .int 0, .int 0, .int 0] (by decide +kernel : decode (bOf 11) 13 = .ok (.new 15, 3)) (by decide +kernel) (by decide +kernel) (by decide +kernel) (by decide +kernel)
theorem x_11_16 : Ev d 11 16 L (.ref r :: st) μ Q = Ev d 11 17 L (.ref r :: .ref r :: st) μ Q := e_dup_a (by decide +kernel : decode (bOf 11) 16 = .ok (.dup, 1))
theorem x_11_17 : Ev d 11 17 L [.ref r, s0, s1] μ Q = Call d 21 [.ref r] μ (fun v μ1 => Ev d 11 20 L (v.toList ++ [s0, s1]) μ1 Q) := e_callI (a := []) (r := [s0, s1]) (by decide +kernel : decode (bOf 11) 17 = .ok (.invokespecial 17, 3)) (by decide +kernel) (by decide +kernel) (by decide +kernel) (by decide +kernel) (by omega) rfl (by simp)
theorem x_11_20 (h : kd t r = 1) : Ev d 11 20 L (.ref q :: .ref r :: st) (t, V, A, P) Q = Ev d 11 23 L st (t, up1 V r (up1 (V r) 1 (.ref q)), A, P) Q := e_putf (by decide +kernel : decode (bOf 11) 20 = .ok (.putfield 18, 3)) (by decide +kernel) (by decide +kernel) rfl h
theorem x_11_23 : Ev d 11 23 (.ref r :: L) st μ Q = Ev d 11 24 (.ref r :: L) (.ref r :: st) μ Q := e_aload_n (by decide +kernel : decode (bOf 11) 23 = .ok (.aload_n 0, 1)) rfl
theorem x_11_24 : Ev d 11 24 L st ((N, S, K), V, A, P) Q = Ev d 11 27 L (.ref N :: st) ((N + 1, S + 5, up1 K N (2, 5)), up1 V N (rw' [.int 0, .int 0, .int 0, .int 0, .int 0]), A, P) Q := e_new 5 [.int 0, .int 0, .int 0, .int 0, .int 0] (by decide +kernel : decode (bOf 11) 24 = .ok (.new 15, 3)) (by decide +kernel) (by decide +kernel) (by decide +kernel) (by decide +kernel)
theorem x_11_27 : Ev d 11 27 L (.ref r :: st) μ Q = Ev d 11 28 L (.ref r :: .ref r :: st) μ Q := e_dup_a (by decide +kernel : decode (bOf 11) 27 = .ok (.dup, 1))
theorem x_11_28 : Ev d 11 28 L [.ref r, s0, s1] μ Q = Call d 21 [.ref r] μ (fun v μ1 => Ev d 11 31 L (v.toList ++ [s0, s1]) μ1 Q) := e_callI (a := []) (r := [s0, s1]) (by decide +kernel : decode (bOf 11) 28 = .ok (.invokespecial 17, 3)) (by decide +kernel) (by decide +kernel) (by decide +kernel) (by decide +kernel) (by omega) rfl (by simp)
theorem x_11_31 (h : kd t r = 1) : Ev d 11 31 L (.ref q :: .ref r :: st) (t, V, A, P) Q = Ev d 11 34 L st (t, up1 V r (up1 (V r) 2 (.ref q)), A, P) Q := e_putf (by decide +kernel : decode (bOf 11) 31 = .ok (.putfield 22, 3)) (by decide +kernel) (by decide +kernel) rfl h
theorem x_11_34 : Ev d 11 34 (.ref r :: L) st μ Q = Ev d 11 35 (.ref r :: L) (.ref r :: st) μ Q := e_aload_n (by decide +kernel : decode (bOf 11) 34 = .ok (.aload_n 0, 1)) rfl
theorem x_11_35 : Ev d 11 35 L st μ Q = Ev d 11 36 L (.int (iI 0) :: st) μ Q := e_iconst (by decide +kernel : decode (bOf 11) 35 = .ok (.iconst 0, 1))
theorem x_11_36 (h : kd t r = 1) : Ev d 11 36 L (.int x :: .ref r :: st) (t, V, A, P) Q = Ev d 11 39 L st (t, up1 V r (up1 (V r) 3 (.int x)), A, P) Q := e_putf (by decide +kernel : decode (bOf 11) 36 = .ok (.putfield 25, 3)) (by decide +kernel) (by decide +kernel) rfl h
theorem x_11_39 : Ev d 11 39 (.ref r :: L) st μ Q = Ev d 11 40 (.ref r :: L) (.ref r :: st) μ Q := e_aload_n (by decide +kernel : decode (bOf 11) 39 = .ok (.aload_n 0, 1)) rfl
theorem x_11_40 : Ev d 11 40 L st μ Q = Ev d 11 41 L (.int (iI (-1)) :: st) μ Q := e_iconst (by decide +kernel : decode (bOf 11) 40 = .ok (.iconst (-1), 1))
theorem x_11_41 (h : kd t r = 1) : Ev d 11 41 L (.int x :: .ref r :: st) (t, V, A, P) Q = Ev d 11 44 L st (t, up1 V r (up1 (V r) 4 (.int x)), A, P) Q := e_putf (by decide +kernel : decode (bOf 11) 41 = .ok (.putfield 29, 3)) (by decide +kernel) (by decide +kernel) rfl h
theorem x_11_44 : Ev d 11 44 (.ref r :: L) st μ Q = Ev d 11 45 (.ref r :: L) (.ref r :: st) μ Q := e_aload_n (by decide +kernel : decode (bOf 11) 44 = .ok (.aload_n 0, 1)) rfl
theorem x_11_45 : Ev d 11 45 L st μ Q = Ev d 11 46 L (.int (iI 0) :: st) μ Q := e_iconst (by decide +kernel : decode (bOf 11) 45 = .ok (.iconst 0, 1))
theorem x_11_46 (h : kd t r = 1) : Ev d 11 46 L (.int x :: .ref r :: st) (t, V, A, P) Q = Ev d 11 49 L st (t, up1 V r (up1 (V r) 5 (.int x)), A, P) Q := e_putf (by decide +kernel : decode (bOf 11) 46 = .ok (.putfield 32, 3)) (by decide +kernel) (by decide +kernel) rfl h
theorem x_11_49 : Ev d 11 49 (.ref r :: L) st μ Q = Ev d 11 50 (.ref r :: L) (.ref r :: st) μ Q := e_aload_n (by decide +kernel : decode (bOf 11) 49 = .ok (.aload_n 0, 1)) rfl
theorem x_11_50 : Ev d 11 50 L st μ Q = Ev d 11 52 L (.int (iI (-9)) :: st) μ Q := e_bipush (by decide +kernel : decode (bOf 11) 50 = .ok (.bipush (-9), 2)) (by decide +kernel)
theorem x_11_52 (h : kd t r = 1) : Ev d 11 52 L (.int x :: .ref r :: st) (t, V, A, P) Q = Ev d 11 55 L st (t, up1 V r (up1 (V r) 6 (.int x)), A, P) Q := e_putf (by decide +kernel : decode (bOf 11) 52 = .ok (.putfield 35, 3)) (by decide +kernel) (by decide +kernel) rfl h
theorem x_11_55 : Ev d 11 55 (.ref r :: L) st μ Q = Ev d 11 56 (.ref r :: L) (.ref r :: st) μ Q := e_aload_n (by decide +kernel : decode (bOf 11) 55 = .ok (.aload_n 0, 1)) rfl
theorem x_11_56 : Ev d 11 56 L st μ Q = Ev d 11 57 L (.int (iI 0) :: st) μ Q := e_iconst (by decide +kernel : decode (bOf 11) 56 = .ok (.iconst 0, 1))
theorem x_11_57 (h : kd t r = 1) : Ev d 11 57 L (.int x :: .ref r :: st) (t, V, A, P) Q = Ev d 11 60 L st (t, up1 V r (up1 (V r) 7 (.int x)), A, P) Q := e_putf (by decide +kernel : decode (bOf 11) 57 = .ok (.putfield 38, 3)) (by decide +kernel) (by decide +kernel) rfl h
theorem x_11_60 : Ev d 11 60 (.ref r :: L) st μ Q = Ev d 11 61 (.ref r :: L) (.ref r :: st) μ Q := e_aload_n (by decide +kernel : decode (bOf 11) 60 = .ok (.aload_n 0, 1)) rfl
theorem x_11_61 : Ev d 11 61 L st μ Q = Ev d 11 62 L (.int (iI 0) :: st) μ Q := e_iconst (by decide +kernel : decode (bOf 11) 61 = .ok (.iconst 0, 1))
theorem x_11_62 (h : kd t r = 1) : Ev d 11 62 L (.int x :: .ref r :: st) (t, V, A, P) Q = Ev d 11 65 L st (t, up1 V r (up1 (V r) 8 (.int x)), A, P) Q := e_putf (by decide +kernel : decode (bOf 11) 62 = .ok (.putfield 41, 3)) (by decide +kernel) (by decide +kernel) rfl h
theorem x_11_65 : Ev d 11 65 (.ref r :: L) st μ Q = Ev d 11 66 (.ref r :: L) (.ref r :: st) μ Q := e_aload_n (by decide +kernel : decode (bOf 11) 65 = .ok (.aload_n 0, 1)) rfl
theorem x_11_66 : Ev d 11 66 L st μ Q = Ev d 11 68 L (.int (iI (-9)) :: st) μ Q := e_bipush (by decide +kernel : decode (bOf 11) 66 = .ok (.bipush (-9), 2)) (by decide +kernel)
theorem x_11_68 (h : kd t r = 1) : Ev d 11 68 L (.int x :: .ref r :: st) (t, V, A, P) Q = Ev d 11 71 L st (t, up1 V r (up1 (V r) 9 (.int x)), A, P) Q := e_putf (by decide +kernel : decode (bOf 11) 68 = .ok (.putfield 44, 3)) (by decide +kernel) (by decide +kernel) rfl h
theorem x_11_71 : Ev d 11 71 L [] μ Q = Q none μ := e_ret (by decide +kernel : decode (bOf 11) 71 = .ok (.return_, 1)) (by decide +kernel)
theorem c_12 : Call (d + 1) 12 [.ref r0, .ref r1, .int i2, .int i3] μ Q = Ev d 12 0 [.ref r0, .ref r1, .int i2, .int i3, .null, .null, .null] [] μ Q := call_ev rfl rfl
theorem x_12_0 : Ev d 12 0 (.ref r :: L) st μ Q = Ev d 12 1 (.ref r :: L) (.ref r :: st) μ Q := e_aload_n (by decide +kernel : decode (bOf 12) 0 = .ok (.aload_n 0, 1)) rfl
theorem x_12_1 : Ev d 12 1 (a0 :: a1 :: .int x :: L) st μ Q = Ev d 12 2 (a0 :: a1 :: .int x :: L) (.int x :: st) μ Q := e_iload_n (by decide +kernel : decode (bOf 12) 1 = .ok (.iload_n 2, 1)) rfl
theorem x_12_2 (h : kd t r = 1) : Ev d 12 2 L (.int x :: .ref r :: st) (t, V, A, P) Q = Ev d 12 5 L st (t, up1 V r (up1 (V r) 3 (.int x)), A, P) Q := e_putf (by decide +kernel : decode (bOf 12) 2 = .ok (.putfield 25, 3)) (by decide +kernel) (by decide +kernel) rfl h
theorem x_12_5 : Ev d 12 5 (.ref r :: L) st μ Q = Ev d 12 6 (.ref r :: L) (.ref r :: st) μ Q := e_aload_n (by decide +kernel : decode (bOf 12) 5 = .ok (.aload_n 0, 1)) rfl
theorem x_12_6 : Ev d 12 6 (a0 :: a1 :: a2 :: .int x :: L) st μ Q = Ev d 12 7 (a0 :: a1 :: a2 :: .int x :: L) (.int x :: st) μ Q := e_iload_n (by decide +kernel : decode (bOf 12) 6 = .ok (.iload_n 3, 1)) rfl
theorem x_12_7 (h : kd t r = 1) : Ev d 12 7 L (.int x :: .ref r :: st) (t, V, A, P) Q = Ev d 12 10 L st (t, up1 V r (up1 (V r) 4 (.int x)), A, P) Q := e_putf (by decide +kernel : decode (bOf 12) 7 = .ok (.putfield 29, 3)) (by decide +kernel) (by decide +kernel) rfl h
theorem x_12_10 : Ev d 12 10 (.ref r :: L) st μ Q = Ev d 12 11 (.ref r :: L) (.ref r :: st) μ Q := e_aload_n (by decide +kernel : decode (bOf 12) 10 = .ok (.aload_n 0, 1)) rfl
theorem x_12_11 : Ev d 12 11 L st μ Q = Ev d 12 12 L (.int (iI 0) :: st) μ Q := e_iconst (by decide +kernel : decode (bOf 12) 11 = .ok (.iconst 0, 1))
theorem x_12_12 (h : kd t r = 1) : Ev d 12 12 L (.int x :: .ref r :: st) (t, V, A, P) Q = Ev d 12 15 L st (t, up1 V r (up1 (V r) 5 (.int x)), A, P) Q := e_putf (by decide +kernel : decode (bOf 12) 12 = .ok (.putfield 32, 3)) (by decide +kernel) (by decide +kernel) rfl h
theorem x_12_15 : Ev d 12 15 (a0 :: a1 :: .int x :: L) st μ Q = Ev d 12 16 (a0 :: a1 :: .int x :: L) (.int x :: st) μ Q := e_iload_n (by decide +kernel : decode (bOf 12) 15 = .ok (.iload_n 2, 1)) rfl
theorem x_12_16 (h : a3.category = 1) : Ev d 12 16 (a0 :: a1 :: a2 :: a3 :: a4 :: L) (.int x :: st) μ Q = Ev d 12 18 (a0 :: a1 :: a2 :: a3 :: .int x :: L) st μ Q := e_istore (by decide +kernel : decode (bOf 12) 16 = .ok (.istore 4, 2)) (by show stOK _ 4 = true; simp [stOK, h])
theorem x_12_18 : Ev d 12 18 (a0 :: a1 :: a2 :: a3 :: .int x :: L) st μ Q = Ev d 12 20 (a0 :: a1 :: a2 :: a3 :: .int x :: L) (.int x :: st) μ Q := e_iload (by decide +kernel : decode (bOf 12) 18 = .ok (.iload 4, 2)) rfl
theorem x_12_20 : Ev d 12 20 L st μ Q = Ev d 12 22 L (.int (iI 6) :: st) μ Q := e_bipush (by decide +kernel : decode (bOf 12) 20 = .ok (.bipush 6, 2)) (by decide +kernel)
theorem x_12_22 : Ev d 12 22 L (.int y :: .int x :: st) μ Q = Ev d 12 23 L (.int (x + y) :: st) μ Q := e_iadd (by decide +kernel : decode (bOf 12) 22 = .ok (.iadd, 1))
theorem x_12_23 : Ev d 12 23 (a0 :: .ref r :: L) st μ Q = Ev d 12 24 (a0 :: .ref r :: L) (.ref r :: st) μ Q := e_aload_n (by decide +kernel : decode (bOf 12) 23 = .ok (.aload_n 1, 1)) rfl
theorem x_12_24 (h : kd t r = 3) : Ev d 12 24 L [.ref r, s0] (t, V, A, P) Q = Call d 33 [.ref r] (t, V, A, P) (fun v μ1 => Ev d 12 27 L (v.toList ++ [s0]) μ1 Q) := e_callV (a := []) (r := [s0]) (by decide +kernel : decode (bOf 12) 24 = .ok (.invokevirtual 47, 3)) (by decide +kernel) (by decide +kernel) (by decide +kernel) (by omega) rfl (by simp) (by decide +kernel) h
theorem x_12_27 : Ev d 12 27 L (.int y :: .int x :: st) μ Q = if y < x then Ev d 12 101 L st μ Q else Ev d 12 30 L st μ Q := e_icmp_gt (by decide +kernel : decode (bOf 12) 27 = .ok (.if_icmp .gt 74, 3)) (by omega)
theorem x_12_30 : Ev d 12 30 (.ref r :: L) st μ Q = Ev d 12 31 (.ref r :: L) (.ref r :: st) μ Q := e_aload_n (by decide +kernel : decode (bOf 12) 30 = .ok (.aload_n 0, 1)) rfl
theorem x_12_31 (h : kd t r = 1) : Ev d 12 31 L (.ref r :: st) (t, V, A, P) Q = Ev d 12 34 L (V r 5 :: st) (t, V, A, P) Q := e_getf (by decide +kernel : decode (bOf 12) 31 = .ok (.getfield 32, 3)) (by decide +kernel) (by decide +kernel) h
theorem x_12_34 : Ev d 12 34 L st μ Q = Ev d 12 36 L (.int (iI 32) :: st) μ Q := e_bipush (by decide +kernel : decode (bOf 12) 34 = .ok (.bipush 32, 2)) (by decide +kernel)
theorem x_12_36 : Ev d 12 36 L (.int y :: .int x :: st) μ Q = if x < y then Ev d 12 39 L st μ Q else Ev d 12 101 L st μ Q := e_icmp_ge (by decide +kernel : decode (bOf 12) 36 = .ok (.if_icmp .ge 65, 3)) (by omega)
theorem x_12_39 : Ev d 12 39 L st μ Q = Ev d 12 40 L (.int (iI 0) :: st) μ Q := e_iconst (by decide +kernel : decode (bOf 12) 39 = .ok (.iconst 0, 1))
theorem x_12_40 (h : a4.category = 1) : Ev d 12 40 (a0 :: a1 :: a2 :: a3 :: a4 :: a5 :: L) (.int x :: st) μ Q = Ev d 12 42 (a0 :: a1 :: a2 :: a3 :: a4 :: .int x :: L) st μ Q := e_istore (by decide +kernel : decode (bOf 12) 40 = .ok (.istore 5, 2)) (by show stOK _ 5 = true; simp [stOK, h])
theorem x_12_42 : Ev d 12 42 L st μ Q = Ev d 12 43 L (.int (iI 0) :: st) μ Q := e_iconst (by decide +kernel : decode (bOf 12) 42 = .ok (.iconst 0, 1))
theorem x_12_43 (h : a5.category = 1) : Ev d 12 43 (a0 :: a1 :: a2 :: a3 :: a4 :: a5 :: a6 :: L) (.int x :: st) μ Q = Ev d 12 45 (a0 :: a1 :: a2 :: a3 :: a4 :: a5 :: .int x :: L) st μ Q := e_istore (by decide +kernel : decode (bOf 12) 43 = .ok (.istore 6, 2)) (by show stOK _ 6 = true; simp [stOK, h])
theorem x_12_45 : Ev d 12 45 (a0 :: a1 :: a2 :: a3 :: a4 :: a5 :: .int x :: L) st μ Q = Ev d 12 47 (a0 :: a1 :: a2 :: a3 :: a4 :: a5 :: .int x :: L) (.int x :: st) μ Q := e_iload (by decide +kernel : decode (bOf 12) 45 = .ok (.iload 6, 2)) rfl
theorem x_12_47 : Ev d 12 47 L st μ Q = Ev d 12 49 L (.int (iI 6) :: st) μ Q := e_bipush (by decide +kernel : decode (bOf 12) 47 = .ok (.bipush 6, 2)) (by decide +kernel)
theorem x_12_49 : Ev d 12 49 L (.int y :: .int x :: st) μ Q = if x < y then Ev d 12 52 L st μ Q else Ev d 12 74 L st μ Q := e_icmp_ge (by decide +kernel : decode (bOf 12) 49 = .ok (.if_icmp .ge 25, 3)) (by omega)
theorem x_12_52 : Ev d 12 52 L st μ Q = Ev d 12 53 L (.int (iI 2) :: st) μ Q := e_iconst (by decide +kernel : decode (bOf 12) 52 = .ok (.iconst 2, 1))
theorem x_12_53 : Ev d 12 53 (a0 :: a1 :: a2 :: a3 :: a4 :: .int x :: L) st μ Q = Ev d 12 55 (a0 :: a1 :: a2 :: a3 :: a4 :: .int x :: L) (.int x :: st) μ Q := e_iload (by decide +kernel : decode (bOf 12) 53 = .ok (.iload 5, 2)) rfl
theorem x_12_55 : Ev d 12 55 L (.int y :: .int x :: st) μ Q = Ev d 12 56 L (.int (x * y) :: st) μ Q := e_imul (by decide +kernel : decode (bOf 12) 55 = .ok (.imul, 1))
theorem x_12_56 : Ev d 12 56 (a0 :: .ref r :: L) st μ Q = Ev d 12 57 (a0 :: .ref r :: L) (.ref r :: st) μ Q := e_aload_n (by decide +kernel : decode (bOf 12) 56 = .ok (.aload_n 1, 1)) rfl
theorem x_12_57 : Ev d 12 57 (a0 :: a1 :: a2 :: a3 :: .int x :: L) st μ Q = Ev d 12 59 (a0 :: a1 :: a2 :: a3 :: .int x :: L) (.int x :: st) μ Q := e_iload (by decide +kernel : decode (bOf 12) 57 = .ok (.iload 4, 2)) rfl
theorem x_12_59 : Ev d 12 59 (a0 :: a1 :: a2 :: a3 :: a4 :: a5 :: .int x :: L) st μ Q = Ev d 12 61 (a0 :: a1 :: a2 :: a3 :: a4 :: a5 :: .int x :: L) (.int x :: st) μ Q := e_iload (by decide +kernel : decode (bOf 12) 59 = .ok (.iload 6, 2)) rfl
theorem x_12_61 : Ev d 12 61 L (.int y :: .int x :: st) μ Q = Ev d 12 62 L (.int (x + y) :: st) μ Q := e_iadd (by decide +kernel : decode (bOf 12) 61 = .ok (.iadd, 1))
theorem x_12_62 (h : kd t r = 3) : Ev d 12 62 L [b0, .ref r, s0] (t, V, A, P) Q = Call d 35 [.ref r, b0] (t, V, A, P) (fun v μ1 => Ev d 12 65 L (v.toList ++ [s0]) μ1 Q) := e_callV (a := [b0]) (r := [s0]) (by decide +kernel : decode (bOf 12) 62 = .ok (.invokevirtual 53, 3)) (by decide +kernel) (by decide +kernel) (by decide +kernel) (by omega) rfl (by simp) (by decide +kernel) h
theorem x_12_65 : Ev d 12 65 L (.int y :: .int x :: st) μ Q = Ev d 12 66 L (.int (x + y) :: st) μ Q := e_iadd (by decide +kernel : decode (bOf 12) 65 = .ok (.iadd, 1))
theorem x_12_66 (h : a4.category = 1) : Ev d 12 66 (a0 :: a1 :: a2 :: a3 :: a4 :: a5 :: L) (.int x :: st) μ Q = Ev d 12 68 (a0 :: a1 :: a2 :: a3 :: a4 :: .int x :: L) st μ Q := e_istore (by decide +kernel : decode (bOf 12) 66 = .ok (.istore 5, 2)) (by show stOK _ 5 = true; simp [stOK, h])
theorem x_12_68 (h : a5.category = 1) : Ev d 12 68 (a0 :: a1 :: a2 :: a3 :: a4 :: a5 :: .int x :: L) st μ Q = Ev d 12 71 (a0 :: a1 :: a2 :: a3 :: a4 :: a5 :: .int (x + (iI 1)) :: L) st μ Q := e_iinc (by decide +kernel : decode (bOf 12) 68 = .ok (.iinc 6 1, 3)) rfl (by simp [stOK, h])
theorem x_12_71 : Ev d 12 71 L st μ Q = Ev d 12 45 L st μ Q := e_goto (by decide +kernel : decode (bOf 12) 71 = .ok (.goto (-26), 3)) (by omega)
theorem x_12_74 : Ev d 12 74 (.ref r :: L) st μ Q = Ev d 12 75 (.ref r :: L) (.ref r :: st) μ Q := e_aload_n (by decide +kernel : decode (bOf 12) 74 = .ok (.aload_n 0, 1)) rfl
theorem x_12_75 (h : kd t r = 1) : Ev d 12 75 L (.ref r :: st) (t, V, A, P) Q = Ev d 12 78 L (V r 0 :: st) (t, V, A, P) Q := e_getf (by decide +kernel : decode (bOf 12) 75 = .ok (.getfield 9, 3)) (by decide +kernel) (by decide +kernel) h
theorem x_12_78 : Ev d 12 78 (.ref r :: L) st μ Q = Ev d 12 79 (.ref r :: L) (.ref r :: st) μ Q := e_aload_n (by decide +kernel : decode (bOf 12) 78 = .ok (.aload_n 0, 1)) rfl
theorem x_12_79 (h : kd t r = 1) : Ev d 12 79 L (.ref r :: st) (t, V, A, P) Q = Ev d 12 82 L (V r 5 :: st) (t, V, A, P) Q := e_getf (by decide +kernel : decode (bOf 12) 79 = .ok (.getfield 32, 3)) (by decide +kernel) (by decide +kernel) h
theorem x_12_82 : Ev d 12 82 (a0 :: a1 :: a2 :: a3 :: a4 :: .int x :: L) st μ Q = Ev d 12 84 (a0 :: a1 :: a2 :: a3 :: a4 :: .int x :: L) (.int x :: st) μ Q := e_iload (by decide +kernel : decode (bOf 12) 82 = .ok (.iload 5, 2)) rfl
theorem x_12_84 (h : kd t r = 6) (hi : inB x (ln t r) = true) : Ev d 12 84 L (.int y :: .int x :: .ref r :: st) (t, V, A, P) Q = Ev d 12 85 L st (t, V, up1 A r (upd (A r) x.toNatClampNeg y), P) Q := e_iast (by decide +kernel : decode (bOf 12) 84 = .ok (.iastore, 1)) h hi
theorem x_12_85 : Ev d 12 85 (.ref r :: L) st μ Q = Ev d 12 86 (.ref r :: L) (.ref r :: st) μ Q := e_aload_n (by decide +kernel : decode (bOf 12) 85 = .ok (.aload_n 0, 1)) rfl
theorem x_12_86 : Ev d 12 86 L (.ref r :: st) μ Q = Ev d 12 87 L (.ref r :: .ref r :: st) μ Q := e_dup_a (by decide +kernel : decode (bOf 12) 86 = .ok (.dup, 1))
theorem x_12_87 (h : kd t r = 1) : Ev d 12 87 L (.ref r :: st) (t, V, A, P) Q = Ev d 12 90 L (V r 5 :: st) (t, V, A, P) Q := e_getf (by decide +kernel : decode (bOf 12) 87 = .ok (.getfield 32, 3)) (by decide +kernel) (by decide +kernel) h
theorem x_12_90 : Ev d 12 90 L st μ Q = Ev d 12 91 L (.int (iI 1) :: st) μ Q := e_iconst (by decide +kernel : decode (bOf 12) 90 = .ok (.iconst 1, 1))
theorem x_12_91 : Ev d 12 91 L (.int y :: .int x :: st) μ Q = Ev d 12 92 L (.int (x + y) :: st) μ Q := e_iadd (by decide +kernel : decode (bOf 12) 91 = .ok (.iadd, 1))
theorem x_12_92 (h : kd t r = 1) : Ev d 12 92 L (.int x :: .ref r :: st) (t, V, A, P) Q = Ev d 12 95 L st (t, up1 V r (up1 (V r) 5 (.int x)), A, P) Q := e_putf (by decide +kernel : decode (bOf 12) 92 = .ok (.putfield 32, 3)) (by decide +kernel) (by decide +kernel) rfl h
theorem x_12_95 (h : a3.category = 1) : Ev d 12 95 (a0 :: a1 :: a2 :: a3 :: .int x :: L) st μ Q = Ev d 12 98 (a0 :: a1 :: a2 :: a3 :: .int (x + (iI 6)) :: L) st μ Q := e_iinc (by decide +kernel : decode (bOf 12) 95 = .ok (.iinc 4 6, 3)) rfl (by simp [stOK, h])
theorem x_12_98 : Ev d 12 98 L st μ Q = Ev d 12 18 L st μ Q := e_goto (by decide +kernel : decode (bOf 12) 98 = .ok (.goto (-80), 3)) (by omega)
theorem x_12_101 : Ev d 12 101 L [] μ Q = Q none μ := e_ret (by decide +kernel : decode (bOf 12) 101 = .ok (.return_, 1)) (by decide +kernel)
end Xa
