section Xa
variable {d : Nat} {L st : List Value} {μ : mM} {Q : Option Value → mM → Prop} {t : mL} {V : Nat → Nat → Value} {A : Nat → Nat → Int32} {P : Nat → Nat → Option Nat} {N S : Nat} {K : Nat → Nat × Nat}
variable {a0 a1 a2 a3 a4 a5 a6 a7 a8 a9 a10 a11 a12 b0 b1 b2 b3 s0 s1 s2 s3 : Value} {x y i0 i1 i2 i3 i4 : Int32} {w z : Int64} {r q r0 r1 r2 : Nat}
theorem c_0 : Call (d + 1) 0 [.int i0] μ Q = Ev d 0 0 [.int i0] [] μ Q := call_ev rfl rfl
theorem x_0_0 : Ev d 0 0 (.int x :: L) st μ Q = Ev d 0 1 (.int x :: L) (.int x :: st) μ Q := e_iload_n (by decide +kernel : decode (bOf 0) 0 = .ok (.iload_n 0, 1)) rfl
theorem x_0_1 : Ev d 0 1 L (.int x :: st) μ Q = if x < iI 0 then Ev d 0 14 L st μ Q else Ev d 0 4 L st μ Q := e_if_lt (by decide +kernel : decode (bOf 0) 1 = .ok (.ifCond .lt 13, 3)) (by omega)
theorem x_0_4 : Ev d 0 4 (.int x :: L) st μ Q = Ev d 0 5 (.int x :: L) (.int x :: st) μ Q := e_iload_n (by decide +kernel : decode (bOf 0) 4 = .ok (.iload_n 0, 1)) rfl
theorem x_0_5 : Ev d 0 5 L st μ Q = Ev d 0 7 L (.int (iI 34) :: st) μ Q := e_bipush (by decide +kernel : decode (bOf 0) 5 = .ok (.bipush 34, 2)) (by decide +kernel)
theorem x_0_7 : Ev d 0 7 L (.int y :: .int x :: st) μ Q = if x < y then Ev d 0 10 L st μ Q else Ev d 0 14 L st μ Q := e_icmp_ge (by decide +kernel : decode (bOf 0) 7 = .ok (.if_icmp .ge 7, 3)) (by omega)
theorem x_0_10 : Ev d 0 10 L st μ Q = Ev d 0 11 L (.int (iI 1) :: st) μ Q := e_iconst (by decide +kernel : decode (bOf 0) 10 = .ok (.iconst 1, 1))
theorem x_0_11 : Ev d 0 11 L st μ Q = Ev d 0 15 L st μ Q := e_goto (by decide +kernel : decode (bOf 0) 11 = .ok (.goto 4, 3)) (by omega)
theorem x_0_14 : Ev d 0 14 L st μ Q = Ev d 0 15 L (.int (iI 0) :: st) μ Q := e_iconst (by decide +kernel : decode (bOf 0) 14 = .ok (.iconst 0, 1))
theorem x_0_15 (hx : isB x) : Ev d 0 15 L [.int x] μ Q = Q (some (.int x)) μ := e_zret (by decide +kernel : decode (bOf 0) 15 = .ok (.ireturn, 1)) (by decide +kernel) hx
theorem c_1 : Call (d + 1) 1 [.int i0] μ Q = Ev d 1 0 [.int i0] [] μ Q := call_ev rfl rfl
theorem x_1_0 : Ev d 1 0 (.int x :: L) st μ Q = Ev d 1 1 (.int x :: L) (.int x :: st) μ Q := e_iload_n (by decide +kernel : decode (bOf 1) 0 = .ok (.iload_n 0, 1)) rfl
theorem x_1_1 : Ev d 1 1 L (.int x :: st) μ Q = if x < iI 0 then Ev d 1 20 L st μ Q else Ev d 1 4 L st μ Q := e_if_lt (by decide +kernel : decode (bOf 1) 1 = .ok (.ifCond .lt 19, 3)) (by omega)
theorem x_1_4 : Ev d 1 4 (.int x :: L) st μ Q = Ev d 1 5 (.int x :: L) (.int x :: st) μ Q := e_iload_n (by decide +kernel : decode (bOf 1) 4 = .ok (.iload_n 0, 1)) rfl
theorem x_1_5 : Ev d 1 5 L st μ Q = Ev d 1 8 L (.ref 0 :: st) μ Q := e_gets (by decide +kernel : decode (bOf 1) 5 = .ok (.getstatic 9, 3)) (by decide +kernel)
theorem x_1_8 (h : kd t r = 10) : Ev d 1 8 L (.ref r :: st) (t, V, A, P) Q = Ev d 1 9 L (.int (Int32.ofNat (ln t r)) :: st) (t, V, A, P) Q := e_alen (by decide +kernel : decode (bOf 1) 8 = .ok (.arraylength, 1)) h
theorem x_1_9 : Ev d 1 9 L (.int y :: .int x :: st) μ Q = if x < y then Ev d 1 12 L st μ Q else Ev d 1 20 L st μ Q := e_icmp_ge (by decide +kernel : decode (bOf 1) 9 = .ok (.if_icmp .ge 11, 3)) (by omega)
theorem x_1_12 : Ev d 1 12 L st μ Q = Ev d 1 15 L (.ref 0 :: st) μ Q := e_gets (by decide +kernel : decode (bOf 1) 12 = .ok (.getstatic 9, 3)) (by decide +kernel)
theorem x_1_15 : Ev d 1 15 (.int x :: L) st μ Q = Ev d 1 16 (.int x :: L) (.int x :: st) μ Q := e_iload_n (by decide +kernel : decode (bOf 1) 15 = .ok (.iload_n 0, 1)) rfl
theorem x_1_16 (h : kd t r = 10) (hi : inB x (ln t r) = true) : Ev d 1 16 L (.int x :: .ref r :: st) (t, V, A, P) Q = Ev d 1 17 L (.int (A r x.toNatClampNeg) :: st) (t, V, A, P) Q := e_iald_ro (by decide +kernel : decode (bOf 1) 16 = .ok (.iaload, 1)) h hi
theorem x_1_17 : Ev d 1 17 L st μ Q = Ev d 1 21 L st μ Q := e_goto (by decide +kernel : decode (bOf 1) 17 = .ok (.goto 4, 3)) (by omega)
theorem x_1_20 : Ev d 1 20 L st μ Q = Ev d 1 21 L (.int (iI 0) :: st) μ Q := e_iconst (by decide +kernel : decode (bOf 1) 20 = .ok (.iconst 0, 1))
theorem x_1_21 : Ev d 1 21 L [.int x] μ Q = Q (some (.int x)) μ := e_iret (by decide +kernel : decode (bOf 1) 21 = .ok (.ireturn, 1)) (by decide +kernel)
theorem c_2 : Call (d + 1) 2 [.int i0] μ Q = Ev d 2 0 [.int i0] [] μ Q := call_ev rfl rfl
theorem x_2_0 : Ev d 2 0 (.int x :: L) st μ Q = Ev d 2 1 (.int x :: L) (.int x :: st) μ Q := e_iload_n (by decide +kernel : decode (bOf 2) 0 = .ok (.iload_n 0, 1)) rfl
theorem x_2_1 : Ev d 2 1 L st μ Q = Ev d 2 3 L (.int (iI 18) :: st) μ Q := e_bipush (by decide +kernel : decode (bOf 2) 1 = .ok (.bipush 18, 2)) (by decide +kernel)
theorem x_2_3 : Ev d 2 3 L (.int y :: .int x :: st) μ Q = if x < y then Ev d 2 6 L st μ Q else Ev d 2 13 L st μ Q := e_icmp_ge (by decide +kernel : decode (bOf 2) 3 = .ok (.if_icmp .ge 10, 3)) (by omega)
theorem x_2_6 : Ev d 2 6 (.int x :: L) st μ Q = Ev d 2 7 (.int x :: L) (.int x :: st) μ Q := e_iload_n (by decide +kernel : decode (bOf 2) 6 = .ok (.iload_n 0, 1)) rfl
theorem x_2_7 : Ev d 2 7 L [b0] μ Q = Call d 1 [b0] μ (fun v μ1 => Ev d 2 10 L (v.toList ++ []) μ1 Q) := e_callS (a := [b0]) (r := []) (by decide +kernel : decode (bOf 2) 7 = .ok (.invokestatic 15, 3)) (by decide +kernel) (by decide +kernel) (by omega) rfl (by simp)
theorem x_2_10 : Ev d 2 10 L st μ Q = Ev d 2 20 L st μ Q := e_goto (by decide +kernel : decode (bOf 2) 10 = .ok (.goto 10, 3)) (by omega)
theorem x_2_13 : Ev d 2 13 L st μ Q = Ev d 2 15 L (.int (iI 63) :: st) μ Q := e_bipush (by decide +kernel : decode (bOf 2) 13 = .ok (.bipush 63, 2)) (by decide +kernel)
theorem x_2_15 : Ev d 2 15 (.int x :: L) st μ Q = Ev d 2 16 (.int x :: L) (.int x :: st) μ Q := e_iload_n (by decide +kernel : decode (bOf 2) 15 = .ok (.iload_n 0, 1)) rfl
theorem x_2_16 : Ev d 2 16 L [b0, s0] μ Q = Call d 1 [b0] μ (fun v μ1 => Ev d 2 19 L (v.toList ++ [s0]) μ1 Q) := e_callS (a := [b0]) (r := [s0]) (by decide +kernel : decode (bOf 2) 16 = .ok (.invokestatic 15, 3)) (by decide +kernel) (by decide +kernel) (by omega) rfl (by simp)
theorem x_2_19 : Ev d 2 19 L (.int y :: .int x :: st) μ Q = Ev d 2 20 L (.int (x - y) :: st) μ Q := e_isub (by decide +kernel : decode (bOf 2) 19 = .ok (.isub, 1))
theorem x_2_20 : Ev d 2 20 L [.int x] μ Q = Q (some (.int x)) μ := e_iret (by decide +kernel : decode (bOf 2) 20 = .ok (.ireturn, 1)) (by decide +kernel)
theorem c_3 : Call (d + 1) 3 [.int i0, .int i1] μ Q = Ev d 3 0 [.int i0, .int i1] [] μ Q := call_ev rfl rfl
theorem x_3_0 : Ev d 3 0 (a0 :: .int x :: L) st μ Q = Ev d 3 1 (a0 :: .int x :: L) (.int x :: st) μ Q := e_iload_n (by decide +kernel : decode (bOf 3) 0 = .ok (.iload_n 1, 1)) rfl
theorem x_3_1 : Ev d 3 1 L st μ Q = Ev d 3 2 L (.int (iI 1) :: st) μ Q := e_iconst (by decide +kernel : decode (bOf 3) 1 = .ok (.iconst 1, 1))
theorem x_3_2 : Ev d 3 2 L (.int y :: .int x :: st) μ Q = if x = y then Ev d 3 5 L st μ Q else Ev d 3 12 L st μ Q := e_icmp_ne (by decide +kernel : decode (bOf 3) 2 = .ok (.if_icmp .ne 10, 3)) (by omega)
theorem x_3_5 : Ev d 3 5 (.int x :: L) st μ Q = Ev d 3 6 (.int x :: L) (.int x :: st) μ Q := e_iload_n (by decide +kernel : decode (bOf 3) 5 = .ok (.iload_n 0, 1)) rfl
theorem x_3_6 : Ev d 3 6 L [b0] μ Q = Call d 2 [b0] μ (fun v μ1 => Ev d 3 9 L (v.toList ++ []) μ1 Q) := e_callS (a := [b0]) (r := []) (by decide +kernel : decode (bOf 3) 6 = .ok (.invokestatic 19, 3)) (by decide +kernel) (by decide +kernel) (by omega) rfl (by simp)
theorem x_3_9 : Ev d 3 9 L st μ Q = Ev d 3 16 L st μ Q := e_goto (by decide +kernel : decode (bOf 3) 9 = .ok (.goto 7, 3)) (by omega)
theorem x_3_12 : Ev d 3 12 (.int x :: L) st μ Q = Ev d 3 13 (.int x :: L) (.int x :: st) μ Q := e_iload_n (by decide +kernel : decode (bOf 3) 12 = .ok (.iload_n 0, 1)) rfl
theorem x_3_13 : Ev d 3 13 L [b0] μ Q = Call d 1 [b0] μ (fun v μ1 => Ev d 3 16 L (v.toList ++ []) μ1 Q) := e_callS (a := [b0]) (r := []) (by decide +kernel : decode (bOf 3) 13 = .ok (.invokestatic 15, 3)) (by decide +kernel) (by decide +kernel) (by omega) rfl (by simp)
theorem x_3_16 : Ev d 3 16 L [.int x] μ Q = Q (some (.int x)) μ := e_iret (by decide +kernel : decode (bOf 3) 16 = .ok (.ireturn, 1)) (by decide +kernel)
theorem c_4 : Call (d + 1) 4 [.int i0] μ Q = Ev d 4 0 [.int i0] [] μ Q := call_ev rfl rfl
theorem x_4_0 : Ev d 4 0 (.int x :: L) st μ Q = Ev d 4 1 (.int x :: L) (.int x :: st) μ Q := e_iload_n (by decide +kernel : decode (bOf 4) 0 = .ok (.iload_n 0, 1)) rfl
theorem x_4_1 : Ev d 4 1 L (.int x :: st) μ Q = if x < iI 0 then Ev d 4 20 L st μ Q else Ev d 4 4 L st μ Q := e_if_lt (by decide +kernel : decode (bOf 4) 1 = .ok (.ifCond .lt 19, 3)) (by omega)
theorem x_4_4 : Ev d 4 4 (.int x :: L) st μ Q = Ev d 4 5 (.int x :: L) (.int x :: st) μ Q := e_iload_n (by decide +kernel : decode (bOf 4) 4 = .ok (.iload_n 0, 1)) rfl
theorem x_4_5 : Ev d 4 5 L st μ Q = Ev d 4 8 L (.ref 1 :: st) μ Q := e_gets (by decide +kernel : decode (bOf 4) 5 = .ok (.getstatic 22, 3)) (by decide +kernel)
theorem x_4_8 (h : kd t r = 10) : Ev d 4 8 L (.ref r :: st) (t, V, A, P) Q = Ev d 4 9 L (.int (Int32.ofNat (ln t r)) :: st) (t, V, A, P) Q := e_alen (by decide +kernel : decode (bOf 4) 8 = .ok (.arraylength, 1)) h
theorem x_4_9 : Ev d 4 9 L (.int y :: .int x :: st) μ Q = if x < y then Ev d 4 12 L st μ Q else Ev d 4 20 L st μ Q := e_icmp_ge (by decide +kernel : decode (bOf 4) 9 = .ok (.if_icmp .ge 11, 3)) (by omega)
theorem x_4_12 : Ev d 4 12 L st μ Q = Ev d 4 15 L (.ref 1 :: st) μ Q := e_gets (by decide +kernel : decode (bOf 4) 12 = .ok (.getstatic 22, 3)) (by decide +kernel)
theorem x_4_15 : Ev d 4 15 (.int x :: L) st μ Q = Ev d 4 16 (.int x :: L) (.int x :: st) μ Q := e_iload_n (by decide +kernel : decode (bOf 4) 15 = .ok (.iload_n 0, 1)) rfl
theorem x_4_16 (h : kd t r = 10) (hi : inB x (ln t r) = true) : Ev d 4 16 L (.int x :: .ref r :: st) (t, V, A, P) Q = Ev d 4 17 L (.int (A r x.toNatClampNeg) :: st) (t, V, A, P) Q := e_iald_ro (by decide +kernel : decode (bOf 4) 16 = .ok (.iaload, 1)) h hi
theorem x_4_17 : Ev d 4 17 L st μ Q = Ev d 4 22 L st μ Q := e_goto (by decide +kernel : decode (bOf 4) 17 = .ok (.goto 5, 3)) (by omega)
theorem x_4_20 : Ev d 4 20 L st μ Q = Ev d 4 22 L (.int (iI (-9)) :: st) μ Q := e_bipush (by decide +kernel : decode (bOf 4) 20 = .ok (.bipush (-9), 2)) (by decide +kernel)
theorem x_4_22 : Ev d 4 22 L [.int x] μ Q = Q (some (.int x)) μ := e_iret (by decide +kernel : decode (bOf 4) 22 = .ok (.ireturn, 1)) (by decide +kernel)
theorem c_5 : Call (d + 1) 5 [.int i0, .int i1] μ Q = Ev d 5 0 [.int i0, .int i1, .null] [] μ Q := call_ev rfl rfl
theorem x_5_0 : Ev d 5 0 (.int x :: L) st μ Q = Ev d 5 1 (.int x :: L) (.int x :: st) μ Q := e_iload_n (by decide +kernel : decode (bOf 5) 0 = .ok (.iload_n 0, 1)) rfl
theorem x_5_1 : Ev d 5 1 L [b0] μ Q = Call d 4 [b0] μ (fun v μ1 => Ev d 5 4 L (v.toList ++ []) μ1 Q) := e_callS (a := [b0]) (r := []) (by decide +kernel : decode (bOf 5) 1 = .ok (.invokestatic 25, 3)) (by decide +kernel) (by decide +kernel) (by omega) rfl (by simp)
theorem x_5_4 (h : a1.category = 1) : Ev d 5 4 (a0 :: a1 :: a2 :: L) (.int x :: st) μ Q = Ev d 5 5 (a0 :: a1 :: .int x :: L) st μ Q := e_istore_n (by decide +kernel : decode (bOf 5) 4 = .ok (.istore_n 2, 1)) (by show stOK _ 2 = true; simp [stOK, h])
theorem x_5_5 : Ev d 5 5 (a0 :: a1 :: .int x :: L) st μ Q = Ev d 5 6 (a0 :: a1 :: .int x :: L) (.int x :: st) μ Q := e_iload_n (by decide +kernel : decode (bOf 5) 5 = .ok (.iload_n 2, 1)) rfl
theorem x_5_6 : Ev d 5 6 L st μ Q = Ev d 5 8 L (.int (iI (-9)) :: st) μ Q := e_bipush (by decide +kernel : decode (bOf 5) 6 = .ok (.bipush (-9), 2)) (by decide +kernel)
theorem x_5_8 : Ev d 5 8 L (.int y :: .int x :: st) μ Q = if x = y then Ev d 5 24 L st μ Q else Ev d 5 11 L st μ Q := e_icmp_eq (by decide +kernel : decode (bOf 5) 8 = .ok (.if_icmp .eq 16, 3)) (by omega)
theorem x_5_11 : Ev d 5 11 (a0 :: a1 :: .int x :: L) st μ Q = Ev d 5 12 (a0 :: a1 :: .int x :: L) (.int x :: st) μ Q := e_iload_n (by decide +kernel : decode (bOf 5) 11 = .ok (.iload_n 2, 1)) rfl
theorem x_5_12 : Ev d 5 12 (a0 :: .int x :: L) st μ Q = Ev d 5 13 (a0 :: .int x :: L) (.int x :: st) μ Q := e_iload_n (by decide +kernel : decode (bOf 5) 12 = .ok (.iload_n 1, 1)) rfl
theorem x_5_13 : Ev d 5 13 L [b1, b0] μ Q = Call d 3 [b0, b1] μ (fun v μ1 => Ev d 5 16 L (v.toList ++ []) μ1 Q) := e_callS (a := [b0, b1]) (r := []) (by decide +kernel : decode (bOf 5) 13 = .ok (.invokestatic 28, 3)) (by decide +kernel) (by decide +kernel) (by omega) rfl (by simp)
theorem x_5_16 : Ev d 5 16 (.int x :: L) st μ Q = Ev d 5 17 (.int x :: L) (.int x :: st) μ Q := e_iload_n (by decide +kernel : decode (bOf 5) 16 = .ok (.iload_n 0, 1)) rfl
theorem x_5_17 : Ev d 5 17 L (.int y :: .int x :: st) μ Q = if x = y then Ev d 5 20 L st μ Q else Ev d 5 24 L st μ Q := e_icmp_ne (by decide +kernel : decode (bOf 5) 17 = .ok (.if_icmp .ne 7, 3)) (by omega)
theorem x_5_20 : Ev d 5 20 L st μ Q = Ev d 5 21 L (.int (iI 1) :: st) μ Q := e_iconst (by decide +kernel : decode (bOf 5) 20 = .ok (.iconst 1, 1))
theorem x_5_21 : Ev d 5 21 L st μ Q = Ev d 5 25 L st μ Q := e_goto (by decide +kernel : decode (bOf 5) 21 = .ok (.goto 4, 3)) (by omega)
theorem x_5_24 : Ev d 5 24 L st μ Q = Ev d 5 25 L (.int (iI 0) :: st) μ Q := e_iconst (by decide +kernel : decode (bOf 5) 24 = .ok (.iconst 0, 1))
theorem x_5_25 (hx : isB x) : Ev d 5 25 L [.int x] μ Q = Q (some (.int x)) μ := e_zret (by decide +kernel : decode (bOf 5) 25 = .ok (.ireturn, 1)) (by decide +kernel) hx
theorem c_6 : Call (d + 1) 6 [.int i0, .int i1] μ Q = Ev d 6 0 [.int i0, .int i1, .null] [] μ Q := call_ev rfl rfl
theorem x_6_0 : Ev d 6 0 (.int x :: L) st μ Q = Ev d 6 1 (.int x :: L) (.int x :: st) μ Q := e_iload_n (by decide +kernel : decode (bOf 6) 0 = .ok (.iload_n 0, 1)) rfl
theorem x_6_1 : Ev d 6 1 L [b0] μ Q = Call d 131 [b0] μ (fun v μ1 => Ev d 6 4 L (v.toList ++ []) μ1 Q) := e_callS (a := [b0]) (r := []) (by decide +kernel : decode (bOf 6) 1 = .ok (.invokestatic 32, 3)) (by decide +kernel) (by decide +kernel) (by omega) rfl (by simp)
theorem x_6_4 (h : a1.category = 1) : Ev d 6 4 (a0 :: a1 :: a2 :: L) (.int x :: st) μ Q = Ev d 6 5 (a0 :: a1 :: .int x :: L) st μ Q := e_istore_n (by decide +kernel : decode (bOf 6) 4 = .ok (.istore_n 2, 1)) (by show stOK _ 2 = true; simp [stOK, h])
theorem x_6_5 : Ev d 6 5 (a0 :: a1 :: .int x :: L) st μ Q = Ev d 6 6 (a0 :: a1 :: .int x :: L) (.int x :: st) μ Q := e_iload_n (by decide +kernel : decode (bOf 6) 5 = .ok (.iload_n 2, 1)) rfl
theorem x_6_6 : Ev d 6 6 L st μ Q = Ev d 6 7 L (.int (iI 3) :: st) μ Q := e_iconst (by decide +kernel : decode (bOf 6) 6 = .ok (.iconst 3, 1))
theorem x_6_7 : Ev d 6 7 L (.int y :: .int x :: st) μ Q = if x = y then Ev d 6 10 L st μ Q else Ev d 6 12 L st μ Q := e_icmp_ne (by decide +kernel : decode (bOf 6) 7 = .ok (.if_icmp .ne 5, 3)) (by omega)
theorem x_6_10 : Ev d 6 10 (a0 :: .int x :: L) st μ Q = Ev d 6 11 (a0 :: .int x :: L) (.int x :: st) μ Q := e_iload_n (by decide +kernel : decode (bOf 6) 10 = .ok (.iload_n 1, 1)) rfl
theorem x_6_11 : Ev d 6 11 L [.int x] μ Q = Q (some (.int x)) μ := e_iret (by decide +kernel : decode (bOf 6) 11 = .ok (.ireturn, 1)) (by decide +kernel)
theorem x_6_12 : Ev d 6 12 (a0 :: a1 :: .int x :: L) st μ Q = Ev d 6 13 (a0 :: a1 :: .int x :: L) (.int x :: st) μ Q := e_iload_n (by decide +kernel : decode (bOf 6) 12 = .ok (.iload_n 2, 1)) rfl
theorem x_6_13 : Ev d 6 13 L st μ Q = Ev d 6 14 L (.int (iI 3) :: st) μ Q := e_iconst (by decide +kernel : decode (bOf 6) 13 = .ok (.iconst 3, 1))
theorem x_6_14 : Ev d 6 14 L (.int y :: .int x :: st) μ Q = if y < x then Ev d 6 17 L st μ Q else Ev d 6 21 L st μ Q := e_icmp_le (by decide +kernel : decode (bOf 6) 14 = .ok (.if_icmp .le 7, 3)) (by omega)
theorem x_6_17 : Ev d 6 17 L st μ Q = Ev d 6 18 L (.int (iI 1) :: st) μ Q := e_iconst (by decide +kernel : decode (bOf 6) 17 = .ok (.iconst 1, 1))
theorem x_6_18 : Ev d 6 18 L st μ Q = Ev d 6 22 L st μ Q := e_goto (by decide +kernel : decode (bOf 6) 18 = .ok (.goto 4, 3)) (by omega)
theorem x_6_21 : Ev d 6 21 L st μ Q = Ev d 6 22 L (.int (iI (-1)) :: st) μ Q := e_iconst (by decide +kernel : decode (bOf 6) 21 = .ok (.iconst (-1), 1))
theorem x_6_22 : Ev d 6 22 L [.int x] μ Q = Q (some (.int x)) μ := e_iret (by decide +kernel : decode (bOf 6) 22 = .ok (.ireturn, 1)) (by decide +kernel)
theorem c_7 : Call (d + 1) 7 [.ref r0] μ Q = Ev d 7 0 [.ref r0, .null] [] μ Q := call_ev rfl rfl
theorem x_7_0 : Ev d 7 0 (.ref r :: L) st μ Q = Ev d 7 1 (.ref r :: L) (.ref r :: st) μ Q := e_aload_n (by decide +kernel : decode (bOf 7) 0 = .ok (.aload_n 0, 1)) rfl
theorem x_7_1 : Ev d 7 1 L [.ref r] μ Q = Ev d 7 4 L [] μ Q := e_obj (by decide +kernel : decode (bOf 7) 1 = .ok (.invokespecial 3, 3)) (by decide +kernel) (by decide +kernel) (by simp)
theorem x_7_4 : Ev d 7 4 (.ref r :: L) st μ Q = Ev d 7 5 (.ref r :: L) (.ref r :: st) μ Q := e_aload_n (by decide +kernel : decode (bOf 7) 4 = .ok (.aload_n 0, 1)) rfl
theorem x_7_5 : Ev d 7 5 L st μ Q = Ev d 7 7 L (.int (iI 7) :: st) μ Q := e_bipush (by decide +kernel : decode (bOf 7) 5 = .ok (.bipush 7, 2)) (by decide +kernel)
theorem x_7_7 : Ev d 7 7 L (.int (iI 7) :: st) ((N, S, K), V, A, P) Q = Ev d 7 10 L (.ref N :: st) ((N + 1, S + 7, up1 K N (8, 7)), V, A, up1 P N (fun _ => none)) Q := e_newq 7 (by decide +kernel : decode (bOf 7) 7 = .ok (.anewarray 9, 3)) (by decide +kernel) (by decide +kernel) (by decide +kernel)
theorem x_7_10 (h : kd t r = 0) : Ev d 7 10 L (.ref q :: .ref r :: st) (t, V, A, P) Q = Ev d 7 13 L st (t, up1 V r (up1 (V r) 0 (.ref q)), A, P) Q := e_putf (by decide +kernel : decode (bOf 7) 10 = .ok (.putfield 11, 3)) (by decide +kernel) (by decide +kernel) rfl h
theorem x_7_13 : Ev d 7 13 (.ref r :: L) st μ Q = Ev d 7 14 (.ref r :: L) (.ref r :: st) μ Q := e_aload_n (by decide +kernel : decode (bOf 7) 13 = .ok (.aload_n 0, 1)) rfl
theorem x_7_14 : Ev d 7 14 L st μ Q = Ev d 7 16 L (.int (iI 6) :: st) μ Q := e_bipush (by decide +kernel : decode (bOf 7) 14 = .ok (.bipush 6, 2)) (by decide +kernel)
theorem x_7_16 : Ev d 7 16 L (.int (iI 6) :: st) ((N, S, K), V, A, P) Q = Ev d 7 18 L (.ref N :: st) ((N + 1, S + 6, up1 K N (6, 6)), V, up1 A N (fun _ => 0), P) Q := e_newi 6 (by decide +kernel : decode (bOf 7) 16 = .ok (.newarray .int, 2)) (by decide +kernel) (by decide +kernel)
theorem x_7_18 (h : kd t r = 0) : Ev d 7 18 L (.ref q :: .ref r :: st) (t, V, A, P) Q = Ev d 7 21 L st (t, up1 V r (up1 (V r) 1 (.ref q)), A, P) Q := e_putf (by decide +kernel : decode (bOf 7) 18 = .ok (.putfield 17, 3)) (by decide +kernel) (by decide +kernel) rfl h
theorem x_7_21 : Ev d 7 21 (.ref r :: L) st μ Q = Ev d 7 22 (.ref r :: L) (.ref r :: st) μ Q := e_aload_n (by decide +kernel : decode (bOf 7) 21 = .ok (.aload_n 0, 1)) rfl
theorem x_7_22 : Ev d 7 22 L st μ Q = Ev d 7 24 L (.int (iI 6) :: st) μ Q := e_bipush (by decide +kernel : decode (bOf 7) 22 = .ok (.bipush 6, 2)) (by decide +kernel)
theorem x_7_24 : Ev d 7 24 L (.int (iI 6) :: st) ((N, S, K), V, A, P) Q = Ev d 7 26 L (.ref N :: st) ((N + 1, S + 6, up1 K N (6, 6)), V, up1 A N (fun _ => 0), P) Q := e_newi 6 (by decide +kernel : decode (bOf 7) 24 = .ok (.newarray .int, 2)) (by decide +kernel) (by decide +kernel)
theorem x_7_26 (h : kd t r = 0) : Ev d 7 26 L (.ref q :: .ref r :: st) (t, V, A, P) Q = Ev d 7 29 L st (t, up1 V r (up1 (V r) 2 (.ref q)), A, P) Q := e_putf (by decide +kernel : decode (bOf 7) 26 = .ok (.putfield 21, 3)) (by decide +kernel) (by decide +kernel) rfl h
theorem x_7_29 : Ev d 7 29 (.ref r :: L) st μ Q = Ev d 7 30 (.ref r :: L) (.ref r :: st) μ Q := e_aload_n (by decide +kernel : decode (bOf 7) 29 = .ok (.aload_n 0, 1)) rfl
theorem x_7_30 : Ev d 7 30 L st μ Q = Ev d 7 32 L (.int (iI 6) :: st) μ Q := e_bipush (by decide +kernel : decode (bOf 7) 30 = .ok (.bipush 6, 2)) (by decide +kernel)
theorem x_7_32 : Ev d 7 32 L (.int (iI 6) :: st) ((N, S, K), V, A, P) Q = Ev d 7 34 L (.ref N :: st) ((N + 1, S + 6, up1 K N (6, 6)), V, up1 A N (fun _ => 0), P) Q := e_newi 6 (by decide +kernel : decode (bOf 7) 32 = .ok (.newarray .int, 2)) (by decide +kernel) (by decide +kernel)
theorem x_7_34 (h : kd t r = 0) : Ev d 7 34 L (.ref q :: .ref r :: st) (t, V, A, P) Q = Ev d 7 37 L st (t, up1 V r (up1 (V r) 3 (.ref q)), A, P) Q := e_putf (by decide +kernel : decode (bOf 7) 34 = .ok (.putfield 24, 3)) (by decide +kernel) (by decide +kernel) rfl h
theorem x_7_37 : Ev d 7 37 (.ref r :: L) st μ Q = Ev d 7 38 (.ref r :: L) (.ref r :: st) μ Q := e_aload_n (by decide +kernel : decode (bOf 7) 37 = .ok (.aload_n 0, 1)) rfl
theorem x_7_38 : Ev d 7 38 L st μ Q = Ev d 7 39 L (.int (iI 0) :: st) μ Q := e_iconst (by decide +kernel : decode (bOf 7) 38 = .ok (.iconst 0, 1))
theorem x_7_39 (h : kd t r = 0) : Ev d 7 39 L (.int x :: .ref r :: st) (t, V, A, P) Q = Ev d 7 42 L st (t, up1 V r (up1 (V r) 4 (.int x)), A, P) Q := e_putf (by decide +kernel : decode (bOf 7) 39 = .ok (.putfield 27, 3)) (by decide +kernel) (by decide +kernel) rfl h
theorem x_7_42 : Ev d 7 42 (.ref r :: L) st μ Q = Ev d 7 43 (.ref r :: L) (.ref r :: st) μ Q := e_aload_n (by decide +kernel : decode (bOf 7) 42 = .ok (.aload_n 0, 1)) rfl
theorem x_7_43 : Ev d 7 43 L st μ Q = Ev d 7 44 L (.int (iI 0) :: st) μ Q := e_iconst (by decide +kernel : decode (bOf 7) 43 = .ok (.iconst 0, 1))
theorem x_7_44 (h : kd t r = 0) : Ev d 7 44 L (.int x :: .ref r :: st) (t, V, A, P) Q = Ev d 7 47 L st (t, up1 V r (up1 (V r) 5 (.int x)), A, P) Q := e_putf (by decide +kernel : decode (bOf 7) 44 = .ok (.putfield 31, 3)) (by decide +kernel) (by decide +kernel) rfl h
theorem x_7_47 : Ev d 7 47 L st μ Q = Ev d 7 48 L (.int (iI 0) :: st) μ Q := e_iconst (by decide +kernel : decode (bOf 7) 47 = .ok (.iconst 0, 1))
theorem x_7_48 (h : a0.category = 1) : Ev d 7 48 (a0 :: a1 :: L) (.int x :: st) μ Q = Ev d 7 49 (a0 :: .int x :: L) st μ Q := e_istore_n (by decide +kernel : decode (bOf 7) 48 = .ok (.istore_n 1, 1)) (by show stOK _ 1 = true; simp [stOK, h])
theorem x_7_49 : Ev d 7 49 (a0 :: .int x :: L) st μ Q = Ev d 7 50 (a0 :: .int x :: L) (.int x :: st) μ Q := e_iload_n (by decide +kernel : decode (bOf 7) 49 = .ok (.iload_n 1, 1)) rfl
theorem x_7_50 : Ev d 7 50 L st μ Q = Ev d 7 52 L (.int (iI 6) :: st) μ Q := e_bipush (by decide +kernel : decode (bOf 7) 50 = .ok (.bipush 6, 2)) (by decide +kernel)
theorem x_7_52 : Ev d 7 52 L (.int y :: .int x :: st) μ Q = if y < x then Ev d 7 74 L st μ Q else Ev d 7 55 L st μ Q := e_icmp_gt (by decide +kernel : decode (bOf 7) 52 = .ok (.if_icmp .gt 22, 3)) (by omega)
theorem x_7_55 : Ev d 7 55 (.ref r :: L) st μ Q = Ev d 7 56 (.ref r :: L) (.ref r :: st) μ Q := e_aload_n (by decide +kernel : decode (bOf 7) 55 = .ok (.aload_n 0, 1)) rfl
theorem x_7_56 (h : kd t r = 0) : Ev d 7 56 L (.ref r :: st) (t, V, A, P) Q = Ev d 7 59 L (V r 0 :: st) (t, V, A, P) Q := e_getf (by decide +kernel : decode (bOf 7) 56 = .ok (.getfield 11, 3)) (by decide +kernel) (by decide +kernel) h
theorem x_7_59 : Ev d 7 59 (a0 :: .int x :: L) st μ Q = Ev d 7 60 (a0 :: .int x :: L) (.int x :: st) μ Q := e_iload_n (by decide +kernel : decode (bOf 7) 59 = .ok (.iload_n 1, 1)) rfl
theorem x_7_60 : Ev d 7 60 L st ((N, S, K), V, A, P) Q = Ev d 7 63 L (.ref N :: st) ((N + 1, S + 5, up1 K N (2, 5)), up1 V N (rw' [.int 0, .int 0, .int 0, .int 0, .int 0]), A, P) Q := e_new 5 [.int 0, .int 0, .int 0, .int 0, .int 0] (by decide +kernel : decode (bOf 7) 60 = .ok (.new 9, 3)) (by decide +kernel) (by decide +kernel) (by decide +kernel) (by decide +kernel)
theorem x_7_63 : Ev d 7 63 L (.ref r :: st) μ Q = Ev d 7 64 L (.ref r :: .ref r :: st) μ Q := e_dup_a (by decide +kernel : decode (bOf 7) 63 = .ok (.dup, 1))
theorem x_7_64 : Ev d 7 64 L [.ref r, s0, s1, s2] μ Q = Call d 23 [.ref r] μ (fun v μ1 => Ev d 7 67 L (v.toList ++ [s0, s1, s2]) μ1 Q) := e_callI (a := []) (r := [s0, s1, s2]) (by decide +kernel : decode (bOf 7) 64 = .ok (.invokespecial 34, 3)) (by decide +kernel) (by decide +kernel) (by decide +kernel) (by decide +kernel) (by omega) rfl (by simp)
theorem x_7_67 (h : kd t r = 8) (hv : kd t q = 2) (hi : inB x (ln t r) = true) : Ev d 7 67 L (.ref q :: .int x :: .ref r :: st) (t, V, A, P) Q = Ev d 7 68 L st (t, V, A, up1 P r (up1 (P r) x.toNatClampNeg (some q))) Q := e_aast8 (by decide +kernel : decode (bOf 7) 67 = .ok (.aastore, 1)) h hv hi
theorem x_7_68 (h : a0.category = 1) : Ev d 7 68 (a0 :: .int x :: L) st μ Q = Ev d 7 71 (a0 :: .int (x + (iI 1)) :: L) st μ Q := e_iinc (by decide +kernel : decode (bOf 7) 68 = .ok (.iinc 1 1, 3)) rfl (by simp [stOK, h])
theorem x_7_71 : Ev d 7 71 L st μ Q = Ev d 7 49 L st μ Q := e_goto (by decide +kernel : decode (bOf 7) 71 = .ok (.goto (-22), 3)) (by omega)
theorem x_7_74 : Ev d 7 74 L [] μ Q = Q none μ := e_ret (by decide +kernel : decode (bOf 7) 74 = .ok (.return_, 1)) (by decide +kernel)
theorem c_8 : Call (d + 1) 8 [.ref r0, .ref r1, .int i2] μ Q = Ev d 8 0 [.ref r0, .ref r1, .int i2, .null, .null] [] μ Q := call_ev rfl rfl
theorem x_8_0 : Ev d 8 0 (a0 :: a1 :: .int x :: L) st μ Q = Ev d 8 1 (a0 :: a1 :: .int x :: L) (.int x :: st) μ Q := e_iload_n (by decide +kernel : decode (bOf 8) 0 = .ok (.iload_n 2, 1)) rfl
theorem x_8_1 : Ev d 8 1 L st μ Q = Ev d 8 2 L (.int (iI 1) :: st) μ Q := e_iconst (by decide +kernel : decode (bOf 8) 1 = .ok (.iconst 1, 1))
theorem x_8_2 : Ev d 8 2 L (.int y :: .int x :: st) μ Q = if x < y then Ev d 8 19 L st μ Q else Ev d 8 5 L st μ Q := e_icmp_lt (by decide +kernel : decode (bOf 8) 2 = .ok (.if_icmp .lt 17, 3)) (by omega)
theorem x_8_5 : Ev d 8 5 (a0 :: a1 :: .int x :: L) st μ Q = Ev d 8 6 (a0 :: a1 :: .int x :: L) (.int x :: st) μ Q := e_iload_n (by decide +kernel : decode (bOf 8) 5 = .ok (.iload_n 2, 1)) rfl
theorem x_8_6 : Ev d 8 6 L st μ Q = Ev d 8 8 L (.int (iI 6) :: st) μ Q := e_bipush (by decide +kernel : decode (bOf 8) 6 = .ok (.bipush 6, 2)) (by decide +kernel)
theorem x_8_8 : Ev d 8 8 L (.int y :: .int x :: st) μ Q = if y < x then Ev d 8 19 L st μ Q else Ev d 8 11 L st μ Q := e_icmp_gt (by decide +kernel : decode (bOf 8) 8 = .ok (.if_icmp .gt 11, 3)) (by omega)
theorem x_8_11 : Ev d 8 11 (a0 :: a1 :: .int x :: L) st μ Q = Ev d 8 12 (a0 :: a1 :: .int x :: L) (.int x :: st) μ Q := e_iload_n (by decide +kernel : decode (bOf 8) 11 = .ok (.iload_n 2, 1)) rfl
theorem x_8_12 : Ev d 8 12 (a0 :: .ref r :: L) st μ Q = Ev d 8 13 (a0 :: .ref r :: L) (.ref r :: st) μ Q := e_aload_n (by decide +kernel : decode (bOf 8) 12 = .ok (.aload_n 1, 1)) rfl
theorem x_8_13 (h : kd t r = 3) : Ev d 8 13 L (.ref r :: st) (t, V, A, P) Q = Ev d 8 16 L (V r 3 :: st) (t, V, A, P) Q := e_getf (by decide +kernel : decode (bOf 8) 13 = .ok (.getfield 35, 3)) (by decide +kernel) (by decide +kernel) h
theorem x_8_16 : Ev d 8 16 L (.int y :: .int x :: st) μ Q = if y < x then Ev d 8 19 L st μ Q else Ev d 8 20 L st μ Q := e_icmp_le (by decide +kernel : decode (bOf 8) 16 = .ok (.if_icmp .le 4, 3)) (by omega)
theorem x_8_19 : Ev d 8 19 L [] μ Q = Q none μ := e_ret (by decide +kernel : decode (bOf 8) 19 = .ok (.return_, 1)) (by decide +kernel)
theorem x_8_20 : Ev d 8 20 (a0 :: .ref r :: L) st μ Q = Ev d 8 21 (a0 :: .ref r :: L) (.ref r :: st) μ Q := e_aload_n (by decide +kernel : decode (bOf 8) 20 = .ok (.aload_n 1, 1)) rfl
theorem x_8_21 (h : kd t r = 3) : Ev d 8 21 L (.ref r :: st) (t, V, A, P) Q = Ev d 8 24 L (V r 3 :: st) (t, V, A, P) Q := e_getf (by decide +kernel : decode (bOf 8) 21 = .ok (.getfield 35, 3)) (by decide +kernel) (by decide +kernel) h
theorem x_8_24 : Ev d 8 24 (a0 :: a1 :: .int x :: L) st μ Q = Ev d 8 25 (a0 :: a1 :: .int x :: L) (.int x :: st) μ Q := e_iload_n (by decide +kernel : decode (bOf 8) 24 = .ok (.iload_n 2, 1)) rfl
theorem x_8_25 : Ev d 8 25 L (.int y :: .int x :: st) μ Q = Ev d 8 26 L (.int (x - y) :: st) μ Q := e_isub (by decide +kernel : decode (bOf 8) 25 = .ok (.isub, 1))
theorem x_8_26 (h : a2.category = 1) : Ev d 8 26 (a0 :: a1 :: a2 :: a3 :: L) (.int x :: st) μ Q = Ev d 8 27 (a0 :: a1 :: a2 :: .int x :: L) st μ Q := e_istore_n (by decide +kernel : decode (bOf 8) 26 = .ok (.istore_n 3, 1)) (by show stOK _ 3 = true; simp [stOK, h])
theorem x_8_27 : Ev d 8 27 (.ref r :: L) st μ Q = Ev d 8 28 (.ref r :: L) (.ref r :: st) μ Q := e_aload_n (by decide +kernel : decode (bOf 8) 27 = .ok (.aload_n 0, 1)) rfl
theorem x_8_28 : Ev d 8 28 (a0 :: a1 :: .int x :: L) st μ Q = Ev d 8 29 (a0 :: a1 :: .int x :: L) (.int x :: st) μ Q := e_iload_n (by decide +kernel : decode (bOf 8) 28 = .ok (.iload_n 2, 1)) rfl
theorem x_8_29 (h : kd t r = 0) : Ev d 8 29 L (.int x :: .ref r :: st) (t, V, A, P) Q = Ev d 8 32 L st (t, up1 V r (up1 (V r) 4 (.int x)), A, P) Q := e_putf (by decide +kernel : decode (bOf 8) 29 = .ok (.putfield 27, 3)) (by decide +kernel) (by decide +kernel) rfl h
theorem x_8_32 : Ev d 8 32 (.ref r :: L) st μ Q = Ev d 8 33 (.ref r :: L) (.ref r :: st) μ Q := e_aload_n (by decide +kernel : decode (bOf 8) 32 = .ok (.aload_n 0, 1)) rfl
theorem x_8_33 : Ev d 8 33 L st μ Q = Ev d 8 36 L (.int (iI 1000) :: st) μ Q := e_sipush (by decide +kernel : decode (bOf 8) 33 = .ok (.sipush 1000, 3)) (by decide +kernel)
theorem x_8_36 (h : kd t r = 0) : Ev d 8 36 L (.int x :: .ref r :: st) (t, V, A, P) Q = Ev d 8 39 L st (t, up1 V r (up1 (V r) 5 (.int x)), A, P) Q := e_putf (by decide +kernel : decode (bOf 8) 36 = .ok (.putfield 31, 3)) (by decide +kernel) (by decide +kernel) rfl h
theorem x_8_39 : Ev d 8 39 (.ref r :: L) st μ Q = Ev d 8 40 (.ref r :: L) (.ref r :: st) μ Q := e_aload_n (by decide +kernel : decode (bOf 8) 39 = .ok (.aload_n 0, 1)) rfl
theorem x_8_40 : Ev d 8 40 (a0 :: .ref r :: L) st μ Q = Ev d 8 41 (a0 :: .ref r :: L) (.ref r :: st) μ Q := e_aload_n (by decide +kernel : decode (bOf 8) 40 = .ok (.aload_n 1, 1)) rfl
theorem x_8_41 : Ev d 8 41 (a0 :: a1 :: a2 :: .int x :: L) st μ Q = Ev d 8 42 (a0 :: a1 :: a2 :: .int x :: L) (.int x :: st) μ Q := e_iload_n (by decide +kernel : decode (bOf 8) 41 = .ok (.iload_n 3, 1)) rfl
theorem x_8_42 (h : kd t r = 0) : Ev d 8 42 L [b1, b0, .ref r] (t, V, A, P) Q = Call d 9 [.ref r, b0, b1] (t, V, A, P) (fun v μ1 => Ev d 8 45 L (v.toList ++ []) μ1 Q) := e_callV (a := [b0, b1]) (r := []) (by decide +kernel : decode (bOf 8) 42 = .ok (.invokevirtual 40, 3)) (by decide +kernel) (by decide +kernel) (by decide +kernel) (by omega) rfl (by simp) (by decide +kernel) h
theorem x_8_45 : Ev d 8 45 L st μ Q = Ev d 8 46 L (.int (iI 0) :: st) μ Q := e_iconst (by decide +kernel : decode (bOf 8) 45 = .ok (.iconst 0, 1))
theorem x_8_46 (h : a3.category = 1) : Ev d 8 46 (a0 :: a1 :: a2 :: a3 :: a4 :: L) (.int x :: st) μ Q = Ev d 8 48 (a0 :: a1 :: a2 :: a3 :: .int x :: L) st μ Q := e_istore (by decide +kernel : decode (bOf 8) 46 = .ok (.istore 4, 2)) (by show stOK _ 4 = true; simp [stOK, h])
theorem x_8_48 : Ev d 8 48 (a0 :: a1 :: a2 :: a3 :: .int x :: L) st μ Q = Ev d 8 50 (a0 :: a1 :: a2 :: a3 :: .int x :: L) (.int x :: st) μ Q := e_iload (by decide +kernel : decode (bOf 8) 48 = .ok (.iload 4, 2)) rfl
theorem x_8_50 : Ev d 8 50 (a0 :: a1 :: .int x :: L) st μ Q = Ev d 8 51 (a0 :: a1 :: .int x :: L) (.int x :: st) μ Q := e_iload_n (by decide +kernel : decode (bOf 8) 50 = .ok (.iload_n 2, 1)) rfl
theorem x_8_51 : Ev d 8 51 L (.int y :: .int x :: st) μ Q = if x < y then Ev d 8 54 L st μ Q else Ev d 8 85 L st μ Q := e_icmp_ge (by decide +kernel : decode (bOf 8) 51 = .ok (.if_icmp .ge 34, 3)) (by omega)
theorem x_8_54 : Ev d 8 54 (a0 :: a1 :: a2 :: .int x :: L) st μ Q = Ev d 8 55 (a0 :: a1 :: a2 :: .int x :: L) (.int x :: st) μ Q := e_iload_n (by decide +kernel : decode (bOf 8) 54 = .ok (.iload_n 3, 1)) rfl
theorem x_8_55 : Ev d 8 55 (a0 :: a1 :: a2 :: a3 :: .int x :: L) st μ Q = Ev d 8 57 (a0 :: a1 :: a2 :: a3 :: .int x :: L) (.int x :: st) μ Q := e_iload (by decide +kernel : decode (bOf 8) 55 = .ok (.iload 4, 2)) rfl
theorem x_8_57 : Ev d 8 57 L (.int y :: .int x :: st) μ Q = Ev d 8 58 L (.int (x + y) :: st) μ Q := e_iadd (by decide +kernel : decode (bOf 8) 57 = .ok (.iadd, 1))
theorem x_8_58 : Ev d 8 58 L st μ Q = Ev d 8 60 L (.int (iI 32) :: st) μ Q := e_bipush (by decide +kernel : decode (bOf 8) 58 = .ok (.bipush 32, 2)) (by decide +kernel)
theorem x_8_60 : Ev d 8 60 L (.int y :: .int x :: st) μ Q = if x < y then Ev d 8 63 L st μ Q else Ev d 8 85 L st μ Q := e_icmp_ge (by decide +kernel : decode (bOf 8) 60 = .ok (.if_icmp .ge 25, 3)) (by omega)
theorem x_8_63 : Ev d 8 63 (.ref r :: L) st μ Q = Ev d 8 64 (.ref r :: L) (.ref r :: st) μ Q := e_aload_n (by decide +kernel : decode (bOf 8) 63 = .ok (.aload_n 0, 1)) rfl
theorem x_8_64 (h : kd t r = 0) : Ev d 8 64 L (.ref r :: st) (t, V, A, P) Q = Ev d 8 67 L (V r 1 :: st) (t, V, A, P) Q := e_getf (by decide +kernel : decode (bOf 8) 64 = .ok (.getfield 17, 3)) (by decide +kernel) (by decide +kernel) h
theorem x_8_67 : Ev d 8 67 (a0 :: a1 :: a2 :: a3 :: .int x :: L) st μ Q = Ev d 8 69 (a0 :: a1 :: a2 :: a3 :: .int x :: L) (.int x :: st) μ Q := e_iload (by decide +kernel : decode (bOf 8) 67 = .ok (.iload 4, 2)) rfl
theorem x_8_69 : Ev d 8 69 (a0 :: .ref r :: L) st μ Q = Ev d 8 70 (a0 :: .ref r :: L) (.ref r :: st) μ Q := e_aload_n (by decide +kernel : decode (bOf 8) 69 = .ok (.aload_n 1, 1)) rfl
theorem x_8_70 (h : kd t r = 3) : Ev d 8 70 L (.ref r :: st) (t, V, A, P) Q = Ev d 8 73 L (V r 0 :: st) (t, V, A, P) Q := e_getf (by decide +kernel : decode (bOf 8) 70 = .ok (.getfield 44, 3)) (by decide +kernel) (by decide +kernel) h
theorem x_8_73 : Ev d 8 73 (a0 :: a1 :: a2 :: .int x :: L) st μ Q = Ev d 8 74 (a0 :: a1 :: a2 :: .int x :: L) (.int x :: st) μ Q := e_iload_n (by decide +kernel : decode (bOf 8) 73 = .ok (.iload_n 3, 1)) rfl
theorem x_8_74 : Ev d 8 74 (a0 :: a1 :: a2 :: a3 :: .int x :: L) st μ Q = Ev d 8 76 (a0 :: a1 :: a2 :: a3 :: .int x :: L) (.int x :: st) μ Q := e_iload (by decide +kernel : decode (bOf 8) 74 = .ok (.iload 4, 2)) rfl
theorem x_8_76 : Ev d 8 76 L (.int y :: .int x :: st) μ Q = Ev d 8 77 L (.int (x + y) :: st) μ Q := e_iadd (by decide +kernel : decode (bOf 8) 76 = .ok (.iadd, 1))
theorem x_8_77 (h : kd t r = 6) (hi : inB x (ln t r) = true) : Ev d 8 77 L (.int x :: .ref r :: st) (t, V, A, P) Q = Ev d 8 78 L (.int (A r x.toNatClampNeg) :: st) (t, V, A, P) Q := e_iald (by decide +kernel : decode (bOf 8) 77 = .ok (.iaload, 1)) h hi
theorem x_8_78 (h : kd t r = 6) (hi : inB x (ln t r) = true) : Ev d 8 78 L (.int y :: .int x :: .ref r :: st) (t, V, A, P) Q = Ev d 8 79 L st (t, V, up1 A r (upd (A r) x.toNatClampNeg y), P) Q := e_iast (by decide +kernel : decode (bOf 8) 78 = .ok (.iastore, 1)) h hi
theorem x_8_79 (h : a3.category = 1) : Ev d 8 79 (a0 :: a1 :: a2 :: a3 :: .int x :: L) st μ Q = Ev d 8 82 (a0 :: a1 :: a2 :: a3 :: .int (x + (iI 1)) :: L) st μ Q := e_iinc (by decide +kernel : decode (bOf 8) 79 = .ok (.iinc 4 1, 3)) rfl (by simp [stOK, h])
theorem x_8_82 : Ev d 8 82 L st μ Q = Ev d 8 48 L st μ Q := e_goto (by decide +kernel : decode (bOf 8) 82 = .ok (.goto (-34), 3)) (by omega)
theorem x_8_85 : Ev d 8 85 (.ref r :: L) st μ Q = Ev d 8 86 (.ref r :: L) (.ref r :: st) μ Q := e_aload_n (by decide +kernel : decode (bOf 8) 85 = .ok (.aload_n 0, 1)) rfl
theorem x_8_86 : Ev d 8 86 L st μ Q = Ev d 8 87 L (.int (iI 0) :: st) μ Q := e_iconst (by decide +kernel : decode (bOf 8) 86 = .ok (.iconst 0, 1))
theorem x_8_87 : Ev d 8 87 L st μ Q = Ev d 8 88 L (.int (iI 0) :: st) μ Q := e_iconst (by decide +kernel : decode (bOf 8) 87 = .ok (.iconst 0, 1))
theorem x_8_88 : Ev d 8 88 L [b2, b1, b0] μ Q = Call d 11 [b0, b1, b2] μ (fun v μ1 => Ev d 8 91 L (v.toList ++ []) μ1 Q) := e_callS (a := [b0, b1, b2]) (r := []) (by decide +kernel : decode (bOf 8) 88 = .ok (.invokestatic 45, 3)) (by decide +kernel) (by decide +kernel) (by omega) rfl (by simp)
theorem x_8_91 : Ev d 8 91 L [] μ Q = Q none μ := e_ret (by decide +kernel : decode (bOf 8) 91 = .ok (.return_, 1)) (by decide +kernel)
theorem c_9 : Call (d + 1) 9 [.ref r0, .ref r1, .int i2] μ Q = Ev d 9 0 [.ref r0, .ref r1, .int i2, .null, .null] [] μ Q := call_ev rfl rfl
theorem x_9_0 : Ev d 9 0 (.ref r :: L) st μ Q = Ev d 9 1 (.ref r :: L) (.ref r :: st) μ Q := e_aload_n (by decide +kernel : decode (bOf 9) 0 = .ok (.aload_n 0, 1)) rfl
theorem x_9_1 (h : kd t r = 0) : Ev d 9 1 L (.ref r :: st) (t, V, A, P) Q = Ev d 9 4 L (V r 0 :: st) (t, V, A, P) Q := e_getf (by decide +kernel : decode (bOf 9) 1 = .ok (.getfield 11, 3)) (by decide +kernel) (by decide +kernel) h
theorem x_9_4 : Ev d 9 4 L st μ Q = Ev d 9 5 L (.int (iI 0) :: st) μ Q := e_iconst (by decide +kernel : decode (bOf 9) 4 = .ok (.iconst 0, 1))
theorem x_9_5 (h : kd t r = 8) (hi : inB x (ln t r) = true) : Ev d 9 5 L (.int x :: .ref r :: st) (t, V, A, P) Q = Ev d 9 6 L (va_rf (P r x.toNatClampNeg) :: st) (t, V, A, P) Q := e_aald 8 (by omega) (by decide +kernel : decode (bOf 9) 5 = .ok (.aaload, 1)) h hi
theorem x_9_6 (h : a2.category = 1) : Ev d 9 6 (a0 :: a1 :: a2 :: a3 :: L) (.ref r :: st) μ Q = Ev d 9 7 (a0 :: a1 :: a2 :: .ref r :: L) st μ Q := e_astore_n (by decide +kernel : decode (bOf 9) 6 = .ok (.astore_n 3, 1)) (by show stOK _ 3 = true; simp [stOK, h])
theorem x_9_7 : Ev d 9 7 (a0 :: a1 :: a2 :: .ref r :: L) st μ Q = Ev d 9 8 (a0 :: a1 :: a2 :: .ref r :: L) (.ref r :: st) μ Q := e_aload_n (by decide +kernel : decode (bOf 9) 7 = .ok (.aload_n 3, 1)) rfl
theorem x_9_8 : Ev d 9 8 L (.ref r :: st) μ Q = Ev d 9 12 L st μ Q := e_ifnonnull (by decide +kernel : decode (bOf 9) 8 = .ok (.ifnonnull 4, 3)) (by omega)
theorem x_9_11 : Ev d 9 11 L [] μ Q = Q none μ := e_ret (by decide +kernel : decode (bOf 9) 11 = .ok (.return_, 1)) (by decide +kernel)
theorem x_9_12 : Ev d 9 12 (a0 :: a1 :: a2 :: .ref r :: L) st μ Q = Ev d 9 13 (a0 :: a1 :: a2 :: .ref r :: L) (.ref r :: st) μ Q := e_aload_n (by decide +kernel : decode (bOf 9) 12 = .ok (.aload_n 3, 1)) rfl
theorem x_9_13 : Ev d 9 13 L st μ Q = Ev d 9 14 L (.int (iI (-1)) :: st) μ Q := e_iconst (by decide +kernel : decode (bOf 9) 13 = .ok (.iconst (-1), 1))
theorem x_9_14 (h : kd t r = 2) : Ev d 9 14 L [b0, .ref r] (t, V, A, P) Q = Call d 24 [.ref r, b0] (t, V, A, P) (fun v μ1 => Ev d 9 17 L (v.toList ++ []) μ1 Q) := e_callV (a := [b0]) (r := []) (by decide +kernel : decode (bOf 9) 14 = .ok (.invokevirtual 49, 3)) (by decide +kernel) (by decide +kernel) (by decide +kernel) (by omega) rfl (by simp) (by decide +kernel) h
theorem x_9_17 : Ev d 9 17 L st μ Q = Ev d 9 18 L (.int (iI 0) :: st) μ Q := e_iconst (by decide +kernel : decode (bOf 9) 17 = .ok (.iconst 0, 1))
theorem x_9_18 (h : a3.category = 1) : Ev d 9 18 (a0 :: a1 :: a2 :: a3 :: a4 :: L) (.int x :: st) μ Q = Ev d 9 20 (a0 :: a1 :: a2 :: a3 :: .int x :: L) st μ Q := e_istore (by decide +kernel : decode (bOf 9) 18 = .ok (.istore 4, 2)) (by show stOK _ 4 = true; simp [stOK, h])
theorem x_9_20 : Ev d 9 20 (a0 :: a1 :: a2 :: a3 :: .int x :: L) st μ Q = Ev d 9 22 (a0 :: a1 :: a2 :: a3 :: .int x :: L) (.int x :: st) μ Q := e_iload (by decide +kernel : decode (bOf 9) 20 = .ok (.iload 4, 2)) rfl
theorem x_9_22 : Ev d 9 22 (a0 :: a1 :: .int x :: L) st μ Q = Ev d 9 23 (a0 :: a1 :: .int x :: L) (.int x :: st) μ Q := e_iload_n (by decide +kernel : decode (bOf 9) 22 = .ok (.iload_n 2, 1)) rfl
theorem x_9_23 : Ev d 9 23 L (.int y :: .int x :: st) μ Q = if x < y then Ev d 9 26 L st μ Q else Ev d 9 51 L st μ Q := e_icmp_ge (by decide +kernel : decode (bOf 9) 23 = .ok (.if_icmp .ge 28, 3)) (by omega)
theorem x_9_26 : Ev d 9 26 (a0 :: a1 :: a2 :: a3 :: .int x :: L) st μ Q = Ev d 9 28 (a0 :: a1 :: a2 :: a3 :: .int x :: L) (.int x :: st) μ Q := e_iload (by decide +kernel : decode (bOf 9) 26 = .ok (.iload 4, 2)) rfl
theorem x_9_28 : Ev d 9 28 L st μ Q = Ev d 9 30 L (.int (iI 32) :: st) μ Q := e_bipush (by decide +kernel : decode (bOf 9) 28 = .ok (.bipush 32, 2)) (by decide +kernel)
theorem x_9_30 : Ev d 9 30 L (.int y :: .int x :: st) μ Q = if x < y then Ev d 9 33 L st μ Q else Ev d 9 51 L st μ Q := e_icmp_ge (by decide +kernel : decode (bOf 9) 30 = .ok (.if_icmp .ge 21, 3)) (by omega)
theorem x_9_33 : Ev d 9 33 (a0 :: a1 :: a2 :: .ref r :: L) st μ Q = Ev d 9 34 (a0 :: a1 :: a2 :: .ref r :: L) (.ref r :: st) μ Q := e_aload_n (by decide +kernel : decode (bOf 9) 33 = .ok (.aload_n 3, 1)) rfl
theorem x_9_34 : Ev d 9 34 (a0 :: .ref r :: L) st μ Q = Ev d 9 35 (a0 :: .ref r :: L) (.ref r :: st) μ Q := e_aload_n (by decide +kernel : decode (bOf 9) 34 = .ok (.aload_n 1, 1)) rfl
theorem x_9_35 (h : kd t r = 3) : Ev d 9 35 L (.ref r :: st) (t, V, A, P) Q = Ev d 9 38 L (V r 1 :: st) (t, V, A, P) Q := e_getf (by decide +kernel : decode (bOf 9) 35 = .ok (.getfield 53, 3)) (by decide +kernel) (by decide +kernel) h
theorem x_9_38 : Ev d 9 38 (a0 :: a1 :: a2 :: a3 :: .int x :: L) st μ Q = Ev d 9 40 (a0 :: a1 :: a2 :: a3 :: .int x :: L) (.int x :: st) μ Q := e_iload (by decide +kernel : decode (bOf 9) 38 = .ok (.iload 4, 2)) rfl
theorem x_9_40 (h : kd t r = 6) (hi : inB x (ln t r) = true) : Ev d 9 40 L (.int x :: .ref r :: st) (t, V, A, P) Q = Ev d 9 41 L (.int (A r x.toNatClampNeg) :: st) (t, V, A, P) Q := e_iald (by decide +kernel : decode (bOf 9) 40 = .ok (.iaload, 1)) h hi
theorem x_9_41 (h : kd t r = 2) : Ev d 9 41 L [b0, .ref r] (t, V, A, P) Q = Call d 27 [.ref r, b0] (t, V, A, P) (fun v μ1 => Ev d 9 44 L (v.toList ++ []) μ1 Q) := e_callV (a := [b0]) (r := []) (by decide +kernel : decode (bOf 9) 41 = .ok (.invokevirtual 56, 3)) (by decide +kernel) (by decide +kernel) (by decide +kernel) (by omega) rfl (by simp) (by decide +kernel) h
theorem x_9_44 : Ev d 9 44 L (.int x :: st) μ Q = Ev d 9 45 L st μ Q := e_pop (by decide +kernel : decode (bOf 9) 44 = .ok (.pop, 1))
theorem x_9_45 (h : a3.category = 1) : Ev d 9 45 (a0 :: a1 :: a2 :: a3 :: .int x :: L) st μ Q = Ev d 9 48 (a0 :: a1 :: a2 :: a3 :: .int (x + (iI 1)) :: L) st μ Q := e_iinc (by decide +kernel : decode (bOf 9) 45 = .ok (.iinc 4 1, 3)) rfl (by simp [stOK, h])
theorem x_9_48 : Ev d 9 48 L st μ Q = Ev d 9 20 L st μ Q := e_goto (by decide +kernel : decode (bOf 9) 48 = .ok (.goto (-28), 3)) (by omega)
theorem x_9_51 : Ev d 9 51 L [] μ Q = Q none μ := e_ret (by decide +kernel : decode (bOf 9) 51 = .ok (.return_, 1)) (by decide +kernel)
theorem c_10 : Call (d + 1) 10 [.ref r0, .int i1] μ Q = Ev d 10 0 [.ref r0, .int i1] [] μ Q := call_ev rfl rfl
theorem x_10_0 : Ev d 10 0 (a0 :: .int x :: L) st μ Q = Ev d 10 1 (a0 :: .int x :: L) (.int x :: st) μ Q := e_iload_n (by decide +kernel : decode (bOf 10) 0 = .ok (.iload_n 1, 1)) rfl
theorem x_10_1 : Ev d 10 1 L (.int x :: st) μ Q = if x < iI 0 then Ev d 10 27 L st μ Q else Ev d 10 4 L st μ Q := e_if_lt (by decide +kernel : decode (bOf 10) 1 = .ok (.ifCond .lt 26, 3)) (by omega)
theorem x_10_4 : Ev d 10 4 (a0 :: .int x :: L) st μ Q = Ev d 10 5 (a0 :: .int x :: L) (.int x :: st) μ Q := e_iload_n (by decide +kernel : decode (bOf 10) 4 = .ok (.iload_n 1, 1)) rfl
theorem x_10_5 : Ev d 10 5 (.ref r :: L) st μ Q = Ev d 10 6 (.ref r :: L) (.ref r :: st) μ Q := e_aload_n (by decide +kernel : decode (bOf 10) 5 = .ok (.aload_n 0, 1)) rfl
theorem x_10_6 (h : kd t r = 0) : Ev d 10 6 L (.ref r :: st) (t, V, A, P) Q = Ev d 10 9 L (V r 4 :: st) (t, V, A, P) Q := e_getf (by decide +kernel : decode (bOf 10) 6 = .ok (.getfield 27, 3)) (by decide +kernel) (by decide +kernel) h
theorem x_10_9 : Ev d 10 9 L (.int y :: .int x :: st) μ Q = if x < y then Ev d 10 12 L st μ Q else Ev d 10 27 L st μ Q := e_icmp_ge (by decide +kernel : decode (bOf 10) 9 = .ok (.if_icmp .ge 18, 3)) (by omega)
theorem x_10_12 : Ev d 10 12 (a0 :: .int x :: L) st μ Q = Ev d 10 13 (a0 :: .int x :: L) (.int x :: st) μ Q := e_iload_n (by decide +kernel : decode (bOf 10) 12 = .ok (.iload_n 1, 1)) rfl
theorem x_10_13 : Ev d 10 13 L st μ Q = Ev d 10 15 L (.int (iI 6) :: st) μ Q := e_bipush (by decide +kernel : decode (bOf 10) 13 = .ok (.bipush 6, 2)) (by decide +kernel)
theorem x_10_15 : Ev d 10 15 L (.int y :: .int x :: st) μ Q = if x < y then Ev d 10 18 L st μ Q else Ev d 10 27 L st μ Q := e_icmp_ge (by decide +kernel : decode (bOf 10) 15 = .ok (.if_icmp .ge 12, 3)) (by omega)
theorem x_10_18 : Ev d 10 18 (.ref r :: L) st μ Q = Ev d 10 19 (.ref r :: L) (.ref r :: st) μ Q := e_aload_n (by decide +kernel : decode (bOf 10) 18 = .ok (.aload_n 0, 1)) rfl
theorem x_10_19 (h : kd t r = 0) : Ev d 10 19 L (.ref r :: st) (t, V, A, P) Q = Ev d 10 22 L (V r 3 :: st) (t, V, A, P) Q := e_getf (by decide +kernel : decode (bOf 10) 19 = .ok (.getfield 24, 3)) (by decide +kernel) (by decide +kernel) h
theorem x_10_22 : Ev d 10 22 (a0 :: .int x :: L) st μ Q = Ev d 10 23 (a0 :: .int x :: L) (.int x :: st) μ Q := e_iload_n (by decide +kernel : decode (bOf 10) 22 = .ok (.iload_n 1, 1)) rfl
theorem x_10_23 (h : kd t r = 6) (hi : inB x (ln t r) = true) : Ev d 10 23 L (.int x :: .ref r :: st) (t, V, A, P) Q = Ev d 10 24 L (.int (A r x.toNatClampNeg) :: st) (t, V, A, P) Q := e_iald (by decide +kernel : decode (bOf 10) 23 = .ok (.iaload, 1)) h hi
theorem x_10_24 : Ev d 10 24 L st μ Q = Ev d 10 29 L st μ Q := e_goto (by decide +kernel : decode (bOf 10) 24 = .ok (.goto 5, 3)) (by omega)
theorem x_10_27 : Ev d 10 27 L st μ Q = Ev d 10 29 L (.int (iI (-9)) :: st) μ Q := e_bipush (by decide +kernel : decode (bOf 10) 27 = .ok (.bipush (-9), 2)) (by decide +kernel)
theorem x_10_29 : Ev d 10 29 L [.int x] μ Q = Q (some (.int x)) μ := e_iret (by decide +kernel : decode (bOf 10) 29 = .ok (.ireturn, 1)) (by decide +kernel)
theorem c_11 : Call (d + 1) 11 [.ref r0, .int i1, .int i2] μ Q = Ev d 11 0 [.ref r0, .int i1, .int i2, .null, .null, .null] [] μ Q := call_ev rfl rfl
theorem x_11_0 : Ev d 11 0 (a0 :: .int x :: L) st μ Q = Ev d 11 1 (a0 :: .int x :: L) (.int x :: st) μ Q := e_iload_n (by decide +kernel : decode (bOf 11) 0 = .ok (.iload_n 1, 1)) rfl
theorem x_11_1 : Ev d 11 1 L (.int x :: st) μ Q = if x < iI 0 then Ev d 11 10 L st μ Q else Ev d 11 4 L st μ Q := e_if_lt (by decide +kernel : decode (bOf 11) 1 = .ok (.ifCond .lt 9, 3)) (by omega)
theorem x_11_4 : Ev d 11 4 (a0 :: .int x :: L) st μ Q = Ev d 11 5 (a0 :: .int x :: L) (.int x :: st) μ Q := e_iload_n (by decide +kernel : decode (bOf 11) 4 = .ok (.iload_n 1, 1)) rfl
theorem x_11_5 : Ev d 11 5 L st μ Q = Ev d 11 7 L (.int (iI 6) :: st) μ Q := e_bipush (by decide +kernel : decode (bOf 11) 5 = .ok (.bipush 6, 2)) (by decide +kernel)
theorem x_11_7 : Ev d 11 7 L (.int y :: .int x :: st) μ Q = if y < x then Ev d 11 10 L st μ Q else Ev d 11 11 L st μ Q := e_icmp_le (by decide +kernel : decode (bOf 11) 7 = .ok (.if_icmp .le 4, 3)) (by omega)
theorem x_11_10 : Ev d 11 10 L [] μ Q = Q none μ := e_ret (by decide +kernel : decode (bOf 11) 10 = .ok (.return_, 1)) (by decide +kernel)
theorem x_11_11 : Ev d 11 11 (.ref r :: L) st μ Q = Ev d 11 12 (.ref r :: L) (.ref r :: st) μ Q := e_aload_n (by decide +kernel : decode (bOf 11) 11 = .ok (.aload_n 0, 1)) rfl
theorem x_11_12 (h : kd t r = 0) : Ev d 11 12 L (.ref r :: st) (t, V, A, P) Q = Ev d 11 15 L (V r 0 :: st) (t, V, A, P) Q := e_getf (by decide +kernel : decode (bOf 11) 12 = .ok (.getfield 11, 3)) (by decide +kernel) (by decide +kernel) h
theorem x_11_15 : Ev d 11 15 (a0 :: .int x :: L) st μ Q = Ev d 11 16 (a0 :: .int x :: L) (.int x :: st) μ Q := e_iload_n (by decide +kernel : decode (bOf 11) 15 = .ok (.iload_n 1, 1)) rfl
theorem x_11_16 (h : kd t r = 8) (hi : inB x (ln t r) = true) : Ev d 11 16 L (.int x :: .ref r :: st) (t, V, A, P) Q = Ev d 11 17 L (va_rf (P r x.toNatClampNeg) :: st) (t, V, A, P) Q := e_aald 8 (by omega) (by decide +kernel : decode (bOf 11) 16 = .ok (.aaload, 1)) h hi
theorem x_11_17 (h : a2.category = 1) : Ev d 11 17 (a0 :: a1 :: a2 :: a3 :: L) (.ref r :: st) μ Q = Ev d 11 18 (a0 :: a1 :: a2 :: .ref r :: L) st μ Q := e_astore_n (by decide +kernel : decode (bOf 11) 17 = .ok (.astore_n 3, 1)) (by show stOK _ 3 = true; simp [stOK, h])
theorem x_11_18 : Ev d 11 18 (a0 :: a1 :: a2 :: .ref r :: L) st μ Q = Ev d 11 19 (a0 :: a1 :: a2 :: .ref r :: L) (.ref r :: st) μ Q := e_aload_n (by decide +kernel : decode (bOf 11) 18 = .ok (.aload_n 3, 1)) rfl
theorem x_11_19 : Ev d 11 19 L (.ref r :: st) μ Q = Ev d 11 22 L st μ Q := e_ifnull (by decide +kernel : decode (bOf 11) 19 = .ok (.ifnull 14, 3))
theorem x_11_22 : Ev d 11 22 (a0 :: a1 :: a2 :: .ref r :: L) st μ Q = Ev d 11 23 (a0 :: a1 :: a2 :: .ref r :: L) (.ref r :: st) μ Q := e_aload_n (by decide +kernel : decode (bOf 11) 22 = .ok (.aload_n 3, 1)) rfl
theorem x_11_23 (h : kd t r = 2) : Ev d 11 23 L (.ref r :: st) (t, V, A, P) Q = Ev d 11 26 L (V r 4 :: st) (t, V, A, P) Q := e_getf (by decide +kernel : decode (bOf 11) 23 = .ok (.getfield 60, 3)) (by decide +kernel) (by decide +kernel) h
theorem x_11_26 : Ev d 11 26 (.ref r :: L) st μ Q = Ev d 11 27 (.ref r :: L) (.ref r :: st) μ Q := e_aload_n (by decide +kernel : decode (bOf 11) 26 = .ok (.aload_n 0, 1)) rfl
theorem x_11_27 (h : kd t r = 0) : Ev d 11 27 L (.ref r :: st) (t, V, A, P) Q = Ev d 11 30 L (V r 5 :: st) (t, V, A, P) Q := e_getf (by decide +kernel : decode (bOf 11) 27 = .ok (.getfield 31, 3)) (by decide +kernel) (by decide +kernel) h
theorem x_11_30 : Ev d 11 30 L (.int y :: .int x :: st) μ Q = if x < y then Ev d 11 34 L st μ Q else Ev d 11 33 L st μ Q := e_icmp_lt (by decide +kernel : decode (bOf 11) 30 = .ok (.if_icmp .lt 4, 3)) (by omega)
theorem x_11_33 : Ev d 11 33 L [] μ Q = Q none μ := e_ret (by decide +kernel : decode (bOf 11) 33 = .ok (.return_, 1)) (by decide +kernel)
theorem x_11_34 : Ev d 11 34 (a0 :: .int x :: L) st μ Q = Ev d 11 35 (a0 :: .int x :: L) (.int x :: st) μ Q := e_iload_n (by decide +kernel : decode (bOf 11) 34 = .ok (.iload_n 1, 1)) rfl
theorem x_11_35 : Ev d 11 35 (.ref r :: L) st μ Q = Ev d 11 36 (.ref r :: L) (.ref r :: st) μ Q := e_aload_n (by decide +kernel : decode (bOf 11) 35 = .ok (.aload_n 0, 1)) rfl
theorem x_11_36 (h : kd t r = 0) : Ev d 11 36 L (.ref r :: st) (t, V, A, P) Q = Ev d 11 39 L (V r 4 :: st) (t, V, A, P) Q := e_getf (by decide +kernel : decode (bOf 11) 36 = .ok (.getfield 27, 3)) (by decide +kernel) (by decide +kernel) h
theorem x_11_39 : Ev d 11 39 L (.int y :: .int x :: st) μ Q = if x < y then Ev d 11 42 L st μ Q else Ev d 11 48 L st μ Q := e_icmp_ge (by decide +kernel : decode (bOf 11) 39 = .ok (.if_icmp .ge 9, 3)) (by omega)
theorem x_11_42 : Ev d 11 42 (a0 :: .int x :: L) st μ Q = Ev d 11 43 (a0 :: .int x :: L) (.int x :: st) μ Q := e_iload_n (by decide +kernel : decode (bOf 11) 42 = .ok (.iload_n 1, 1)) rfl
theorem x_11_43 : Ev d 11 43 L st μ Q = Ev d 11 45 L (.int (iI 6) :: st) μ Q := e_bipush (by decide +kernel : decode (bOf 11) 43 = .ok (.bipush 6, 2)) (by decide +kernel)
theorem x_11_45 : Ev d 11 45 L (.int y :: .int x :: st) μ Q = if x < y then Ev d 11 57 L st μ Q else Ev d 11 48 L st μ Q := e_icmp_lt (by decide +kernel : decode (bOf 11) 45 = .ok (.if_icmp .lt 12, 3)) (by omega)
theorem x_11_48 : Ev d 11 48 (.ref r :: L) st μ Q = Ev d 11 49 (.ref r :: L) (.ref r :: st) μ Q := e_aload_n (by decide +kernel : decode (bOf 11) 48 = .ok (.aload_n 0, 1)) rfl
theorem x_11_49 : Ev d 11 49 (a0 :: a1 :: a2 :: .ref r :: L) st μ Q = Ev d 11 50 (a0 :: a1 :: a2 :: .ref r :: L) (.ref r :: st) μ Q := e_aload_n (by decide +kernel : decode (bOf 11) 49 = .ok (.aload_n 3, 1)) rfl
theorem x_11_50 (h : kd t r = 2) : Ev d 11 50 L (.ref r :: st) (t, V, A, P) Q = Ev d 11 53 L (V r 4 :: st) (t, V, A, P) Q := e_getf (by decide +kernel : decode (bOf 11) 50 = .ok (.getfield 60, 3)) (by decide +kernel) (by decide +kernel) h
theorem x_11_53 (h : kd t r = 0) : Ev d 11 53 L [b0, .ref r] (t, V, A, P) Q = Call d 12 [.ref r, b0] (t, V, A, P) (fun v μ1 => Ev d 11 56 L (v.toList ++ []) μ1 Q) := e_callV (a := [b0]) (r := []) (by decide +kernel : decode (bOf 11) 53 = .ok (.invokevirtual 63, 3)) (by decide +kernel) (by decide +kernel) (by decide +kernel) (by omega) rfl (by simp) (by decide +kernel) h
theorem x_11_56 : Ev d 11 56 L [] μ Q = Q none μ := e_ret (by decide +kernel : decode (bOf 11) 56 = .ok (.return_, 1)) (by decide +kernel)
theorem x_11_57 : Ev d 11 57 (.ref r :: L) st μ Q = Ev d 11 58 (.ref r :: L) (.ref r :: st) μ Q := e_aload_n (by decide +kernel : decode (bOf 11) 57 = .ok (.aload_n 0, 1)) rfl
theorem x_11_58 (h : kd t r = 0) : Ev d 11 58 L (.ref r :: st) (t, V, A, P) Q = Ev d 11 61 L (V r 0 :: st) (t, V, A, P) Q := e_getf (by decide +kernel : decode (bOf 11) 58 = .ok (.getfield 11, 3)) (by decide +kernel) (by decide +kernel) h
theorem x_11_61 : Ev d 11 61 (a0 :: .int x :: L) st μ Q = Ev d 11 62 (a0 :: .int x :: L) (.int x :: st) μ Q := e_iload_n (by decide +kernel : decode (bOf 11) 61 = .ok (.iload_n 1, 1)) rfl
theorem x_11_62 : Ev d 11 62 L st μ Q = Ev d 11 63 L (.int (iI 1) :: st) μ Q := e_iconst (by decide +kernel : decode (bOf 11) 62 = .ok (.iconst 1, 1))
theorem x_11_63 : Ev d 11 63 L (.int y :: .int x :: st) μ Q = Ev d 11 64 L (.int (x + y) :: st) μ Q := e_iadd (by decide +kernel : decode (bOf 11) 63 = .ok (.iadd, 1))
theorem x_11_64 (h : kd t r = 8) (hi : inB x (ln t r) = true) : Ev d 11 64 L (.int x :: .ref r :: st) (t, V, A, P) Q = Ev d 11 65 L (va_rf (P r x.toNatClampNeg) :: st) (t, V, A, P) Q := e_aald 8 (by omega) (by decide +kernel : decode (bOf 11) 64 = .ok (.aaload, 1)) h hi
theorem x_11_65 (h : a3.category = 1) : Ev d 11 65 (a0 :: a1 :: a2 :: a3 :: a4 :: L) (.ref r :: st) μ Q = Ev d 11 67 (a0 :: a1 :: a2 :: a3 :: .ref r :: L) st μ Q := e_astore (by decide +kernel : decode (bOf 11) 65 = .ok (.astore 4, 2)) (by show stOK _ 4 = true; simp [stOK, h])
theorem x_11_67 : Ev d 11 67 L st μ Q = Ev d 11 68 L (.int (iI 0) :: st) μ Q := e_iconst (by decide +kernel : decode (bOf 11) 67 = .ok (.iconst 0, 1))
theorem x_11_68 (h : a4.category = 1) : Ev d 11 68 (a0 :: a1 :: a2 :: a3 :: a4 :: a5 :: L) (.int x :: st) μ Q = Ev d 11 70 (a0 :: a1 :: a2 :: a3 :: a4 :: .int x :: L) st μ Q := e_istore (by decide +kernel : decode (bOf 11) 68 = .ok (.istore 5, 2)) (by show stOK _ 5 = true; simp [stOK, h])
theorem x_11_70 : Ev d 11 70 (a0 :: a1 :: a2 :: a3 :: .ref r :: L) st μ Q = Ev d 11 72 (a0 :: a1 :: a2 :: a3 :: .ref r :: L) (.ref r :: st) μ Q := e_aload (by decide +kernel : decode (bOf 11) 70 = .ok (.aload 4, 2)) rfl
theorem x_11_72 : Ev d 11 72 L (.ref r :: st) μ Q = Ev d 11 75 L st μ Q := e_ifnull (by decide +kernel : decode (bOf 11) 72 = .ok (.ifnull 81, 3))
theorem x_11_75 : Ev d 11 75 (a0 :: a1 :: a2 :: a3 :: a4 :: .int x :: L) st μ Q = Ev d 11 77 (a0 :: a1 :: a2 :: a3 :: a4 :: .int x :: L) (.int x :: st) μ Q := e_iload (by decide +kernel : decode (bOf 11) 75 = .ok (.iload 5, 2)) rfl
theorem x_11_77 : Ev d 11 77 (.ref r :: L) st μ Q = Ev d 11 78 (.ref r :: L) (.ref r :: st) μ Q := e_aload_n (by decide +kernel : decode (bOf 11) 77 = .ok (.aload_n 0, 1)) rfl
theorem x_11_78 (h : kd t r = 0) : Ev d 11 78 L (.ref r :: st) (t, V, A, P) Q = Ev d 11 81 L (V r 4 :: st) (t, V, A, P) Q := e_getf (by decide +kernel : decode (bOf 11) 78 = .ok (.getfield 27, 3)) (by decide +kernel) (by decide +kernel) h
theorem x_11_81 : Ev d 11 81 L (.int y :: .int x :: st) μ Q = if x < y then Ev d 11 84 L st μ Q else Ev d 11 153 L st μ Q := e_icmp_ge (by decide +kernel : decode (bOf 11) 81 = .ok (.if_icmp .ge 72, 3)) (by omega)
theorem x_11_84 : Ev d 11 84 (a0 :: a1 :: a2 :: a3 :: a4 :: .int x :: L) st μ Q = Ev d 11 86 (a0 :: a1 :: a2 :: a3 :: a4 :: .int x :: L) (.int x :: st) μ Q := e_iload (by decide +kernel : decode (bOf 11) 84 = .ok (.iload 5, 2)) rfl
theorem x_11_86 : Ev d 11 86 L st μ Q = Ev d 11 88 L (.int (iI 6) :: st) μ Q := e_bipush (by decide +kernel : decode (bOf 11) 86 = .ok (.bipush 6, 2)) (by decide +kernel)
theorem x_11_88 : Ev d 11 88 L (.int y :: .int x :: st) μ Q = if x < y then Ev d 11 91 L st μ Q else Ev d 11 153 L st μ Q := e_icmp_ge (by decide +kernel : decode (bOf 11) 88 = .ok (.if_icmp .ge 65, 3)) (by omega)
theorem x_11_91 : Ev d 11 91 (a0 :: a1 :: .int x :: L) st μ Q = Ev d 11 92 (a0 :: a1 :: .int x :: L) (.int x :: st) μ Q := e_iload_n (by decide +kernel : decode (bOf 11) 91 = .ok (.iload_n 2, 1)) rfl
theorem x_11_92 : Ev d 11 92 L st μ Q = Ev d 11 93 L (.int (iI 1) :: st) μ Q := e_iconst (by decide +kernel : decode (bOf 11) 92 = .ok (.iconst 1, 1))
theorem x_11_93 : Ev d 11 93 (a0 :: a1 :: a2 :: a3 :: a4 :: .int x :: L) st μ Q = Ev d 11 95 (a0 :: a1 :: a2 :: a3 :: a4 :: .int x :: L) (.int x :: st) μ Q := e_iload (by decide +kernel : decode (bOf 11) 93 = .ok (.iload 5, 2)) rfl
theorem x_11_95 : Ev d 11 95 L (.int y :: .int x :: st) μ Q = Ev d 11 96 L (.int (x <<< (y &&& 31)) :: st) μ Q := e_ishl (by decide +kernel : decode (bOf 11) 95 = .ok (.ishl, 1))
theorem x_11_96 : Ev d 11 96 L (.int y :: .int x :: st) μ Q = Ev d 11 97 L (.int (x &&& y) :: st) μ Q := e_iand (by decide +kernel : decode (bOf 11) 96 = .ok (.iand, 1))
theorem x_11_97 : Ev d 11 97 L (.int x :: st) μ Q = if x = iI 0 then Ev d 11 100 L st μ Q else Ev d 11 147 L st μ Q := e_if_ne (by decide +kernel : decode (bOf 11) 97 = .ok (.ifCond .ne 50, 3)) (by omega)
theorem x_11_100 : Ev d 11 100 (.ref r :: L) st μ Q = Ev d 11 101 (.ref r :: L) (.ref r :: st) μ Q := e_aload_n (by decide +kernel : decode (bOf 11) 100 = .ok (.aload_n 0, 1)) rfl
theorem x_11_101 (h : kd t r = 0) : Ev d 11 101 L (.ref r :: st) (t, V, A, P) Q = Ev d 11 104 L (V r 2 :: st) (t, V, A, P) Q := e_getf (by decide +kernel : decode (bOf 11) 101 = .ok (.getfield 21, 3)) (by decide +kernel) (by decide +kernel) h
theorem x_11_104 : Ev d 11 104 (a0 :: .int x :: L) st μ Q = Ev d 11 105 (a0 :: .int x :: L) (.int x :: st) μ Q := e_iload_n (by decide +kernel : decode (bOf 11) 104 = .ok (.iload_n 1, 1)) rfl
theorem x_11_105 : Ev d 11 105 (a0 :: a1 :: a2 :: a3 :: a4 :: .int x :: L) st μ Q = Ev d 11 107 (a0 :: a1 :: a2 :: a3 :: a4 :: .int x :: L) (.int x :: st) μ Q := e_iload (by decide +kernel : decode (bOf 11) 105 = .ok (.iload 5, 2)) rfl
theorem x_11_107 (h : kd t r = 6) (hi : inB x (ln t r) = true) : Ev d 11 107 L (.int y :: .int x :: .ref r :: st) (t, V, A, P) Q = Ev d 11 108 L st (t, V, up1 A r (upd (A r) x.toNatClampNeg y), P) Q := e_iast (by decide +kernel : decode (bOf 11) 107 = .ok (.iastore, 1)) h hi
theorem x_11_108 : Ev d 11 108 (a0 :: a1 :: a2 :: a3 :: .ref r :: L) st μ Q = Ev d 11 110 (a0 :: a1 :: a2 :: a3 :: .ref r :: L) (.ref r :: st) μ Q := e_aload (by decide +kernel : decode (bOf 11) 108 = .ok (.aload 4, 2)) rfl
theorem x_11_110 : Ev d 11 110 (a0 :: a1 :: a2 :: .ref r :: L) st μ Q = Ev d 11 111 (a0 :: a1 :: a2 :: .ref r :: L) (.ref r :: st) μ Q := e_aload_n (by decide +kernel : decode (bOf 11) 110 = .ok (.aload_n 3, 1)) rfl
theorem x_11_111 (h : kd t r = 2) : Ev d 11 111 L [b0, .ref r] (t, V, A, P) Q = Call d 25 [.ref r, b0] (t, V, A, P) (fun v μ1 => Ev d 11 114 L (v.toList ++ []) μ1 Q) := e_callV (a := [b0]) (r := []) (by decide +kernel : decode (bOf 11) 111 = .ok (.invokevirtual 66, 3)) (by decide +kernel) (by decide +kernel) (by decide +kernel) (by omega) rfl (by simp) (by decide +kernel) h
theorem x_11_114 : Ev d 11 114 (a0 :: a1 :: a2 :: a3 :: .ref r :: L) st μ Q = Ev d 11 116 (a0 :: a1 :: a2 :: a3 :: .ref r :: L) (.ref r :: st) μ Q := e_aload (by decide +kernel : decode (bOf 11) 114 = .ok (.aload 4, 2)) rfl
theorem x_11_116 : Ev d 11 116 (.ref r :: L) st μ Q = Ev d 11 117 (.ref r :: L) (.ref r :: st) μ Q := e_aload_n (by decide +kernel : decode (bOf 11) 116 = .ok (.aload_n 0, 1)) rfl
theorem x_11_117 (h : kd t r = 0) : Ev d 11 117 L (.ref r :: st) (t, V, A, P) Q = Ev d 11 120 L (V r 1 :: st) (t, V, A, P) Q := e_getf (by decide +kernel : decode (bOf 11) 117 = .ok (.getfield 17, 3)) (by decide +kernel) (by decide +kernel) h
theorem x_11_120 : Ev d 11 120 (a0 :: a1 :: a2 :: a3 :: a4 :: .int x :: L) st μ Q = Ev d 11 122 (a0 :: a1 :: a2 :: a3 :: a4 :: .int x :: L) (.int x :: st) μ Q := e_iload (by decide +kernel : decode (bOf 11) 120 = .ok (.iload 5, 2)) rfl
theorem x_11_122 (h : kd t r = 6) (hi : inB x (ln t r) = true) : Ev d 11 122 L (.int x :: .ref r :: st) (t, V, A, P) Q = Ev d 11 123 L (.int (A r x.toNatClampNeg) :: st) (t, V, A, P) Q := e_iald (by decide +kernel : decode (bOf 11) 122 = .ok (.iaload, 1)) h hi
theorem x_11_123 : Ev d 11 123 (a0 :: a1 :: a2 :: .ref r :: L) st μ Q = Ev d 11 124 (a0 :: a1 :: a2 :: .ref r :: L) (.ref r :: st) μ Q := e_aload_n (by decide +kernel : decode (bOf 11) 123 = .ok (.aload_n 3, 1)) rfl
theorem x_11_124 (h : kd t r = 2) : Ev d 11 124 L (.ref r :: st) (t, V, A, P) Q = Ev d 11 127 L (V r 0 :: st) (t, V, A, P) Q := e_getf (by decide +kernel : decode (bOf 11) 124 = .ok (.getfield 70, 3)) (by decide +kernel) (by decide +kernel) h
theorem x_11_127 : Ev d 11 127 L [b1, b0, s0] μ Q = Call d 3 [b0, b1] μ (fun v μ1 => Ev d 11 130 L (v.toList ++ [s0]) μ1 Q) := e_callS (a := [b0, b1]) (r := [s0]) (by decide +kernel : decode (bOf 11) 127 = .ok (.invokestatic 73, 3)) (by decide +kernel) (by decide +kernel) (by omega) rfl (by simp)
theorem x_11_130 (h : kd t r = 2) : Ev d 11 130 L [b0, .ref r] (t, V, A, P) Q = Call d 27 [.ref r, b0] (t, V, A, P) (fun v μ1 => Ev d 11 133 L (v.toList ++ []) μ1 Q) := e_callV (a := [b0]) (r := []) (by decide +kernel : decode (bOf 11) 130 = .ok (.invokevirtual 56, 3)) (by decide +kernel) (by decide +kernel) (by decide +kernel) (by omega) rfl (by simp) (by decide +kernel) h
theorem x_11_133 : Ev d 11 133 L (.int x :: st) μ Q = Ev d 11 134 L st μ Q := e_pop (by decide +kernel : decode (bOf 11) 133 = .ok (.pop, 1))
theorem x_11_134 : Ev d 11 134 (.ref r :: L) st μ Q = Ev d 11 135 (.ref r :: L) (.ref r :: st) μ Q := e_aload_n (by decide +kernel : decode (bOf 11) 134 = .ok (.aload_n 0, 1)) rfl
theorem x_11_135 : Ev d 11 135 (a0 :: .int x :: L) st μ Q = Ev d 11 136 (a0 :: .int x :: L) (.int x :: st) μ Q := e_iload_n (by decide +kernel : decode (bOf 11) 135 = .ok (.iload_n 1, 1)) rfl
theorem x_11_136 : Ev d 11 136 L st μ Q = Ev d 11 137 L (.int (iI 1) :: st) μ Q := e_iconst (by decide +kernel : decode (bOf 11) 136 = .ok (.iconst 1, 1))
theorem x_11_137 : Ev d 11 137 L (.int y :: .int x :: st) μ Q = Ev d 11 138 L (.int (x + y) :: st) μ Q := e_iadd (by decide +kernel : decode (bOf 11) 137 = .ok (.iadd, 1))
theorem x_11_138 : Ev d 11 138 (a0 :: a1 :: .int x :: L) st μ Q = Ev d 11 139 (a0 :: a1 :: .int x :: L) (.int x :: st) μ Q := e_iload_n (by decide +kernel : decode (bOf 11) 138 = .ok (.iload_n 2, 1)) rfl
theorem x_11_139 : Ev d 11 139 L st μ Q = Ev d 11 140 L (.int (iI 1) :: st) μ Q := e_iconst (by decide +kernel : decode (bOf 11) 139 = .ok (.iconst 1, 1))
theorem x_11_140 : Ev d 11 140 (a0 :: a1 :: a2 :: a3 :: a4 :: .int x :: L) st μ Q = Ev d 11 142 (a0 :: a1 :: a2 :: a3 :: a4 :: .int x :: L) (.int x :: st) μ Q := e_iload (by decide +kernel : decode (bOf 11) 140 = .ok (.iload 5, 2)) rfl
theorem x_11_142 : Ev d 11 142 L (.int y :: .int x :: st) μ Q = Ev d 11 143 L (.int (x <<< (y &&& 31)) :: st) μ Q := e_ishl (by decide +kernel : decode (bOf 11) 142 = .ok (.ishl, 1))
theorem x_11_143 : Ev d 11 143 L (.int y :: .int x :: st) μ Q = Ev d 11 144 L (.int (x ||| y) :: st) μ Q := e_ior (by decide +kernel : decode (bOf 11) 143 = .ok (.ior, 1))
theorem x_11_144 : Ev d 11 144 L [b2, b1, b0] μ Q = Call d 11 [b0, b1, b2] μ (fun v μ1 => Ev d 11 147 L (v.toList ++ []) μ1 Q) := e_callS (a := [b0, b1, b2]) (r := []) (by decide +kernel : decode (bOf 11) 144 = .ok (.invokestatic 45, 3)) (by decide +kernel) (by decide +kernel) (by omega) rfl (by simp)
theorem x_11_147 (h : a4.category = 1) : Ev d 11 147 (a0 :: a1 :: a2 :: a3 :: a4 :: .int x :: L) st μ Q = Ev d 11 150 (a0 :: a1 :: a2 :: a3 :: a4 :: .int (x + (iI 1)) :: L) st μ Q := e_iinc (by decide +kernel : decode (bOf 11) 147 = .ok (.iinc 5 1, 3)) rfl (by simp [stOK, h])
theorem x_11_150 : Ev d 11 150 L st μ Q = Ev d 11 70 L st μ Q := e_goto (by decide +kernel : decode (bOf 11) 150 = .ok (.goto (-80), 3)) (by omega)
theorem x_11_153 : Ev d 11 153 L [] μ Q = Q none μ := e_ret (by decide +kernel : decode (bOf 11) 153 = .ok (.return_, 1)) (by decide +kernel)
theorem c_12 : Call (d + 1) 12 [.ref r0, .int i1] μ Q = Ev d 12 0 [.ref r0, .int i1, .null] [] μ Q := call_ev rfl rfl
theorem x_12_0 : Ev d 12 0 (.ref r :: L) st μ Q = Ev d 12 1 (.ref r :: L) (.ref r :: st) μ Q := e_aload_n (by decide +kernel : decode (bOf 12) 0 = .ok (.aload_n 0, 1)) rfl
theorem x_12_1 : Ev d 12 1 (a0 :: .int x :: L) st μ Q = Ev d 12 2 (a0 :: .int x :: L) (.int x :: st) μ Q := e_iload_n (by decide +kernel : decode (bOf 12) 1 = .ok (.iload_n 1, 1)) rfl
theorem x_12_2 (h : kd t r = 0) : Ev d 12 2 L (.int x :: .ref r :: st) (t, V, A, P) Q = Ev d 12 5 L st (t, up1 V r (up1 (V r) 5 (.int x)), A, P) Q := e_putf (by decide +kernel : decode (bOf 12) 2 = .ok (.putfield 31, 3)) (by decide +kernel) (by decide +kernel) rfl h
theorem x_12_5 : Ev d 12 5 L st μ Q = Ev d 12 6 L (.int (iI 0) :: st) μ Q := e_iconst (by decide +kernel : decode (bOf 12) 5 = .ok (.iconst 0, 1))
theorem x_12_6 (h : a1.category = 1) : Ev d 12 6 (a0 :: a1 :: a2 :: L) (.int x :: st) μ Q = Ev d 12 7 (a0 :: a1 :: .int x :: L) st μ Q := e_istore_n (by decide +kernel : decode (bOf 12) 6 = .ok (.istore_n 2, 1)) (by show stOK _ 2 = true; simp [stOK, h])
theorem x_12_7 : Ev d 12 7 (a0 :: a1 :: .int x :: L) st μ Q = Ev d 12 8 (a0 :: a1 :: .int x :: L) (.int x :: st) μ Q := e_iload_n (by decide +kernel : decode (bOf 12) 7 = .ok (.iload_n 2, 1)) rfl
theorem x_12_8 : Ev d 12 8 L st μ Q = Ev d 12 10 L (.int (iI 6) :: st) μ Q := e_bipush (by decide +kernel : decode (bOf 12) 8 = .ok (.bipush 6, 2)) (by decide +kernel)
theorem x_12_10 : Ev d 12 10 L (.int y :: .int x :: st) μ Q = if x < y then Ev d 12 13 L st μ Q else Ev d 12 31 L st μ Q := e_icmp_ge (by decide +kernel : decode (bOf 12) 10 = .ok (.if_icmp .ge 21, 3)) (by omega)
theorem x_12_13 : Ev d 12 13 (.ref r :: L) st μ Q = Ev d 12 14 (.ref r :: L) (.ref r :: st) μ Q := e_aload_n (by decide +kernel : decode (bOf 12) 13 = .ok (.aload_n 0, 1)) rfl
theorem x_12_14 (h : kd t r = 0) : Ev d 12 14 L (.ref r :: st) (t, V, A, P) Q = Ev d 12 17 L (V r 3 :: st) (t, V, A, P) Q := e_getf (by decide +kernel : decode (bOf 12) 14 = .ok (.getfield 24, 3)) (by decide +kernel) (by decide +kernel) h
theorem x_12_17 : Ev d 12 17 (a0 :: a1 :: .int x :: L) st μ Q = Ev d 12 18 (a0 :: a1 :: .int x :: L) (.int x :: st) μ Q := e_iload_n (by decide +kernel : decode (bOf 12) 17 = .ok (.iload_n 2, 1)) rfl
theorem x_12_18 : Ev d 12 18 (.ref r :: L) st μ Q = Ev d 12 19 (.ref r :: L) (.ref r :: st) μ Q := e_aload_n (by decide +kernel : decode (bOf 12) 18 = .ok (.aload_n 0, 1)) rfl
theorem x_12_19 (h : kd t r = 0) : Ev d 12 19 L (.ref r :: st) (t, V, A, P) Q = Ev d 12 22 L (V r 2 :: st) (t, V, A, P) Q := e_getf (by decide +kernel : decode (bOf 12) 19 = .ok (.getfield 21, 3)) (by decide +kernel) (by decide +kernel) h
theorem x_12_22 : Ev d 12 22 (a0 :: a1 :: .int x :: L) st μ Q = Ev d 12 23 (a0 :: a1 :: .int x :: L) (.int x :: st) μ Q := e_iload_n (by decide +kernel : decode (bOf 12) 22 = .ok (.iload_n 2, 1)) rfl
theorem x_12_23 (h : kd t r = 6) (hi : inB x (ln t r) = true) : Ev d 12 23 L (.int x :: .ref r :: st) (t, V, A, P) Q = Ev d 12 24 L (.int (A r x.toNatClampNeg) :: st) (t, V, A, P) Q := e_iald (by decide +kernel : decode (bOf 12) 23 = .ok (.iaload, 1)) h hi
theorem x_12_24 (h : kd t r = 6) (hi : inB x (ln t r) = true) : Ev d 12 24 L (.int y :: .int x :: .ref r :: st) (t, V, A, P) Q = Ev d 12 25 L st (t, V, up1 A r (upd (A r) x.toNatClampNeg y), P) Q := e_iast (by decide +kernel : decode (bOf 12) 24 = .ok (.iastore, 1)) h hi
theorem x_12_25 (h : a1.category = 1) : Ev d 12 25 (a0 :: a1 :: .int x :: L) st μ Q = Ev d 12 28 (a0 :: a1 :: .int (x + (iI 1)) :: L) st μ Q := e_iinc (by decide +kernel : decode (bOf 12) 25 = .ok (.iinc 2 1, 3)) rfl (by simp [stOK, h])
theorem x_12_28 : Ev d 12 28 L st μ Q = Ev d 12 7 L st μ Q := e_goto (by decide +kernel : decode (bOf 12) 28 = .ok (.goto (-21), 3)) (by omega)
theorem x_12_31 : Ev d 12 31 L [] μ Q = Q none μ := e_ret (by decide +kernel : decode (bOf 12) 31 = .ok (.return_, 1)) (by decide +kernel)
end Xa
